/-! every operation, by cases, fourth part -/
set_option maxHeartbeats 1000000 in
theorem op_proof {l : Launch} {D : va_G} {cy ad : Nat → Nat} {I : Im} {G : Dm} {J : Jm} {T : Nat} (hno : l.stackTraces = false) (hadI : adI ad) (h0 : Rel I G J T) (hT : T < 8192) (X0 : UInt64) : ∃ (code1 : Int32) (b0 : Int32) (I1 : Im) (G1 : Dm) (J1 : Jm) (I2 : Im) (G2 : Dm), (∀ x0 : UInt64, cn x0 = X0 → nD l yL_proof (.codeWith yL_proof cL_proof 5 (some .int) [(0, 9, 12, 21)]) D cy ad [.ref (ad 0), .double x0, .ref (ad 70)] I G J (qI D cy ad code1 I1 G1 J1)) ∧ (∀ x0 : UInt64, cn x0 = X0 → kD l yX5_proof (.code yX5_proof cX5_proof 5 (some .int)) rU D cy ad [.ref (ad 53), .double x0] I1 G1 J1 (qI D cy ad b0 I2 G2 J1)) ∧ I2 53 0 = code1 ∧ (code1 = 0 → J1 70 0 = b0.toInt64) ∧ Rel I2 G2 J1 (T + 1) := by
  have h : Rel I G J (T + 1) := h0.le (Nat.le_succ T)
  obtain ⟨hJ, ⟨n, hB⟩, hN, hL, hC, hR⟩ := id h
  have hn := hB.1
  have hn5 := hB.2.1
  have hn2 := hB.2.2.1
  cases hin : bIn X0 0 1000
  · exact ⟨1, 0, I, G, J, u2 I 53 0 1, G, fun x0 hx0 => v_L_proof_IAE hadI (uX (x_X4_proof hadI hno hx0 hin)), fun x0 hx0 => uM (x_X5_proof hadI hx0 ((in_1000 X0).symm.trans hin)), u2_eq _ _ _ _, fun z => absurd z (by decide), h.t 1⟩
  · generalize hI1 : prI I G X0 32 = I1
    have f1 : ∀ c k, (k ≠ 6 ∨ c < 2 ∨ 34 ≤ c) → I1 c k = I c k := fun c k q => by rw [← hI1]; exact prI_fr I G X0 32 c k (by omega)
    obtain ⟨p1, p2⟩ := pr_s (I := I) (K := I1) (G := G) (X := X0) hB (fun c k q => f1 c k (by omega)) 32 (Nat.le_refl _)
    rw [show min 32 n = n by omega] at p1 p2
    generalize hI2 : mpI I1 G X0 n = I2
    rw [hI1, hI2] at p2
    have f2 : ∀ c k, c ≠ 60 → ¬ (c = 53 ∧ k = 0) → I2 c k = I1 c k := fun c k q1 q2 => by rw [← hI2]; exact mpI_fr I1 G X0 n c k (Or.inl q1) q2
    have f60 : ∀ k, n ≤ k → I2 60 k = I 60 k := fun k q => by rw [← hI2]; exact (mpI_fr I1 G X0 n 60 k (Or.inr q) (by omega)).trans (f1 60 k (by omega))
    have f53 : I2 53 0 = 0 := by rw [← hI2]; exact mpI_0 I1 G X0 n
    have ff : ∀ c k, c ≠ 60 → ¬ (c = 53 ∧ k = 0) → (k ≠ 6 ∨ c < 2 ∨ 34 ≤ c) → I2 c k = I c k := fun c k q1 q2 q3 => (f2 c k q1 q2).trans (f1 c k q3)
    refine ⟨0, nI (mpN I1 G X0 n), I1, G, u2 J 70 0 (nI (prN I G X0 32)).toInt64, I2, G, fun x0 hx0 => v_L_proof hadI (by rw [← hI1]; exact uM (k_X4_proof hadI hx0 hin)), fun x0 hx0 => by rw [← hI2]; exact uM (k_X5_proof hadI ((f1 53 2 (by omega)).trans hn5) hn2 hx0 ((in_1000 X0).symm.trans hin)), f53, fun _ => by rw [u2_eq, p1], ?_⟩
    refine h.mk (n := n) ?_ (u2_ne (by omega)) (ff 0 0 (by omega) (by omega) (by omega)) hN hL (fun c k q => ff c k (by omega) (by omega) (by omega)) (fun c k q => ff c k (by omega) (by omega) (by omega)) (fun _ _ _ => rfl)
    refine ⟨(ff 0 2 (by omega) (by omega) (by omega)).trans hn, (ff 53 2 (by omega) (by omega) (by omega)).trans hn5, hn2, fun b hb => ?_, hB.2.2.2.2.1, fun b hb => ?_⟩
    · obtain ⟨r, g1, g2, g3, g4⟩ := hB.2.2.2.1 b hb
      exact ⟨r, g1, (ff _ 0 (by omega) (by omega) (by omega)).trans g2, (ff 55 b (by omega) (by omega) (by omega)).trans g3, g4⟩
    · obtain ⟨g1, g2, g3⟩ := hB.2.2.2.2.2 b hb
      refine ⟨(ff _ 5 (by omega) (by omega) (by omega)).trans (g1.trans (ff 59 b (by omega) (by omega) (by omega)).symm), (f2 _ 6 (by omega) (by omega)).trans (p2 b hb), fun z => ?_⟩
      obtain ⟨y1, y2, y3⟩ := g3 z
      exact ⟨(ff 55 b (by omega) (by omega) (by omega)).trans y1, (ff 59 b (by omega) (by omega) (by omega)).trans y2, (f60 b z).trans y3⟩

set_option maxHeartbeats 1000000 in
theorem op_about {l : Launch} {D : va_G} {cy ad : Nat → Nat} {I : Im} {G : Dm} {J : Jm} {T : Nat} (hno : l.stackTraces = false) (hadI : adI ad) (h0 : Rel I G J T) (hT : T < 8192) (v0 : Int32) (v1 : Int32) : ∃ (code1 : Int32) (b0 : Int32) (I1 : Im) (G1 : Dm) (J1 : Jm) (I2 : Im) (G2 : Dm), (nD l yL_about (.codeWith yL_about cL_about 5 (some .int) [(0, 10, 13, 19)]) D cy ad [.ref (ad 0), .int v0, .int v1, .ref (ad 70)] I G J (qI D cy ad code1 I1 G1 J1)) ∧ (kD l yX5_about (.code yX5_about cX5_about 3 (some .int)) rU D cy ad [.ref (ad 53), .int v0, .int v1] I1 G1 J1 (qI D cy ad b0 I2 G2 J1)) ∧ I2 53 0 = code1 ∧ (code1 = 0 → J1 70 0 = b0.toInt64) ∧ Rel I2 G2 J1 (T + 1) := by
  have h : Rel I G J (T + 1) := h0.le (Nat.le_succ T)
  obtain ⟨hJ, ⟨n, hB⟩, hN, hL, hC, hR⟩ := id h
  have hn := hB.1
  have hn5 := hB.2.1
  have hn2 := hB.2.2.1
  rcases idx v0 (n := n) (by omega) with q | ⟨k, hk, rfl⟩
  · exact ⟨1, 0, I, G, J, u2 I 53 0 1, G, v_L_about_IOOBE hadI (uX (x1_X4_about hadI hno (by rw [hn]; exact q))), uM (x1_X5_about hadI (by rw [hn5]; exact q)), u2_eq _ _ _ _, fun z => absurd z (by decide), h.t 1⟩
  · have hk32 : k < 32 := by omega
    rcases idx v1 (n := 4) (by omega) with q | ⟨w, hw, rfl⟩
    · have q5 : v1 < 0 ∨ ¬ v1 ≤ 3 := q.imp id (fun z y => z (lt_4.mpr y))
      have q4 : v1.toInt < 0 ∨ 3 < v1.toInt := by
        rcases q5 with z | z
        · rw [Int32.lt_iff_toInt_lt] at z; exact Or.inl z
        · rw [i_nle, Int32.lt_iff_toInt_lt] at z; exact Or.inr z
      exact ⟨1, 0, I, G, J, u2 I 53 0 1, G, v_L_about_IOOBE hadI (uX (x2_X4_about hadI hno hn hk hn2 q4)), uM (x2_X5_about hadI hn5 hk hn2 q5), u2_eq _ _ _ _, fun z => absurd z (by decide), h.t 1⟩
    · obtain ⟨r, g1, g2, g3, -⟩ := hB.2.2.2.1 k hk32
      obtain ⟨b5, b6, -⟩ := hB.2.2.2.2.2 k hk32
      rcases (show w = 0 ∨ w = 1 ∨ w = 2 ∨ w = 3 by omega) with rfl | rfl | rfl | rfl
      · exact ⟨0, I 55 k, I, G, u2 J 70 0 (I (2 + k) 0).toInt64, u2 I 53 0 0, G, v_L_about hadI (uM (k_X4_about_0 hadI hn hk hn2)), uM (k_X5_about_0 hadI hn5 hk hn2), u2_eq _ _ _ _, fun _ => by rw [u2_eq]; exact congrArg Int32.toInt64 (g2.trans g3.symm), (h.t 0).o _⟩
      · exact ⟨0, zB (mCompl (u2 I 53 0 0) G k), I, G, u2 J 70 0 (zB (bCompl I G (2 + k))).toInt64, u2 I 53 0 0, G, v_L_about hadI (uM (k_X4_about_1 hadI hn hk hn2)), uM (k_X5_about_1 hadI hn5 hk hn2), u2_eq _ _ _ _, fun _ => by rw [u2_eq]; exact congrArg Int32.toInt64 (congrArg zB (hB.compl hk32)), (h.t 0).o _⟩
      · exact ⟨0, zB (decide (¬ I 59 k = 0)), I, G, u2 J 70 0 (zB (decide (¬ I (2 + k) 5 = 0))).toInt64, u2 I 53 0 0, G, v_L_about hadI (uM (k_X4_about_2 hadI hn hk hn2)), uM (k_X5_about_2 hadI hn5 hk hn2), u2_eq _ _ _ _, fun _ => by rw [u2_eq]; exact congrArg Int32.toInt64 (by rw [b5]), (h.t 0).o _⟩
      · exact ⟨0, zB (decide (¬ I 60 k = 0)), I, G, u2 J 70 0 (zB (decide (¬ I (2 + k) 6 = 0))).toInt64, u2 I 53 0 0, G, v_L_about hadI (uM (k_X4_about_3 hadI hn hk hn2)), uM (k_X5_about_3 hadI hn5 hk hn2), u2_eq _ _ _ _, fun _ => by rw [u2_eq]; exact congrArg Int32.toInt64 (by rw [b6]), (h.t 0).o _⟩

set_option maxHeartbeats 1000000 in
theorem op_reference {l : Launch} {D : va_G} {cy ad : Nat → Nat} {I : Im} {G : Dm} {J : Jm} {T : Nat} (hno : l.stackTraces = false) (hadI : adI ad) (h0 : Rel I G J T) (hT : T < 8192) (v0 : Int32) (X1 : UInt64) (hfm : fm X1) : ∃ (code1 : Int32) (b0 : Int32) (I1 : Im) (G1 : Dm) (J1 : Jm) (I2 : Im) (G2 : Dm), (∀ x1 : UInt64, cn x1 = X1 → nD l yL_reference (.codeWith yL_reference cL_reference 6 (some .int) [(0, 11, 14, 21), (0, 11, 18, 13)]) D cy ad [.ref (ad 0), .int v0, .double x1, .ref (ad 70)] I G J (qI D cy ad code1 I1 G1 J1)) ∧ (∀ x1 : UInt64, cn x1 = X1 → kD l yX5_reference (.code yX5_reference cX5_reference 5 (some .int)) rU D cy ad [.ref (ad 53), .int v0, .double x1] I1 G1 J1 (qI D cy ad b0 I2 G2 J1)) ∧ I2 53 0 = code1 ∧ (code1 = 0 → J1 70 0 = b0.toInt64) ∧ Rel I2 G2 J1 (T + 1) := by
  have h : Rel I G J (T + 1) := h0.le (Nat.le_succ T)
  obtain ⟨hJ, ⟨n, hB⟩, hN, hL, hC, hR⟩ := id h
  have hn := hB.1
  have hn5 := hB.2.1
  have hn2 := hB.2.2.1
  obtain ⟨c, c1, c2, c3, c4, c5, c6, c7⟩ := hR
  have hlast : ¬ c = 0 → I 50 3 = I 68 (c - 1) := fun z => (c7 (by omega)).trans (c4 (c - 1) (by omega)).1
  cases hok : (bDay v0 && (decide (¬ v0 ≤ I 50 3) && bIn X1 (-1000) 1000))
  · have hv : v0 < 0 ∨ 10000 < v0 ∨ (¬ c = 0 ∧ v0 ≤ I 68 (c - 1)) ∨ mBt X1 13875379345695965184 4652007308841189376 = false := by
      by_cases z1 : v0 < 0
      · exact Or.inl z1
      by_cases z2 : 10000 < v0
      · exact Or.inr (Or.inl z2)
      have hd : bDay v0 = true := by unfold bDay; rw [decide_eq_true z1, decide_eq_true z2]; rfl
      rw [hd, Bool.true_and] at hok
      by_cases z3 : v0 ≤ I 50 3
      · by_cases z4 : c = 0
        · rw [c6 z4, Int32.le_iff_toInt_le] at z3
          refine absurd ?_ z1
          rw [Int32.lt_iff_toInt_lt]
          have e0 : (0 : Int32).toInt = 0 := rfl
          have e1 : (-1 : Int32).toInt = -1 := by decide
          omega
        · exact Or.inr (Or.inr (Or.inl ⟨z4, by rw [← hlast z4]; exact z3⟩))
      · rw [decide_eq_true z3, Bool.true_and, in_m] at hok
        exact Or.inr (Or.inr (Or.inr hok))
    exact ⟨1, 0, I, G, J, u2 I 53 0 1, G, fun x1 hx1 => v_L_reference_IAE hadI (uX (x1_X4_reference hadI hno hx1 hok)), fun x1 hx1 => uM (x1_X5_reference hadI c3 c1 hx1 hv), u2_eq _ _ _ _, fun z => absurd z (by decide), h.t 1⟩
  · rw [Bool.and_eq_true, Bool.and_eq_true] at hok
    obtain ⟨k1, k2, k3⟩ := hok
    have k2' := of_decide_eq_true k2
    have k3' := (in_m X1).symm.trans k3
    by_cases q : c < 16
    · generalize hI1 : u2 (u2 (u2 I 51 c v0) 50 3 v0) 50 2 (nI (c + 1)) = I1
      have f1 : ∀ d k, ¬ (d = 51 ∧ k = c) → ¬ (d = 50 ∧ 2 ≤ k) → I1 d k = I d k := fun d k y1 y2 => by rw [← hI1]; exact ((u2_ne (by omega)).trans ((u2_ne (by omega)).trans (u2_ne (by omega))))
      have a1 : I1 51 c = v0 := by rw [← hI1]; exact (u2_ne (by omega)).trans ((u2_ne (by omega)).trans (u2_eq _ _ _ _))
      have a2 : I1 50 3 = v0 := by rw [← hI1]; exact (u2_ne (by omega)).trans (u2_eq _ _ _ _)
      have a3 : I1 50 2 = nI (c + 1) := by rw [← hI1]; exact u2_eq _ _ _ _
      generalize hI2 : u2 (u2 (u2 I1 53 0 0) 68 c v0) 53 21 (nI (c + 1)) = I2
      have f2 : ∀ d k, ¬ (d = 68 ∧ k = c) → ¬ (d = 53 ∧ (k = 0 ∨ k = 21)) → I2 d k = I1 d k := fun d k y1 y2 => by rw [← hI2]; exact ((u2_ne (by omega)).trans ((u2_ne (by omega)).trans (u2_ne (by omega))))
      have d1 : I2 68 c = v0 := by rw [← hI2]; exact (u2_ne (by omega)).trans (u2_eq _ _ _ _)
      have d2 : I2 53 21 = nI (c + 1) := by rw [← hI2]; exact u2_eq _ _ _ _
      have d3 : I2 53 0 = 0 := by rw [← hI2]; exact (u2_ne (by omega)).trans ((u2_ne (by omega)).trans (u2_eq _ _ _ _))
      have eg : ∀ d k, ¬ (d = 52 ∧ k = c) → ¬ (d = 69 ∧ k = c) → u2 (u2 G 52 c X1) 69 c X1 d k = G d k := fun d k y1 y2 => ((u2_ne (by omega)).trans (u2_ne (by omega)))
      refine ⟨0, nI (c + 1), I1, u2 G 52 c X1, u2 J 70 0 (nI (c + 1)).toInt64, I2, u2 (u2 G 52 c X1) 69 c X1, fun x1 hx1 => v_L_reference hadI (by rw [← hI1]; exact uM (k_X4_reference hadI c2 q hx1 k1 k2' k3)), fun x1 hx1 => by rw [← hI2]; exact uM (k_X5_reference hadI ((f1 53 21 (by omega) (by omega)).trans c3) q hx1 k1 (by
        by_cases y : c = 0
        · exact Or.inl y
        · exact Or.inr (by rw [f1 68 (c - 1) (by omega) (by omega), ← hlast y]; exact k2')) k3'), d3, fun _ => u2_eq _ _ _ _, ?_⟩
      have ff : ∀ d k, d ≠ 50 → d ≠ 51 → d ≠ 68 → ¬ (d = 53 ∧ (k = 0 ∨ k = 21)) → I2 d k = I d k := fun d k y1 y2 y3 y4 => (f2 d k (by omega) y4).trans (f1 d k (by omega) (by omega))
      refine ⟨(u2_ne (by omega)).trans (hJ.trans (by rw [ff 0 0 (by omega) (by omega) (by omega) (by omega)])), ⟨n, RB_c hB (fun d k y => ff d k (by omega) (by omega) (by omega) (by omega)) (fun d k y => eg d k (by omega) (by omega))⟩, RN_c hN (fun d k y => eg d k (by omega) (by omega)), RL_c hL (fun d k y => eg d k (by omega) (by omega)), RC_c hC (fun d k y => ff d k (by omega) (by omega) (by omega) (by omega)), ?_⟩
      refine ⟨c + 1, by omega, (f2 50 2 (by omega) (by omega)).trans a3, d2, fun k hk => ?_, fun k hk => ?_, fun y => absurd y (by omega), fun _ => ?_⟩
      · by_cases y : k = c
        · subst y
          refine ⟨((f2 51 k (by omega) (by omega)).trans a1).trans d1.symm, ((u2_ne (by omega)).trans (u2_eq _ _ _ _)).trans (u2_eq _ _ _ _).symm, ?_⟩
          rw [u2_ne (by omega), u2_eq]
          exact hfm
        · obtain ⟨m1, m2, m3⟩ := c4 k (by omega)
          rw [f2 51 k (by omega) (by omega), f1 51 k (by omega) (by omega), f2 68 k (by omega) (by omega), f1 68 k (by omega) (by omega), eg 52 k (by omega) (by omega), eg 69 k (by omega) (by omega)]
          exact ⟨m1, m2, m3⟩
      · by_cases y : k + 1 = c
        · subst y
          rw [f2 51 (k + 1) (by omega) (by omega), a1, f2 51 k (by omega) (by omega), f1 51 k (by omega) (by omega)]
          have := c7 (by omega)
          rw [Nat.add_sub_cancel] at this
          rw [← this]
          exact i_nle.mp k2'
        · rw [f2 51 (k + 1) (by omega) (by omega), f1 51 (k + 1) (by omega) (by omega), f2 51 k (by omega) (by omega), f1 51 k (by omega) (by omega)]
          exact c5 k (by omega)
      · rw [f2 50 3 (by omega) (by omega), a2, Nat.add_sub_cancel, f2 51 c (by omega) (by omega), a1]
    · obtain rfl : c = 16 := by omega
      exact ⟨2, 0, I, G, J, u2 I 53 0 2, G, fun x1 hx1 => v_L_reference_ISE hadI (uX (x2_X4_reference hadI hno hx1 k1 k2' k3 (by rw [c2]; decide))), fun x1 hx1 => uM (x2_X5_reference hadI c3 hx1 k1 (by have := hlast (by decide); rw [this] at k2'; exact k2') k3'), u2_eq _ _ _ _, fun z => absurd z (by decide), h.t 2⟩

theorem betw_c {I : Im} {G G' : Dm} {a b : Nat} {v : Int32} (h : ∀ k, G' 52 k = G 52 k) : betw I G' a b v = betw I G a b v := by unfold betw; rw [h, h]
theorem vaF_c {I : Im} {G G' : Dm} {v : Int32} (h : ∀ k, G' 52 k = G 52 k) : ∀ n i x, vaF I G' v n i x = vaF I G v n i x
  | 0, _, _ => rfl
  | n + 1, i, x => by
    show (if v = I 51 i then G' 52 i else if i = 0 ∧ ¬ I 51 i ≤ v then G' 52 i else if ¬ i = 0 ∧ ¬ v ≤ I 51 (i - 1) ∧ ¬ I 51 i ≤ v then betw I G' (i - 1) i v else vaF I G' v n (i + 1) (G' 52 i)) = (if v = I 51 i then G 52 i else if i = 0 ∧ ¬ I 51 i ≤ v then G 52 i else if ¬ i = 0 ∧ ¬ v ≤ I 51 (i - 1) ∧ ¬ I 51 i ≤ v then betw I G (i - 1) i v else vaF I G v n (i + 1) (G 52 i))
    rw [h, betw_c h, vaF_c h n (i + 1) (G 52 i)]
set_option maxHeartbeats 1000000 in
theorem op_drift {l : Launch} {D : va_G} {cy ad : Nat → Nat} {I : Im} {G : Dm} {J : Jm} {T : Nat} (hno : l.stackTraces = false) (hadI : adI ad) (h0 : Rel I G J T) (hT : T < 8192) (v0 : Int32) : ∃ (code1 : Int32) (b0 : UInt64) (I1 : Im) (G1 : Dm) (J1 : Jm) (I2 : Im) (G2 : Dm), (nD l yL_drift (.codeWith yL_drift cL_drift 4 (some .int) [(0, 8, 11, 21)]) D cy ad [.ref (ad 0), .int v0, .ref (ad 71)] I G J (qI D cy ad code1 I1 G1 J1)) ∧ (kD l yX5_drift (.code yX5_drift cX5_drift 3 (some .double)) rU D cy ad [.ref (ad 53), .int v0] I1 G1 J1 (qD D cy ad b0 I2 G2 J1)) ∧ I2 53 0 = code1 ∧ (code1 = 0 → dEq (G2 71 0) b0) ∧ Rel I2 G2 J1 (T + 1) := by
  have h : Rel I G J (T + 1) := h0.le (Nat.le_succ T)
  obtain ⟨hJ, ⟨n, hB⟩, hN, hL, hC, hR⟩ := id h
  have hn := hB.1
  have hn5 := hB.2.1
  have hn2 := hB.2.2.1
  obtain ⟨c, c1, c2, c3, c4, c5, c6, c7⟩ := hR
  cases hd : bDay v0
  · have hv : v0 < 0 ∨ 10000 < v0 := by
      by_cases z1 : v0 < 0
      · exact Or.inl z1
      by_cases z2 : 10000 < v0
      · exact Or.inr z2
      unfold bDay at hd
      rw [decide_eq_true z1, decide_eq_true z2] at hd
      cases hd
    exact ⟨1, 0, I, G, J, u2 I 53 0 1, G, v_L_drift_IAE hadI (uX (x_X4_drift hadI hno hd)), uM (x_X5_drift hadI hv), u2_eq _ _ _ _, fun z => absurd z (by decide), h.t 1⟩
  · generalize hv : vaF I G v0 c 0 0 = r
    have hw : nD l yL_drift (.codeWith yL_drift cL_drift 4 (some .int) [(0, 8, 11, 21)]) D cy ad [.ref (ad 0), .int v0, .ref (ad 71)] I G J (qI D cy ad 0 I (u2 G 71 0 r) J) := by
      have hc0 := k_X4_drift (l := l) (D := D) (cy := cy) (G := G) (J := J) hadI c2 c1 hd
      rw [hv] at hc0
      exact v_L_drift hadI (uD hc0)
    by_cases z : c = 0
    · subst z
      have hr : r = 0 := hv.symm
      exact ⟨0, 0, I, u2 G 71 0 r, J, u2 I 53 0 0, u2 G 71 0 r, hw, uD (k0_X5_drift hadI c3 hd), u2_eq _ _ _ _, fun _ => by rw [u2_eq, hr]; exact dEq_rf _, (h.t 0).d _⟩
    · refine ⟨0, mdV I (u2 G 71 0 r) v0 c, I, u2 G 71 0 r, J, u2 I 53 0 0, u2 G 71 0 r, hw, uD (k_X5_drift hadI c3 c1 hd z), u2_eq _ _ _ _, fun _ => ?_, (h.t 0).d _⟩
      have hds := drift_s (I := I) (G := u2 G 71 0 r) (c := c) (v := v0) (fun k hk => by rw [u2_ne (by omega), u2_ne (by omega)]; exact c4 k hk) c5
      rw [vaF_c (G := G) (fun k => u2_ne (by omega)), hv] at hds
      rw [u2_eq]
      exact hds

set_option maxHeartbeats 1000000 in
theorem op_drawn {l : Launch} {D : va_G} {cy ad : Nat → Nat} {I : Im} {G : Dm} {J : Jm} {T : Nat} (hno : l.stackTraces = false) (hadI : adI ad) (h0 : Rel I G J T) (hT : T < 8192) (v0 : Int32) : ∃ (code1 : Int32) (b0 : UInt64) (I1 : Im) (G1 : Dm) (J1 : Jm) (I2 : Im) (G2 : Dm), (nD l yL_drawn (.codeWith yL_drawn cL_drawn 4 (some .int) [(0, 8, 11, 21)]) D cy ad [.ref (ad 0), .int v0, .ref (ad 71)] I G J (qI D cy ad code1 I1 G1 J1)) ∧ (kD l yX5_drawn (.code yX5_drawn cX5_drawn 4 (some .double)) rU D cy ad [.ref (ad 53), .int v0] I1 G1 J1 (qD D cy ad b0 I2 G2 J1)) ∧ I2 53 0 = code1 ∧ (code1 = 0 → dEq (G2 71 0) b0) ∧ Rel I2 G2 J1 (T + 1) := by
  have h : Rel I G J (T + 1) := h0.le (Nat.le_succ T)
  obtain ⟨hJ, ⟨n, hB⟩, hN, hL, hC, hR⟩ := id h
  have hn := hB.1
  have hn5 := hB.2.1
  have hn2 := hB.2.2.1
  by_cases hv : v0 < 0
  · exact ⟨1, 0, I, G, J, u2 I 53 0 1, G, v_L_drawn_IAE hadI (uX (x_X4_drawn hadI hno hv)), uM (x_X5_drawn hadI hv), u2_eq _ _ _ _, fun z => absurd z (by decide), h.t 1⟩
  · exact ⟨0, dwD (J 53 1) v0.toInt64, I, u2 G 71 0 (dwD (I 0 0).toInt64 v0.toInt64), J, u2 I 53 0 0, u2 G 71 0 (dwD (I 0 0).toInt64 v0.toInt64), v_L_drawn hadI (uD (k_X4_drawn hadI hv)), uD (k_X5_drawn hadI hv), u2_eq _ _ _ _, fun _ => by rw [u2_eq, hJ]; exact dEq_rf _, (h.t 0).d _⟩

