/-! every operation, by cases, third part -/
theorem meP_c {I I' : Im} {G G' : Dm} {X : UInt64} {i : Nat} (h55 : ∀ k, I' 55 k = I 55 k) (hI : ∀ c k, c = 59 → I' c k = I c k) (hG : ∀ c k, c = 54 ∨ c = 56 ∨ c = 57 ∨ c = 58 ∨ c = 64 → G' c k = G c k) : meP I' G' X i = meP I G X i := by
  unfold meP mCompl
  rw [hI 59 i rfl, h55, hG 56 i (by omega), hG 64 0 (by omega), hG 64 1 (by omega), hG 64 2 (by omega), told_c h55 (fun c k z => hG c k (by omega))]
theorem meC_c {I I' : Im} {G G' : Dm} {X : UInt64} (h55 : ∀ k, I' 55 k = I 55 k) (hI : ∀ c k, c = 59 → I' c k = I c k) (hG : ∀ c k, c = 54 ∨ c = 56 ∨ c = 57 ∨ c = 58 ∨ c = 64 → G' c k = G c k) : ∀ n, meC I' G' X n = meC I G X n
  | 0 => rfl
  | n + 1 => by
    show (if meP I' G' X n = true then meC I' G' X n + 1 else meC I' G' X n) = (if meP I G X n = true then meC I G X n + 1 else meC I G X n)
    rw [meC_c h55 hI hG n, meP_c h55 hI hG]
theorem meW_c {I I' : Im} {G G' : Dm} {X L : UInt64} (h55 : ∀ k, I' 55 k = I 55 k) (hI : ∀ c k, c = 59 → I' c k = I c k) (hG : ∀ c k, c = 54 ∨ c = 56 ∨ c = 57 ∨ c = 58 ∨ c = 64 → G' c k = G c k) : ∀ n, meW I' G' X L n = meW I G X L n
  | 0 => rfl
  | n + 1 => by
    show (if (meP I' G' X n && meQ G' L n) = true then meW I' G' X L n + 1 else meW I' G' X L n) = (if (meP I G X n && meQ G L n) = true then meW I G X L n + 1 else meW I G X L n)
    rw [meW_c h55 hI hG n, meP_c h55 hI hG]
    unfold meQ
    rw [hG 58 n (by omega)]
theorem msF_c {I I' : Im} {G G' : Dm} {L : UInt64} {a b : Int32} (h55 : ∀ k, I' 55 k = I 55 k) (hI : ∀ c k, c = 59 → I' c k = I c k) (hG : ∀ c k, c = 54 ∨ c = 56 ∨ c = 57 ∨ c = 58 ∨ c = 64 → G' c k = G c k) (N : Nat) : ∀ f i, msF I' G' L a b N f i = msF I G L a b N f i
  | 0, _ => rfl
  | f + 1, i => by
    show (if meOK I' G' _ L a b N = true then _ else msF I' G' L a b N f (i + 1)) = (if meOK I G _ L a b N = true then _ else msF I G L a b N f (i + 1))
    rw [msF_c h55 hI hG N f (i + 1)]
    unfold meOK
    rw [meC_c h55 hI hG, meW_c h55 hI hG]
theorem bv_0 : ∀ z, bv (fun _ => false) z = 0
  | 0 => rfl
  | z + 1 => by
    show bv (fun _ => false) z + (if false = true then 2 ^ z else 0) = 0
    rw [bv_0 z, if_neg Bool.false_ne_true]
set_option maxHeartbeats 1000000 in
theorem op_limit {l : Launch} {D : va_G} {cy ad : Nat → Nat} {I : Im} {G : Dm} {J : Jm} {T : Nat} (hno : l.stackTraces = false) (hadI : adI ad) (h0 : Rel I G J T) (hT : T < 8192) (v0 : Int32) (X1 : UInt64) : ∃ (code1 : Int32) (I1 : Im) (G1 : Dm) (J1 : Jm) (I2 : Im) (G2 : Dm), (∀ x1 : UInt64, cn x1 = X1 → nD l yL_limit (.codeWith yL_limit cL_limit 5 (some .int) [(0, 6, 9, 19), (0, 6, 13, 21)]) D cy ad [.ref (ad 0), .int v0, .double x1] I G J (qI D cy ad code1 I1 G1 J1)) ∧ (∀ x1 : UInt64, cn x1 = X1 → kD l yX5_limit (.code yX5_limit cX5_limit 4 none) rU D cy ad [.ref (ad 53), .int v0, .double x1] I1 G1 J1 (qV D cy ad I2 G2 J1)) ∧ I2 53 0 = code1 ∧ Rel I2 G2 J1 (T + 1) := by
  have h : Rel I G J (T + 1) := h0.le (Nat.le_succ T)
  obtain ⟨hJ, ⟨n, hB⟩, hN, hL, hC, hR⟩ := id h
  have hn := hB.1
  have hn5 := hB.2.1
  have hn2 := hB.2.2.1
  rcases idx v0 (n := 4) (by omega) with q | ⟨k, hk, rfl⟩
  · have q5 : v0 < 0 ∨ ¬ v0 ≤ 3 := q.imp id (fun z y => z (lt_4.mpr y))
    exact ⟨1, I, G, J, u2 I 53 0 1, G, fun x1 hx1 => v_L_limit_IOOBE hadI (uX (x1_X4_limit hadI hno q)), fun x1 hx1 => uM (x1_X5_limit hadI q5), u2_eq _ _ _ _, h.t 1⟩
  · cases hin : bIn X1 0 1000
    · exact ⟨2, I, G, J, u2 I 53 0 2, G, fun x1 hx1 => v_L_limit_IAE hadI (uX (x2_X4_limit hadI hno hk hx1 hin)), fun x1 hx1 => uM (x2_X5_limit hadI hk hx1 ((in_1000 X1).symm.trans hin)), u2_eq _ _ _ _, h.t 2⟩
    · have eg : ∀ c j, c ≠ 48 → c ≠ 66 → u2 (u2 G 48 k X1) 66 k X1 c j = G c j := fun c j q1 q2 => ((u2_ne (by omega)).trans (u2_ne (by omega)))
      refine ⟨0, I, u2 G 48 k X1, J, u2 I 53 0 0, u2 (u2 G 48 k X1) 66 k X1, fun x1 hx1 => v_L_limit hadI (uM (k_X4_limit hadI hk hx1 hin)), fun x1 hx1 => uM (k_X5_limit hadI hk hx1 ((in_1000 X1).symm.trans hin)), u2_eq _ _ _ _, ?_⟩
      refine (h.t 0).mk (n := n) (RB_c hB (fun c j z => u2_ne (by omega)) (fun c j z => eg c j (by omega) (by omega))) rfl rfl (RN_c hN (fun c j z => eg c j (by omega) (by omega))) ?_ (fun _ _ _ => rfl) (fun _ _ _ => rfl) (fun c j z => eg c j (by omega) (by omega))
      intro j hj
      by_cases z : j = k
      · subst z
        exact ((u2_ne (by omega)).trans (u2_eq _ _ _ _)).trans (u2_eq _ _ _ _).symm
      · rw [show u2 (u2 G 48 k X1) 66 k X1 48 j = G 48 j from (u2_ne (by omega)).trans (u2_ne (by omega)), show u2 (u2 G 48 k X1) 66 k X1 66 j = G 66 j from (u2_ne (by omega)).trans (u2_ne (by omega))]
        exact hL j hj

set_option maxHeartbeats 1000000 in
theorem op_setting {l : Launch} {D : va_G} {cy ad : Nat → Nat} {I : Im} {G : Dm} {J : Jm} {T : Nat} (hno : l.stackTraces = false) (hadI : adI ad) (h0 : Rel I G J T) (hT : T < 8192) (v0 : Int32) (v1 : Int32) (v2 : Int32) : ∃ (code1 : Int32) (b0 : Int32) (I1 : Im) (G1 : Dm) (J1 : Jm) (I2 : Im) (G2 : Dm), (nD l yL_setting (.codeWith yL_setting cL_setting 6 (some .int) [(0, 12, 15, 19), (0, 12, 19, 21)]) D cy ad [.ref (ad 0), .int v0, .int v1, .int v2, .ref (ad 70)] I G J (qI D cy ad code1 I1 G1 J1)) ∧ (kD l yX5_setting (.code yX5_setting cX5_setting 9 (some .int)) rU D cy ad [.ref (ad 53), .int v0, .int v1, .int v2] I1 G1 J1 (qI D cy ad b0 I2 G2 J1)) ∧ I2 53 0 = code1 ∧ (code1 = 0 → J1 70 0 = b0.toInt64) ∧ Rel I2 G2 J1 (T + 1) := by
  have h : Rel I G J (T + 1) := h0.le (Nat.le_succ T)
  obtain ⟨hJ, ⟨n, hB⟩, hN, hL, hC, hR⟩ := id h
  have hn := hB.1
  have hn5 := hB.2.1
  have hn2 := hB.2.2.1
  rcases idx v0 (n := 4) (by omega) with q | ⟨k, hk, rfl⟩
  · have q5 : v0 < 0 ∨ ¬ v0 ≤ 3 := q.imp id (fun z y => z (lt_4.mpr y))
    exact ⟨1, 0, I, G, J, u2 I 53 0 1, G, v_L_setting_IOOBE hadI (uX (x1_X4_setting hadI hno q)), uM (x1_X5_setting hadI q5), u2_eq _ _ _ _, fun z => absurd z (by decide), h.t 1⟩
  · cases hin : bShare v1 v2 1000
    · exact ⟨2, 0, I, G, J, u2 I 53 0 2, G, v_L_setting_IAE hadI (uX (x2_X4_setting hadI hno hk hin)), uM (x2_X5_setting hadI hk hin), u2_eq _ _ _ _, fun z => absurd z (by decide), h.t 2⟩
    · have fr : ∀ c j, (34 ≤ c ∨ j ≠ 7) → kf1 I G 32 c j = G c j := fun c j z => kf1_fr I G 32 c j (by omega) (Nat.le_refl _)
      have eS : stF I (kf1 I G 32) ((kf1 I G 32) 48 k) v1 v2 201 0 = msF I (kf1 I G 32) ((kf1 I G 32) 66 k) v1 v2 n 201 0 := by
        rw [stF_s hB hN, fr 48 k (by omega), fr 66 k (by omega), hL k hk]
        exact (msF_c (fun _ => rfl) (fun _ _ _ => rfl) (fun c j z => fr c j (by omega)) n 201 0).symm
      have h1 : Rel I (kf1 I G 32) J (T + 1) := Rel_c h (fun _ _ _ _ => rfl) (fun c j z => fr c j (by omega)) rfl
      have hB1 : RB I (kf1 I G 32) n := RB_c hB (fun _ _ _ => rfl) (fun c j z => fr c j (by omega))
      exact ⟨0, msF I (kf1 I G 32) ((kf1 I G 32) 66 k) v1 v2 n 201 0, I, kf1 I G 32, u2 J 70 0 (stF I (kf1 I G 32) ((kf1 I G 32) 48 k) v1 v2 201 0).toInt64, u2 I 53 0 0, kf1 I G 32, v_L_setting hadI (uD (k_X4_setting hadI hk hin)), uD (k_X5_setting hadI hB1.mOK hn5 hn2 hk hin), u2_eq _ _ _ _, fun _ => by rw [u2_eq, eS], (h1.t 0).o _⟩

set_option maxHeartbeats 1000000 in
theorem op_odds {l : Launch} {D : va_G} {cy ad : Nat → Nat} {I : Im} {G : Dm} {J : Jm} {T : Nat} (hno : l.stackTraces = false) (hadI : adI ad) (h0 : Rel I G J T) (hT : T < 8192) (v0 : Int32) (v1 : Int32) (v2 : Int32) (v3 : Int32) (v4 : Int32) : ∃ (code1 : Int32) (b0 : Int64) (I1 : Im) (G1 : Dm) (J1 : Jm) (I2 : Im) (G2 : Dm), (nD l yL_odds (.codeWith yL_odds cL_odds 8 (some .int) [(0, 15, 18, 19), (0, 15, 22, 21)]) D cy ad [.ref (ad 0), .int v0, .int v1, .int v2, .int v3, .int v4, .ref (ad 70)] I G J (qI D cy ad code1 I1 G1 J1)) ∧ (kD l yX5_odds (.code yX5_odds cX5_odds 17 (some .long)) rU D cy ad [.ref (ad 53), .int v0, .int v1, .int v2, .int v3, .int v4] I1 G1 J1 (qL D cy ad b0 I2 G2 J1)) ∧ I2 53 0 = code1 ∧ (code1 = 0 → J1 70 0 = b0) ∧ Rel I2 G2 J1 (T + 1) := by
  have h : Rel I G J (T + 1) := h0.le (Nat.le_succ T)
  obtain ⟨hJ, ⟨n, hB⟩, hN, hL, hC, hR⟩ := id h
  have hn := hB.1
  have hn5 := hB.2.1
  have hn2 := hB.2.2.1
  by_cases hp : v4 = 0 ∨ v4 = 1
  · have hp4 : ¬ v4 < 0 ∧ v4 ≤ 1 := by rcases hp with rfl | rfl <;> decide
    by_cases hv : v0 < 0 ∨ 12 < v0 ∨ v1 < 0 ∨ bShare v2 v3 16 = false
    · exact ⟨2, 0, I, G, J, u2 I 53 0 2, G, v_L_odds_IAE hadI (uX (x2_X4_odds hadI hno hp4 hv)), uM (x2_X5_odds hadI hp hv), u2_eq _ _ _ _, fun z => absurd z (by decide), h.t 2⟩
    · have a0 : ¬ v0 < 0 := fun z => hv (Or.inl z)
      have a1 : ¬ 12 < v0 := fun z => hv (Or.inr (Or.inl z))
      have a2 : ¬ v1 < 0 := fun z => hv (Or.inr (Or.inr (Or.inl z)))
      have a3 : bShare v2 v3 16 = true := by
        cases z : bShare v2 v3 16
        · exact absurd (Or.inr (Or.inr (Or.inr z))) hv
        · rfl
      obtain ⟨N, hN12, rfl⟩ := nI_up (m := 12) a0 a1 (by decide)
      obtain ⟨u, hu, rfl⟩ := nI_up (m := 2147483647) (x := v1) a2 (fun z => by
        rw [Int32.lt_iff_toInt_lt, nI_toInt (by decide)] at z
        have := Int32.toInt_lt v1
        omega) (by decide)
      obtain ⟨t1, t2, t3⟩ := odds_s (N := N) (u := u) (a := v2) (b := v3) (pt := v4) hN12 a3
      exact ⟨0, oddM N u v2 v3 v4, I, G, u2 J 70 0 (oddV N u v2 v3 v4), u2 I 53 0 0, G, v_L_odds hadI (uM (k_X4_odds hadI hp4 hN12 (by omega) a3)), uM (k_X5_odds hadI hp hN12 (by omega) a3 t1 t2), u2_eq _ _ _ _, fun _ => by rw [u2_eq, t3], (h.t 0).o _⟩
  · have hp4 : v4 < 0 ∨ ¬ v4 ≤ 1 := by
      by_cases z : v4 < 0
      · exact Or.inl z
      · refine Or.inr (fun y => hp ?_)
        obtain ⟨k, hk, rfl⟩ := nI_up (m := 1) z (fun w => by rw [Int32.lt_iff_toInt_lt] at w; rw [Int32.le_iff_toInt_le] at y; have e : (nI 1).toInt = (1 : Int32).toInt := rfl; omega) (by decide)
        rcases (show k = 0 ∨ k = 1 by omega) with rfl | rfl
        · exact Or.inl rfl
        · exact Or.inr rfl
    exact ⟨1, 0, I, G, J, u2 I 53 0 1, G, v_L_odds_IOOBE hadI (uX (x1_X4_odds hadI hno hp4)), uM (x1_X5_odds hadI ⟨fun z => hp (Or.inl z), fun z => hp (Or.inr z)⟩), u2_eq _ _ _ _, fun z => absurd z (by decide), h.t 1⟩

set_option maxHeartbeats 1000000 in
theorem op_chart {l : Launch} {D : va_G} {cy ad : Nat → Nat} {I : Im} {G : Dm} {J : Jm} {T : Nat} (hno : l.stackTraces = false) (hadI : adI ad) (h0 : Rel I G J T) (hT : T < 8192) (v0 : Int32) (v1 : Int32) : ∃ (code1 : Int32) (I1 : Im) (G1 : Dm) (J1 : Jm) (I2 : Im) (G2 : Dm), (nD l yL_chart (.codeWith yL_chart cL_chart 4 (some .int) [(0, 6, 9, 21)]) D cy ad [.ref (ad 0), .int v0, .int v1] I G J (qI D cy ad code1 I1 G1 J1)) ∧ (kD l yX5_chart (.code yX5_chart cX5_chart 3 none) rU D cy ad [.ref (ad 53), .int v0, .int v1] I1 G1 J1 (qV D cy ad I2 G2 J1)) ∧ I2 53 0 = code1 ∧ Rel I2 G2 J1 (T + 1) := by
  have h : Rel I G J (T + 1) := h0.le (Nat.le_succ T)
  obtain ⟨hJ, ⟨n, hB⟩, hN, hL, hC, hR⟩ := id h
  have hn := hB.1
  have hn5 := hB.2.1
  have hn2 := hB.2.2.1
  by_cases hv : v0 < 1 ∨ 20 < v0 ∨ v1 < 0 ∨ v0 < v1
  · exact ⟨1, I, G, J, u2 I 53 0 1, G, v_L_chart_IAE hadI (uX (x_X4_chart hadI hno hv)), uM (x_X5_chart hadI hv), u2_eq _ _ _ _, h.t 1⟩
  · have hv2 : ¬ v0 < 1 ∧ ¬ 20 < v0 ∧ ¬ v1 < 0 ∧ ¬ v0 < v1 := ⟨fun z => hv (Or.inl z), fun z => hv (Or.inr (Or.inl z)), fun z => hv (Or.inr (Or.inr (Or.inl z))), fun z => hv (Or.inr (Or.inr (Or.inr z)))⟩
    have h00 : ¬ v0 < 0 := fun z => hv2.1 (by
      rw [Int32.lt_iff_toInt_lt] at z ⊢
      have e0 : (0 : Int32).toInt = 0 := rfl
      have e1 : (1 : Int32).toInt = 1 := rfl
      omega)
    obtain ⟨z, hz, rfl⟩ := nI_up (m := 20) h00 hv2.2.1 (by decide)
    have hz1 : 1 ≤ z := by
      rcases Nat.eq_zero_or_pos z with y | y
      · subst y; exact absurd (by decide) hv2.1
      · exact y
    generalize hI1 : u2 (u2 (u2 (u2 I 49 0 (nI z)) 49 1 v1) 49 2 0) 49 3 0 = I1
    have e1 : ∀ c k, ¬ (c = 49 ∧ k < 4) → I1 c k = I c k := fun c k q => by rw [← hI1]; exact ((u2_ne (by omega)).trans ((u2_ne (by omega)).trans ((u2_ne (by omega)).trans (u2_ne (by omega)))))
    have f0 : I1 49 0 = nI z := by rw [← hI1]; exact (u2_ne (by omega)).trans ((u2_ne (by omega)).trans ((u2_ne (by omega)).trans (u2_eq _ _ _ _)))
    have f1 : I1 49 1 = v1 := by rw [← hI1]; exact (u2_ne (by omega)).trans ((u2_ne (by omega)).trans (u2_eq _ _ _ _))
    have f2 : I1 49 2 = 0 := by rw [← hI1]; exact (u2_ne (by omega)).trans (u2_eq _ _ _ _)
    have f3 : I1 49 3 = 0 := by rw [← hI1]; exact u2_eq _ _ _ _
    generalize hI2 : u2 (u2 (u2 (u2 (u2 I1 53 0 0) 53 16 (nI z)) 53 17 v1) 53 19 0) 53 18 0 = I2
    have e2 : ∀ c k, ¬ (c = 53 ∧ (k = 0 ∨ (16 ≤ k ∧ k ≤ 19))) → I2 c k = I1 c k := fun c k q => by rw [← hI2]; exact ((u2_ne (by omega)).trans ((u2_ne (by omega)).trans ((u2_ne (by omega)).trans ((u2_ne (by omega)).trans (u2_ne (by omega))))))
    have g0 : I2 53 0 = 0 := by rw [← hI2]; exact (u2_ne (by omega)).trans ((u2_ne (by omega)).trans ((u2_ne (by omega)).trans ((u2_ne (by omega)).trans (u2_eq _ _ _ _))))
    have g16 : I2 53 16 = nI z := by rw [← hI2]; exact (u2_ne (by omega)).trans ((u2_ne (by omega)).trans ((u2_ne (by omega)).trans (u2_eq _ _ _ _)))
    have g17 : I2 53 17 = v1 := by rw [← hI2]; exact (u2_ne (by omega)).trans ((u2_ne (by omega)).trans (u2_eq _ _ _ _))
    have g19 : I2 53 19 = 0 := by rw [← hI2]; exact (u2_ne (by omega)).trans (u2_eq _ _ _ _)
    have g18 : I2 53 18 = 0 := by rw [← hI2]; exact u2_eq _ _ _ _
    refine ⟨0, I1, G, J, I2, G, v_L_chart hadI (by rw [← hI1]; exact uM (k_X4_chart hadI hv2)), by rw [← hI2]; exact uM (k_X5_chart hadI hv2), g0, ?_⟩
    refine ⟨by rw [e2 0 0 (by omega), e1 0 0 (by omega)]; exact hJ, ⟨n, RB_c hB (fun c k q => (e2 c k (by omega)).trans (e1 c k (by omega))) (fun _ _ _ => rfl)⟩, hN, hL, ?_, RR_c hR (fun c k q => (e2 c k (by omega)).trans (e1 c k (by omega))) (fun _ _ _ => rfl)⟩
    refine ⟨z, 0, 0, (e2 49 0 (by omega)).trans f0, g16, hz1, hz, ((e2 49 1 (by omega)).trans f1).trans g17.symm, (e2 49 3 (by omega)).trans f3, g18, by omega, g19, by omega, ?_⟩
    rw [e2 49 2 (by omega), f2, bv_cong (g := fun _ => false) z (fun j _ => by unfold cf; rw [decide_eq_false (Nat.not_lt_zero j), Bool.false_and]), bv_0]
    rfl

set_option maxHeartbeats 1000000 in
theorem op_test {l : Launch} {D : va_G} {cy ad : Nat → Nat} {I : Im} {G : Dm} {J : Jm} {T : Nat} (hno : l.stackTraces = false) (hadI : adI ad) (h0 : Rel I G J T) (hT : T < 8192) (bb : Bool) : ∃ (a0 b0 : Int32) (I1 : Im) (G1 : Dm) (J1 : Jm) (I2 : Im) (G2 : Dm), (∀ z : Int32, z = zB bb → kD l yX4_test (.code yX4_test cX4_test 2 (some .boolean)) rU D cy ad [.ref (ad 0), .int z] I G J (qI D cy ad a0 I1 G1 J1)) ∧ (∀ z : Int32, z = zB bb → kD l yX5_test (.code yX5_test cX5_test 4 (some .boolean)) rU D cy ad [.ref (ad 53), .int z] I1 G1 J1 (qI D cy ad b0 I2 G2 J1)) ∧ a0 = b0 ∧ Rel I2 G2 J1 (T + 1) := by
  have h : Rel I G J (T + 1) := h0.le (Nat.le_succ T)
  obtain ⟨hJ, ⟨n, hB⟩, hN, hL, hC, hR⟩ := id h
  have hn := hB.1
  have hn5 := hB.2.1
  have hn2 := hB.2.2.1
  obtain ⟨z, t, e1, e2, e3, e4, e5, e6, e7⟩ := h0.2.2.2.2.1.test bb
  have fr : ∀ c k, c ≠ 49 → chI I bb c k = I c k := fun c k q => chI_fr I bb (Or.inl q)
  have fr2 : ∀ c k, c ≠ 49 → c ≠ 67 → ¬ (c = 53 ∧ (k = 0 ∨ (18 ≤ k ∧ k ≤ 19))) → mtI (chI I bb) t z bb c k = I c k := fun c k q1 q2 q3 => (mtI_fr _ _ _ _ (by omega) q2).trans (fr c k q1)
  refine ⟨zB (chR I bb), zB (mtR (chI I bb) t z bb), chI I bb, G, J, mtI (chI I bb) t z bb, G, fun w hw => by rw [hw]; exact uM (k_X4_test hadI), fun w hw => by rw [hw]; exact uM (k_X5_test hadI e4 (by omega) e1 ⟨e2, e3⟩), by rw [e6], ?_⟩
  exact ⟨by rw [fr2 0 0 (by omega) (by omega) (by omega)]; exact hJ, ⟨n, RB_c hB (fun c k q => fr2 c k (by omega) (by omega) (by omega)) (fun _ _ _ => rfl)⟩, hN, hL, e7, RR_c hR (fun c k q => fr2 c k (by omega) (by omega) (by omega)) (fun _ _ _ => rfl)⟩

