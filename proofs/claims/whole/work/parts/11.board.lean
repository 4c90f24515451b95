/-! a board: is it complete, is it fitted, its mean, its terms -/
def bCompl (I : Im) (G : Dm) (c : Nat) : Bool := decide (¬ I c 0 < 1) && decide (¬ Op.cmpValue (FP.dcmp (G c 2) 0) CmpOp.l ≤ 0)
def bFit (I : Im) (G : Dm) (c : Nat) : Bool := bCompl I G c && decide (¬ I c 5 = 0)
def dMean (I : Im) (G : Dm) (c : Nat) : UInt64 := if I c 0 ≤ 0 then 0 else Dv (G c 1) (FP.i2d (I c 0))
def dTerm (I : Im) (G : Dm) (c i : Nat) : UInt64 := if i = 0 then 4607182418800017408 else if i = 1 then Dv (Ad (dMean I G c) (G c 2)) 4611686018427387904 else Sb 4607182418800017408 (G c 3)
set_option maxHeartbeats 4000000 in
set_option maxRecDepth 100000 in
theorem k_X0_isComplete {l : Launch} {D : va_G} {cy ad : Nat → Nat} {I : Im} {G : Dm} {J : Jm} (hadI : adI ad) {c : Nat} (hc : 2 ≤ c ∧ c < 34) : kM l yX0_isComplete (.code yX0_isComplete cX0_isComplete 1 (some .boolean)) (rmK 0 0 0 0) D cy ad [.ref (ad c)] I G J (qI D cy ad (zB (bCompl I G c)) I G J) := by
  refine start_M hadI (by decide +kernel) (Nat.le_of_ble_eq_true rfl) ?_
  intro p e s m below meth cd am hx hb hr hlk hst ls hl
  have hl : lv_has ls 1 [(0, .ref (ad c))] := hl
  refine lv_aload_n hx hb dX0_isComplete_0 rfl (lv_at hl 0 rfl) ?_
  refine w_getI am hst (k := 0) (by omega) (fun _ _ _ => cE_B hc) rfl inT0 (by decide) (fun _ _ _ => rfl) fRX0_7 dX0_isComplete_1 ?_
  refine lv_iconst (v := 1) hx hb dX0_isComplete_4 (by decide) ?_
  refine lv_icmp_lt (tgt := 21) hx hb dX0_isComplete_5 (by decide) (fun c_5 => ?_) (fun c_5 => ?_)
  · skip
    refine lv_iconst (v := 0) hx hb dX0_isComplete_21 (by decide) ?_
    exact e_i hx hb hr hlk hst rfl (by simp only [bCompl, zB, c_5, not_true_eq_false, not_false_eq_true, decide_true, decide_false, Bool.true_and, Bool.false_and, Bool.and_true, Bool.and_false, Bool.and_self, if_true, if_false, ite_true, ite_false, reduceIte, Bool.false_eq_true]) dX0_isComplete_22
  · skip
    refine lv_aload_n hx hb dX0_isComplete_8 rfl (lv_at hl 0 rfl) ?_
    refine w_getD am hst (k := 2) (by omega) (fun _ _ _ => cE_B hc) rfl inT0 (by decide) (fun _ _ _ => rfl) fRX0_13 dX0_isComplete_9 (fun x1 hx1 => ?_)
    refine lv_dconst0 hx hb dX0_isComplete_12 ?_
    refine w_dcmp hx hb hx1 cn_k0 dX0_isComplete_13 ?_
    refine lv_if_le (tgt := 21) hx hb dX0_isComplete_14 (by decide) (fun c_14 => ?_) (fun c_14 => ?_)
    · skip
      refine lv_iconst (v := 0) hx hb dX0_isComplete_21 (by decide) ?_
      exact e_i hx hb hr hlk hst rfl (by simp only [bCompl, zB, c_5, c_14, not_true_eq_false, not_false_eq_true, decide_true, decide_false, Bool.true_and, Bool.false_and, Bool.and_true, Bool.and_false, Bool.and_self, if_true, if_false, ite_true, ite_false, reduceIte, Bool.false_eq_true]) dX0_isComplete_22
    · skip
      refine lv_iconst (v := 1) hx hb dX0_isComplete_17 (by decide) ?_
      refine lv_goto (tgt := 22) hx hb dX0_isComplete_18 (by decide) ?_
      exact e_i hx hb hr hlk hst rfl (by simp only [bCompl, zB, c_5, c_14, not_true_eq_false, not_false_eq_true, decide_true, decide_false, Bool.true_and, Bool.false_and, Bool.and_true, Bool.and_false, Bool.and_self, if_true, if_false, ite_true, ite_false, reduceIte, Bool.false_eq_true]) dX0_isComplete_22

set_option maxHeartbeats 4000000 in
set_option maxRecDepth 100000 in
theorem k_X0_isFitted {l : Launch} {D : va_G} {cy ad : Nat → Nat} {I : Im} {G : Dm} {J : Jm} (hadI : adI ad) {c : Nat} (hc : 2 ≤ c ∧ c < 34) : kM l yX0_isFitted (.code yX0_isFitted cX0_isFitted 1 (some .boolean)) (rmK 1 0 0 20) D cy ad [.ref (ad c)] I G J (qI D cy ad (zB (bFit I G c)) I G J) := by
  refine start_M hadI (by decide +kernel) (Nat.le_of_ble_eq_true rfl) ?_
  intro p e s m below meth cd am hx hb hr hlk hst ls hl
  have hl : lv_has ls 1 [(0, .ref (ad c))] := hl
  refine lv_aload_n hx hb dX0_isFitted_0 rfl (lv_at hl 0 rfl) ?_
  refine c_i hst (r_V (As := []) (rest := []) am hst hl (k_X0_isComplete hadI hc) kRX0_17 imX0_isComplete slX0_isComplete ⟨Nat.le_of_ble_eq_true rfl, Nat.le_of_ble_eq_true rfl⟩ (by omega) (fun _ _ _ => cE_B hc) rfl rfl rfl (Nat.le_of_ble_eq_true rfl) dX0_isFitted_1 ⟨Nat.le_of_ble_eq_true rfl, Nat.le_of_ble_eq_true rfl⟩) (fun H locs hst => ?_)
  refine lv_if_eq (tgt := 18) hx hb dX0_isFitted_4 (by decide) (fun c_4 => ?_) (fun c_4 => ?_)
  · skip
    refine lv_iconst (v := 0) hx hb dX0_isFitted_18 (by decide) ?_
    exact e_i hx hb hr hlk hst rfl (by rw [zB_0] at c_4; simp only [bFit, zB, c_4, not_true_eq_false, not_false_eq_true, decide_true, decide_false, Bool.true_and, Bool.false_and, Bool.and_true, Bool.and_false, Bool.and_self, if_true, if_false, ite_true, ite_false, reduceIte, Bool.false_eq_true]) dX0_isFitted_19
  · skip
    refine lv_aload_n hx hb dX0_isFitted_7 rfl (lv_at hl 0 rfl) ?_
    refine w_getI am hst (k := 5) (by omega) (fun _ _ _ => cE_B hc) rfl inT0 (by decide) (fun _ _ _ => rfl) fRX0_21 dX0_isFitted_8 ?_
    refine lv_if_eq (tgt := 18) hx hb dX0_isFitted_11 (by decide) (fun c_11 => ?_) (fun c_11 => ?_)
    · skip
      refine lv_iconst (v := 0) hx hb dX0_isFitted_18 (by decide) ?_
      exact e_i hx hb hr hlk hst rfl (by rw [zB_n0] at c_4; simp only [bFit, zB, c_4, c_11, not_true_eq_false, not_false_eq_true, decide_true, decide_false, Bool.true_and, Bool.false_and, Bool.and_true, Bool.and_false, Bool.and_self, if_true, if_false, ite_true, ite_false, reduceIte, Bool.false_eq_true]) dX0_isFitted_19
    · skip
      refine lv_iconst (v := 1) hx hb dX0_isFitted_14 (by decide) ?_
      refine lv_goto (tgt := 19) hx hb dX0_isFitted_15 (by decide) ?_
      exact e_i hx hb hr hlk hst rfl (by rw [zB_n0] at c_4; simp only [bFit, zB, c_4, c_11, not_true_eq_false, not_false_eq_true, decide_true, decide_false, Bool.true_and, Bool.false_and, Bool.and_true, Bool.and_false, Bool.and_self, if_true, if_false, ite_true, ite_false, reduceIte, Bool.false_eq_true]) dX0_isFitted_19

set_option maxHeartbeats 4000000 in
set_option maxRecDepth 100000 in
theorem k_X0_mean {l : Launch} {D : va_G} {cy ad : Nat → Nat} {I : Im} {G : Dm} {J : Jm} (hadI : adI ad) {c : Nat} (hc : 2 ≤ c ∧ c < 34) : kD l yX0_mean (.code yX0_mean cX0_mean 1 (some .double)) (rmK 0 0 0 0) D cy ad [.ref (ad c)] I G J (qD D cy ad (dMean I G c) I G J) := by
  refine start_D hadI (by decide +kernel) (Nat.le_of_ble_eq_true rfl) ?_
  intro p e s m below meth cd am hx hb hr hlk hst ls hl d0 hd
  have hl : lv_has ls 1 [(0, .ref (ad c))] := hl
  refine lv_aload_n hx hb dX0_mean_0 rfl (lv_at hl 0 rfl) ?_
  refine w_getI am hst (k := 0) (by omega) (fun _ _ _ => cE_B hc) rfl inT0 (by decide) (fun _ _ _ => rfl) fRX0_7 dX0_mean_1 ?_
  refine lv_if_le (tgt := 20) hx hb dX0_mean_4 (by decide) (fun c_4 => ?_) (fun c_4 => ?_)
  · skip
    refine lv_dconst0 hx hb dX0_mean_20 ?_
    exact e_dD hd hx hb hr hlk hst (by rw [cn_k0, dMean, if_pos c_4]) dX0_mean_21
  · skip
    refine lv_aload_n hx hb dX0_mean_7 rfl (lv_at hl 0 rfl) ?_
    refine w_getD am hst (k := 1) (by omega) (fun _ _ _ => cE_B hc) rfl inT0 (by decide) (fun _ _ _ => rfl) fRX0_25 dX0_mean_8 (fun x1 hx1 => ?_)
    refine lv_aload_n hx hb dX0_mean_11 rfl (lv_at hl 0 rfl) ?_
    refine w_getI am hst (k := 0) (by omega) (fun _ _ _ => cE_B hc) rfl inT0 (by decide) (fun _ _ _ => rfl) fRX0_7 dX0_mean_12 ?_
    refine w_i2d hx hb dX0_mean_15 (fun x2 hx2 => ?_)
    refine w_ddiv hd hx hb hx1 hx2 dX0_mean_16 (fun x3 d0 hx3 hd => ?_)
    refine lv_goto (tgt := 21) hx hb dX0_mean_17 (by decide) ?_
    exact e_dD hd hx hb hr hlk hst (by rw [hx3, dMean, if_neg c_4]) dX0_mean_21

set_option maxHeartbeats 4000000 in
set_option maxRecDepth 100000 in
theorem k_X0_term {l : Launch} {D : va_G} {cy ad : Nat → Nat} {I : Im} {G : Dm} {J : Jm} (hadI : adI ad) {c : Nat} (hc : 2 ≤ c ∧ c < 34) {i : Nat} (hi : i < 3) : kD l yX0_term (.code yX0_term cX0_term 2 (some .double)) (rmK 1 0 0 20) D cy ad [.ref (ad c), .int (nI i)] I G J (qD D cy ad (dTerm I G c i) I G J) := by
  refine start_D hadI (by decide +kernel) (Nat.le_of_ble_eq_true rfl) ?_
  intro p e s m below meth cd am hx hb hr hlk hst ls hl d0 hd
  have hl : lv_has ls 2 [(0, .ref (ad c)), (1, .int (nI i))] := hl
  by_cases q0 : i = 0
  · subst q0
    refine lv_iload_n hx hb dX0_term_0 rfl (lv_at hl 1 rfl) ?_
    refine lv_if_ne (tgt := 6) hx hb dX0_term_1 (by decide) (fun c_1 => absurd rfl c_1) (fun c_1 => ?_)
    refine lv_dconst1 hx hb dX0_term_4 ?_
    exact e_dD hd hx hb hr hlk hst (by rw [cn_k4607182418800017408]; rfl) dX0_term_5
  by_cases q1 : i = 1
  · subst q1
    refine lv_iload_n hx hb dX0_term_0 rfl (lv_at hl 1 rfl) ?_
    refine lv_if_ne (tgt := 6) hx hb dX0_term_1 (by decide) (fun c_1 => ?_) (fun c_1 => absurd c_1 ((show ¬ nI 1 = 0 by decide)))
    refine lv_iload_n hx hb dX0_term_6 rfl (lv_at hl 1 rfl) ?_
    refine lv_iconst (v := 1) hx hb dX0_term_7 (by decide) ?_
    refine lv_icmp_ne (tgt := 27) hx hb dX0_term_8 (by decide) (fun c_8 => absurd rfl c_8) (fun c_8 => ?_)
    refine lv_aload_n hx hb dX0_term_11 rfl (lv_at hl 0 rfl) ?_
    refine c_dD hd hst (r_VD (As := []) (rest := []) am hst hl (k_X0_mean hadI hc) kRX0_28 imX0_mean slX0_mean ⟨Nat.le_of_ble_eq_true rfl, Nat.le_of_ble_eq_true rfl⟩ (by omega) (fun _ _ _ => cE_B hc) rfl rfl rfl (Nat.le_of_ble_eq_true rfl) dX0_term_12 ⟨Nat.le_of_ble_eq_true rfl, Nat.le_of_ble_eq_true rfl⟩) (fun x1 d0 H locs hx1 hd hst => ?_)
    refine lv_aload_n hx hb dX0_term_15 rfl (lv_at hl 0 rfl) ?_
    refine w_getD am hst (k := 2) (by omega) (fun _ _ _ => cE_B hc) rfl inT0 (by decide) (fun _ _ _ => rfl) fRX0_13 dX0_term_16 (fun x2 hx2 => ?_)
    refine w_dadd hd hx hb hx1 hx2 dX0_term_19 (fun x3 d0 hx3 hd => ?_)
    refine lv_ldc2d hx hb am.2.2.2.1 (amT am _ wRX0_32) dX0_term_20 ?_
    refine w_ddiv hd hx hb hx3 cn_k4611686018427387904 dX0_term_23 (fun x4 d0 hx4 hd => ?_)
    refine lv_goto (tgt := 33) hx hb dX0_term_24 (by decide) ?_
    exact e_dD hd hx hb hr hlk hst (by rw [hx4]; rfl) dX0_term_33
  refine lv_iload_n hx hb dX0_term_0 rfl (lv_at hl 1 rfl) ?_
  refine lv_if_ne (tgt := 6) hx hb dX0_term_1 (by decide) (fun c_1 => ?_) (fun c_1 => absurd c_1 ((nI_ne0 (by omega) (by omega))))
  refine lv_iload_n hx hb dX0_term_6 rfl (lv_at hl 1 rfl) ?_
  refine lv_iconst (v := 1) hx hb dX0_term_7 (by decide) ?_
  refine lv_icmp_ne (tgt := 27) hx hb dX0_term_8 (by decide) (fun c_8 => ?_) (fun c_8 => absurd c_8 ((fun h => q1 ((nI_eq (b := 1) (by omega) (by omega)).mp h))))
  refine lv_dconst1 hx hb dX0_term_27 ?_
  refine lv_aload_n hx hb dX0_term_28 rfl (lv_at hl 0 rfl) ?_
  refine w_getD am hst (k := 3) (by omega) (fun _ _ _ => cE_B hc) rfl inT0 (by decide) (fun _ _ _ => rfl) fRX0_34 dX0_term_29 (fun x1 hx1 => ?_)
  refine w_dsub hd hx hb cn_k4607182418800017408 hx1 dX0_term_32 (fun x2 d0 hx2 hd => ?_)
  exact e_dD hd hx hb hr hlk hst (by rw [hx2, dTerm, if_neg q0, if_neg q1]) dX0_term_33

