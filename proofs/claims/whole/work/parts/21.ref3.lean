/-! the reference: its public methods, first half -/
set_option maxHeartbeats 4000000 in
set_option maxRecDepth 100000 in
theorem k_X5_board {l : Launch} {D : va_G} {cy ad : Nat → Nat} {I : Im} {G : Dm} {J : Jm} (hadI : adI ad) {n : Nat} (hn : I 53 2 = nI n) (hn2 : n < 32) : kM l yX5_board (.code yX5_board cX5_board 1 (some .int)) (rmK 0 0 0 0) D cy ad [.ref (ad 53)] I G J (qI D cy ad (nI n) (u2 (u2 I 53 0 0) 53 2 (nI (n + 1))) G J) := by
  refine start_M hadI (by decide +kernel) (Nat.le_of_ble_eq_true rfl) ?_
  intro p e s m below meth cd am hx hb hr hlk hst ls hl
  have hl : lv_has ls 1 [(0, .ref (ad 53))] := hl
  refine lv_aload_n hx hb dX5_board_0 rfl (lv_at hl 0 rfl) ?_
  refine lv_aload_n hx hb dX5_board_1 rfl (lv_at hl 0 rfl) ?_
  refine w_getI am hst (k := 2) (by decide) (fun _ _ _ => cE_M) rfl inT5 (by decide) (fun _ _ _ => rfl) fRX5_76 dX5_board_2 ?_
  rw [hn]
  refine lv_bipush (v := 32) hx hb dX5_board_5 (by decide) ?_
  refine lv_icmp_ne (tgt := 14) hx hb dX5_board_7 (by decide) (fun c_7 => ?_) (fun c_7 => absurd c_7 ((fun h => absurd ((nI_eq (b := 32) (by omega) (by omega)).mp h) (by omega))))
  refine lv_iconst (v := 0) hx hb dX5_board_14 (by decide) ?_
  refine w_putI am hst (k := 0) (by decide) (fun _ _ _ => cE_M) rfl inT5 tyX5 tyX5_ok nmX5 (by decide) fRX5_73 (fun _ _ _ => rfl) (fun _ _ _ => Nat.le_of_ble_eq_true rfl) rfl rfl rfl rfl dX5_board_15 (fun H locs hst => ?_)
  refine lv_aload_n hx hb dX5_board_18 rfl (lv_at hl 0 rfl) ?_
  refine w_getI am hst (k := 0) (by decide) (fun _ _ _ => cE_M) rfl inT5 (by decide) (fun _ _ _ => rfl) fRX5_73 dX5_board_19 ?_
  rw [show (u2 I 53 0 0) 53 0 = 0 from (u2_eq _ _ _ _)]
  refine lv_if_le (tgt := 27) hx hb dX5_board_22 (by decide) (fun c_22 => ?_) (fun c_22 => absurd ((show (0 : Int32) ≤ 0 by decide)) c_22)
  refine lv_aload_n hx hb dX5_board_27 rfl (lv_at hl 0 rfl) ?_
  refine lv_dup hx hb dX5_board_28 rfl ?_
  refine w_getI am hst (k := 2) (by decide) (fun _ _ _ => cE_M) rfl inT5 (by decide) (fun _ _ _ => rfl) fRX5_76 dX5_board_29 ?_
  rw [show (u2 I 53 0 0) 53 2 = I 53 2 from (u2_ne (by omega))]
  rw [hn]
  refine lv_iconst (v := 1) hx hb dX5_board_32 (by decide) ?_
  refine lv_iadd hx hb dX5_board_33 ?_
  rw [nI_1]
  refine w_putI am hst (k := 2) (by decide) (fun _ _ _ => cE_M) rfl inT5 tyX5 tyX5_ok nmX5 (by decide) fRX5_76 (fun _ _ _ => rfl) (fun _ _ _ => Nat.le_of_ble_eq_true rfl) rfl rfl rfl rfl dX5_board_34 (fun H locs hst => ?_)
  refine lv_aload_n hx hb dX5_board_37 rfl (lv_at hl 0 rfl) ?_
  refine w_getI am hst (k := 2) (by decide) (fun _ _ _ => cE_M) rfl inT5 (by decide) (fun _ _ _ => rfl) fRX5_76 dX5_board_38 ?_
  rw [show (u2 (u2 I 53 0 0) 53 2 (nI (n + 1))) 53 2 = nI (n + 1) from (u2_eq _ _ _ _)]
  refine lv_iconst (v := 1) hx hb dX5_board_41 (by decide) ?_
  refine lv_isub hx hb dX5_board_42 ?_
  rw [nI_pred]
  exact e_i hx hb hr hlk hst rfl rfl dX5_board_43

set_option maxHeartbeats 4000000 in
set_option maxRecDepth 100000 in
theorem x_X5_board {l : Launch} {D : va_G} {cy ad : Nat → Nat} {I : Im} {G : Dm} {J : Jm} (hadI : adI ad) (hn : I 53 2 = nI 32) : kM l yX5_board (.code yX5_board cX5_board 1 (some .int)) (rmK 0 0 0 0) D cy ad [.ref (ad 53)] I G J (qI D cy ad 0 (u2 I 53 0 1) G J) := by
  refine start_M hadI (by decide +kernel) (Nat.le_of_ble_eq_true rfl) ?_
  intro p e s m below meth cd am hx hb hr hlk hst ls hl
  have hl : lv_has ls 1 [(0, .ref (ad 53))] := hl
  refine lv_aload_n hx hb dX5_board_0 rfl (lv_at hl 0 rfl) ?_
  refine lv_aload_n hx hb dX5_board_1 rfl (lv_at hl 0 rfl) ?_
  refine w_getI am hst (k := 2) (by decide) (fun _ _ _ => cE_M) rfl inT5 (by decide) (fun _ _ _ => rfl) fRX5_76 dX5_board_2 ?_
  rw [hn]
  refine lv_bipush (v := 32) hx hb dX5_board_5 (by decide) ?_
  refine lv_icmp_ne (tgt := 14) hx hb dX5_board_7 (by decide) (fun c_7 => absurd rfl c_7) (fun c_7 => ?_)
  refine lv_iconst (v := 1) hx hb dX5_board_10 (by decide) ?_
  refine lv_goto (tgt := 15) hx hb dX5_board_11 (by decide) ?_
  refine w_putI am hst (k := 0) (by decide) (fun _ _ _ => cE_M) rfl inT5 tyX5 tyX5_ok nmX5 (by decide) fRX5_73 (fun _ _ _ => rfl) (fun _ _ _ => Nat.le_of_ble_eq_true rfl) rfl rfl rfl rfl dX5_board_15 (fun H locs hst => ?_)
  refine lv_aload_n hx hb dX5_board_18 rfl (lv_at hl 0 rfl) ?_
  refine w_getI am hst (k := 0) (by decide) (fun _ _ _ => cE_M) rfl inT5 (by decide) (fun _ _ _ => rfl) fRX5_73 dX5_board_19 ?_
  rw [show (u2 I 53 0 1) 53 0 = 1 from (u2_eq _ _ _ _)]
  refine lv_if_le (tgt := 27) hx hb dX5_board_22 (by decide) (fun c_22 => absurd c_22 ((show ¬ (1 : Int32) ≤ 0 by decide))) (fun c_22 => ?_)
  refine lv_iconst (v := 0) hx hb dX5_board_25 (by decide) ?_
  exact e_i hx hb hr hlk hst rfl rfl dX5_board_26

set_option maxHeartbeats 4000000 in
set_option maxRecDepth 100000 in
theorem k_X5_row {l : Launch} {D : va_G} {cy ad : Nat → Nat} {I : Im} {G : Dm} {J : Jm} (hadI : adI ad) {n k : Nat} (hn : I 53 2 = nI n) (hk : k < n) (hn2 : n ≤ 32) {r : Nat} {x X : UInt64} (hxX : cn x = X) (hin : mBt X 0 4652007308841189376 = true) (hrc : I 55 k = nI r) (hr8 : r < 8) : kD l yX5_row (.code yX5_row cX5_row 4 (some .int)) (rmK 1 0 0 25) D cy ad [.ref (ad 53), .int (nI k), .double x] I G J (qI D cy ad (nI (r + 1)) (u2 (u2 I 53 0 0) 55 k (nI (r + 1))) (u2 G 54 (8 * k + r) X) J) := by
  refine start_D hadI (by decide +kernel) (Nat.le_of_ble_eq_true rfl) ?_
  intro p e s m below meth cd am hx hb hr hlk hst ls hl d0 hd
  have hl : lv_has ls 4 [(0, .ref (ad 53)), (1, .int (nI k)), (2, .double x)] := hl
  refine lv_aload_n hx hb dX5_row_0 rfl (lv_at hl 0 rfl) ?_
  refine lv_aload_n hx hb dX5_row_1 rfl (lv_at hl 0 rfl) ?_
  refine lv_iload_n hx hb dX5_row_2 rfl (lv_at hl 1 rfl) ?_
  refine c_i hst (r_V (As := [.int (nI k)]) (rest := [.ref (ad 53)]) am hst hl (k_X5_noBoard hadI hn hk hn2) kRX5_79 imX5_noBoard slX5_noBoard ⟨Nat.le_of_ble_eq_true rfl, Nat.le_of_ble_eq_true rfl⟩ (by decide) (fun _ _ _ => cE_M) rfl rfl rfl (Nat.le_of_ble_eq_true rfl) dX5_row_3 ⟨Nat.le_of_ble_eq_true rfl, Nat.le_of_ble_eq_true rfl⟩) (fun H locs hst => ?_)
  refine lv_if_eq (tgt := 13) hx hb dX5_row_6 (by decide) (fun c_6 => ?_) (fun c_6 => absurd ((show (0 : Int32) = 0 by decide)) c_6)
  refine lv_dload_n hx hb dX5_row_13 rfl (lv_at hl 2 rfl) ?_
  refine lv_dconst0 hx hb dX5_row_14 ?_
  refine lv_ldc2d hx hb am.2.2.2.1 (amT am _ wRX5_83) dX5_row_15 ?_
  refine c_i hst (r_S (As := [.double x, .double FP.dconst0, .double 4652007308841189376]) (rest := [.ref (ad 53)]) am hst hl (k_X5_between hadI hxX cn_k0 cn_k4652007308841189376) kRX5_85 smX5_between ⟨Nat.le_of_ble_eq_true rfl, Nat.le_of_ble_eq_true rfl⟩ rfl rfl (Nat.le_of_ble_eq_true rfl) dX5_row_18 ⟨Nat.le_of_ble_eq_true rfl, Nat.le_of_ble_eq_true rfl⟩) (fun H locs hst => ?_)
  refine lv_if_ne (tgt := 28) hx hb dX5_row_21 (by decide) (fun c_21 => ?_) (fun c_21 => absurd c_21 (zB_n0.mpr hin))
  refine lv_aload_n hx hb dX5_row_28 rfl (lv_at hl 0 rfl) ?_
  refine w_getR am hst (k := 4) (b := ad 55) (by decide) (fun _ _ _ => cE_M) rfl inT5 (by decide) (fun _ _ _ => rfl) fRX5_13 dX5_row_29 ?_
  refine lv_iload_n hx hb dX5_row_32 rfl (lv_at hl 1 rfl) ?_
  refine w_iald am hst (by decide) (fun _ _ _ => cE_55) (n := k) (nI_clamp (by omega)) (vp_in_nI (by omega) (by decide)) dX5_row_33 ?_
  rw [hrc]
  refine lv_bipush (v := 8) hx hb dX5_row_34 (by decide) ?_
  refine lv_icmp_ne (tgt := 43) hx hb dX5_row_36 (by decide) (fun c_36 => ?_) (fun c_36 => absurd c_36 ((fun h => absurd ((nI_eq (b := 8) (by omega) (by omega)).mp h) (by omega))))
  refine lv_iconst (v := 0) hx hb dX5_row_43 (by decide) ?_
  refine w_putI am hst (k := 0) (by decide) (fun _ _ _ => cE_M) rfl inT5 tyX5 tyX5_ok nmX5 (by decide) fRX5_73 (fun _ _ _ => rfl) (fun _ _ _ => Nat.le_of_ble_eq_true rfl) rfl rfl rfl rfl dX5_row_44 (fun H locs hst => ?_)
  refine lv_aload_n hx hb dX5_row_47 rfl (lv_at hl 0 rfl) ?_
  refine w_getI am hst (k := 0) (by decide) (fun _ _ _ => cE_M) rfl inT5 (by decide) (fun _ _ _ => rfl) fRX5_73 dX5_row_48 ?_
  rw [show (u2 I 53 0 0) 53 0 = 0 from (u2_eq _ _ _ _)]
  refine lv_if_le (tgt := 56) hx hb dX5_row_51 (by decide) (fun c_51 => ?_) (fun c_51 => absurd ((show (0 : Int32) ≤ 0 by decide)) c_51)
  refine lv_aload_n hx hb dX5_row_56 rfl (lv_at hl 0 rfl) ?_
  refine w_getR am hst (k := 3) (b := ad 54) (by decide) (fun _ _ _ => cE_M) rfl inT5 (by decide) (fun _ _ _ => rfl) fRX5_7 dX5_row_57 ?_
  refine lv_bipush (v := 8) hx hb dX5_row_60 (by decide) ?_
  refine lv_iload_n hx hb dX5_row_62 rfl (lv_at hl 1 rfl) ?_
  refine lv_imul hx hb dX5_row_63 ?_
  refine lv_aload_n hx hb dX5_row_64 rfl (lv_at hl 0 rfl) ?_
  refine w_getR am hst (k := 4) (b := ad 55) (by decide) (fun _ _ _ => cE_M) rfl inT5 (by decide) (fun _ _ _ => rfl) fRX5_13 dX5_row_65 ?_
  refine lv_iload_n hx hb dX5_row_68 rfl (lv_at hl 1 rfl) ?_
  refine w_iald am hst (by decide) (fun _ _ _ => cE_55) (n := k) (nI_clamp (by omega)) (vp_in_nI (by omega) (by decide)) dX5_row_69 ?_
  rw [show (u2 I 53 0 0) 55 k = I 55 k from (u2_ne (by omega))]
  rw [hrc]
  refine lv_iadd hx hb dX5_row_70 ?_
  rw [nI_lin8]
  refine lv_dload_n hx hb dX5_row_71 rfl (lv_at hl 2 rfl) ?_
  refine w_dast am hst hxX (by decide) (fun _ _ _ => cE_54) (n := 8 * k + r) (nI_clamp (by omega)) (vp_in_nI (by omega) (by decide)) dX5_row_72 (fun H locs hst => ?_)
  refine lv_aload_n hx hb dX5_row_73 rfl (lv_at hl 0 rfl) ?_
  refine w_getR am hst (k := 4) (b := ad 55) (by decide) (fun _ _ _ => cE_M) rfl inT5 (by decide) (fun _ _ _ => rfl) fRX5_13 dX5_row_74 ?_
  refine lv_iload_n hx hb dX5_row_77 rfl (lv_at hl 1 rfl) ?_
  refine lv_dup2_11 hx hb dX5_row_78 rfl rfl ?_
  refine w_iald am hst (by decide) (fun _ _ _ => cE_55) (n := k) (nI_clamp (by omega)) (vp_in_nI (by omega) (by decide)) dX5_row_79 ?_
  rw [show (u2 I 53 0 0) 55 k = I 55 k from (u2_ne (by omega))]
  rw [hrc]
  refine lv_iconst (v := 1) hx hb dX5_row_80 (by decide) ?_
  refine lv_iadd hx hb dX5_row_81 ?_
  rw [nI_1]
  refine w_iast am hst (by decide) (fun _ _ _ => cE_55) (n := k) (nI_clamp (by omega)) (vp_in_nI (by omega) (by decide)) dX5_row_82 (fun H locs hst => ?_)
  refine lv_aload_n hx hb dX5_row_83 rfl (lv_at hl 0 rfl) ?_
  refine w_getR am hst (k := 4) (b := ad 55) (by decide) (fun _ _ _ => cE_M) rfl inT5 (by decide) (fun _ _ _ => rfl) fRX5_13 dX5_row_84 ?_
  refine lv_iload_n hx hb dX5_row_87 rfl (lv_at hl 1 rfl) ?_
  refine w_iald am hst (by decide) (fun _ _ _ => cE_55) (n := k) (nI_clamp (by omega)) (vp_in_nI (by omega) (by decide)) dX5_row_88 ?_
  rw [show (u2 (u2 I 53 0 0) 55 k (nI (r + 1))) 55 k = nI (r + 1) from (u2_eq _ _ _ _)]
  exact e_iD hd hx hb hr hlk hst rfl rfl dX5_row_89

set_option maxHeartbeats 4000000 in
set_option maxRecDepth 100000 in
theorem x1_X5_row {l : Launch} {D : va_G} {cy ad : Nat → Nat} {I : Im} {G : Dm} {J : Jm} (hadI : adI ad) {v : Int32} (hv : v < 0 ∨ ¬ v < I 53 2) {x : UInt64} : kM l yX5_row (.code yX5_row cX5_row 4 (some .int)) (rmK 1 0 0 25) D cy ad [.ref (ad 53), .int v, .double x] I G J (qI D cy ad 0 (u2 I 53 0 1) G J) := by
  refine start_M hadI (by decide +kernel) (Nat.le_of_ble_eq_true rfl) ?_
  intro p e s m below meth cd am hx hb hr hlk hst ls hl
  have hl : lv_has ls 4 [(0, .ref (ad 53)), (1, .int v), (2, .double x)] := hl
  refine lv_aload_n hx hb dX5_row_0 rfl (lv_at hl 0 rfl) ?_
  refine lv_aload_n hx hb dX5_row_1 rfl (lv_at hl 0 rfl) ?_
  refine lv_iload_n hx hb dX5_row_2 rfl (lv_at hl 1 rfl) ?_
  refine c_i hst (r_V (As := [.int v]) (rest := [.ref (ad 53)]) am hst hl (x_X5_noBoard hadI hv) kRX5_79 imX5_noBoard slX5_noBoard ⟨Nat.le_of_ble_eq_true rfl, Nat.le_of_ble_eq_true rfl⟩ (by decide) (fun _ _ _ => cE_M) rfl rfl rfl (Nat.le_of_ble_eq_true rfl) dX5_row_3 ⟨Nat.le_of_ble_eq_true rfl, Nat.le_of_ble_eq_true rfl⟩) (fun H locs hst => ?_)
  refine lv_if_eq (tgt := 13) hx hb dX5_row_6 (by decide) (fun c_6 => absurd c_6 ((show ¬ (1 : Int32) = 0 by decide))) (fun c_6 => ?_)
  refine lv_iconst (v := 1) hx hb dX5_row_9 (by decide) ?_
  refine lv_goto (tgt := 44) hx hb dX5_row_10 (by decide) ?_
  refine w_putI am hst (k := 0) (by decide) (fun _ _ _ => cE_M) rfl inT5 tyX5 tyX5_ok nmX5 (by decide) fRX5_73 (fun _ _ _ => rfl) (fun _ _ _ => Nat.le_of_ble_eq_true rfl) rfl rfl rfl rfl dX5_row_44 (fun H locs hst => ?_)
  refine lv_aload_n hx hb dX5_row_47 rfl (lv_at hl 0 rfl) ?_
  refine w_getI am hst (k := 0) (by decide) (fun _ _ _ => cE_M) rfl inT5 (by decide) (fun _ _ _ => rfl) fRX5_73 dX5_row_48 ?_
  rw [show (u2 I 53 0 1) 53 0 = 1 from (u2_eq _ _ _ _)]
  refine lv_if_le (tgt := 56) hx hb dX5_row_51 (by decide) (fun c_51 => absurd c_51 ((show ¬ (1 : Int32) ≤ 0 by decide))) (fun c_51 => ?_)
  refine lv_iconst (v := 0) hx hb dX5_row_54 (by decide) ?_
  exact e_i hx hb hr hlk hst rfl rfl dX5_row_55

set_option maxHeartbeats 4000000 in
set_option maxRecDepth 100000 in
theorem x2_X5_row {l : Launch} {D : va_G} {cy ad : Nat → Nat} {I : Im} {G : Dm} {J : Jm} (hadI : adI ad) {n k : Nat} (hn : I 53 2 = nI n) (hk : k < n) (hn2 : n ≤ 32) {x X : UInt64} (hxX : cn x = X) (hin : mBt X 0 4652007308841189376 = false) : kM l yX5_row (.code yX5_row cX5_row 4 (some .int)) (rmK 1 0 0 25) D cy ad [.ref (ad 53), .int (nI k), .double x] I G J (qI D cy ad 0 (u2 I 53 0 2) G J) := by
  refine start_M hadI (by decide +kernel) (Nat.le_of_ble_eq_true rfl) ?_
  intro p e s m below meth cd am hx hb hr hlk hst ls hl
  have hl : lv_has ls 4 [(0, .ref (ad 53)), (1, .int (nI k)), (2, .double x)] := hl
  refine lv_aload_n hx hb dX5_row_0 rfl (lv_at hl 0 rfl) ?_
  refine lv_aload_n hx hb dX5_row_1 rfl (lv_at hl 0 rfl) ?_
  refine lv_iload_n hx hb dX5_row_2 rfl (lv_at hl 1 rfl) ?_
  refine c_i hst (r_V (As := [.int (nI k)]) (rest := [.ref (ad 53)]) am hst hl (k_X5_noBoard hadI hn hk hn2) kRX5_79 imX5_noBoard slX5_noBoard ⟨Nat.le_of_ble_eq_true rfl, Nat.le_of_ble_eq_true rfl⟩ (by decide) (fun _ _ _ => cE_M) rfl rfl rfl (Nat.le_of_ble_eq_true rfl) dX5_row_3 ⟨Nat.le_of_ble_eq_true rfl, Nat.le_of_ble_eq_true rfl⟩) (fun H locs hst => ?_)
  refine lv_if_eq (tgt := 13) hx hb dX5_row_6 (by decide) (fun c_6 => ?_) (fun c_6 => absurd ((show (0 : Int32) = 0 by decide)) c_6)
  refine lv_dload_n hx hb dX5_row_13 rfl (lv_at hl 2 rfl) ?_
  refine lv_dconst0 hx hb dX5_row_14 ?_
  refine lv_ldc2d hx hb am.2.2.2.1 (amT am _ wRX5_83) dX5_row_15 ?_
  refine c_i hst (r_S (As := [.double x, .double FP.dconst0, .double 4652007308841189376]) (rest := [.ref (ad 53)]) am hst hl (k_X5_between hadI hxX cn_k0 cn_k4652007308841189376) kRX5_85 smX5_between ⟨Nat.le_of_ble_eq_true rfl, Nat.le_of_ble_eq_true rfl⟩ rfl rfl (Nat.le_of_ble_eq_true rfl) dX5_row_18 ⟨Nat.le_of_ble_eq_true rfl, Nat.le_of_ble_eq_true rfl⟩) (fun H locs hst => ?_)
  refine lv_if_ne (tgt := 28) hx hb dX5_row_21 (by decide) (fun c_21 => absurd (zB_0.mpr hin) c_21) (fun c_21 => ?_)
  refine lv_iconst (v := 2) hx hb dX5_row_24 (by decide) ?_
  refine lv_goto (tgt := 44) hx hb dX5_row_25 (by decide) ?_
  refine w_putI am hst (k := 0) (by decide) (fun _ _ _ => cE_M) rfl inT5 tyX5 tyX5_ok nmX5 (by decide) fRX5_73 (fun _ _ _ => rfl) (fun _ _ _ => Nat.le_of_ble_eq_true rfl) rfl rfl rfl rfl dX5_row_44 (fun H locs hst => ?_)
  refine lv_aload_n hx hb dX5_row_47 rfl (lv_at hl 0 rfl) ?_
  refine w_getI am hst (k := 0) (by decide) (fun _ _ _ => cE_M) rfl inT5 (by decide) (fun _ _ _ => rfl) fRX5_73 dX5_row_48 ?_
  rw [show (u2 I 53 0 2) 53 0 = 2 from (u2_eq _ _ _ _)]
  refine lv_if_le (tgt := 56) hx hb dX5_row_51 (by decide) (fun c_51 => absurd c_51 ((show ¬ (2 : Int32) ≤ 0 by decide))) (fun c_51 => ?_)
  refine lv_iconst (v := 0) hx hb dX5_row_54 (by decide) ?_
  exact e_i hx hb hr hlk hst rfl rfl dX5_row_55

set_option maxHeartbeats 4000000 in
set_option maxRecDepth 100000 in
theorem x3_X5_row {l : Launch} {D : va_G} {cy ad : Nat → Nat} {I : Im} {G : Dm} {J : Jm} (hadI : adI ad) {n k : Nat} (hn : I 53 2 = nI n) (hk : k < n) (hn2 : n ≤ 32) {x X : UInt64} (hxX : cn x = X) (hin : mBt X 0 4652007308841189376 = true) (hrc : I 55 k = nI 8) : kM l yX5_row (.code yX5_row cX5_row 4 (some .int)) (rmK 1 0 0 25) D cy ad [.ref (ad 53), .int (nI k), .double x] I G J (qI D cy ad 0 (u2 I 53 0 3) G J) := by
  refine start_M hadI (by decide +kernel) (Nat.le_of_ble_eq_true rfl) ?_
  intro p e s m below meth cd am hx hb hr hlk hst ls hl
  have hl : lv_has ls 4 [(0, .ref (ad 53)), (1, .int (nI k)), (2, .double x)] := hl
  refine lv_aload_n hx hb dX5_row_0 rfl (lv_at hl 0 rfl) ?_
  refine lv_aload_n hx hb dX5_row_1 rfl (lv_at hl 0 rfl) ?_
  refine lv_iload_n hx hb dX5_row_2 rfl (lv_at hl 1 rfl) ?_
  refine c_i hst (r_V (As := [.int (nI k)]) (rest := [.ref (ad 53)]) am hst hl (k_X5_noBoard hadI hn hk hn2) kRX5_79 imX5_noBoard slX5_noBoard ⟨Nat.le_of_ble_eq_true rfl, Nat.le_of_ble_eq_true rfl⟩ (by decide) (fun _ _ _ => cE_M) rfl rfl rfl (Nat.le_of_ble_eq_true rfl) dX5_row_3 ⟨Nat.le_of_ble_eq_true rfl, Nat.le_of_ble_eq_true rfl⟩) (fun H locs hst => ?_)
  refine lv_if_eq (tgt := 13) hx hb dX5_row_6 (by decide) (fun c_6 => ?_) (fun c_6 => absurd ((show (0 : Int32) = 0 by decide)) c_6)
  refine lv_dload_n hx hb dX5_row_13 rfl (lv_at hl 2 rfl) ?_
  refine lv_dconst0 hx hb dX5_row_14 ?_
  refine lv_ldc2d hx hb am.2.2.2.1 (amT am _ wRX5_83) dX5_row_15 ?_
  refine c_i hst (r_S (As := [.double x, .double FP.dconst0, .double 4652007308841189376]) (rest := [.ref (ad 53)]) am hst hl (k_X5_between hadI hxX cn_k0 cn_k4652007308841189376) kRX5_85 smX5_between ⟨Nat.le_of_ble_eq_true rfl, Nat.le_of_ble_eq_true rfl⟩ rfl rfl (Nat.le_of_ble_eq_true rfl) dX5_row_18 ⟨Nat.le_of_ble_eq_true rfl, Nat.le_of_ble_eq_true rfl⟩) (fun H locs hst => ?_)
  refine lv_if_ne (tgt := 28) hx hb dX5_row_21 (by decide) (fun c_21 => ?_) (fun c_21 => absurd c_21 (zB_n0.mpr hin))
  refine lv_aload_n hx hb dX5_row_28 rfl (lv_at hl 0 rfl) ?_
  refine w_getR am hst (k := 4) (b := ad 55) (by decide) (fun _ _ _ => cE_M) rfl inT5 (by decide) (fun _ _ _ => rfl) fRX5_13 dX5_row_29 ?_
  refine lv_iload_n hx hb dX5_row_32 rfl (lv_at hl 1 rfl) ?_
  refine w_iald am hst (by decide) (fun _ _ _ => cE_55) (n := k) (nI_clamp (by omega)) (vp_in_nI (by omega) (by decide)) dX5_row_33 ?_
  rw [hrc]
  refine lv_bipush (v := 8) hx hb dX5_row_34 (by decide) ?_
  refine lv_icmp_ne (tgt := 43) hx hb dX5_row_36 (by decide) (fun c_36 => absurd rfl c_36) (fun c_36 => ?_)
  refine lv_iconst (v := 3) hx hb dX5_row_39 (by decide) ?_
  refine lv_goto (tgt := 44) hx hb dX5_row_40 (by decide) ?_
  refine w_putI am hst (k := 0) (by decide) (fun _ _ _ => cE_M) rfl inT5 tyX5 tyX5_ok nmX5 (by decide) fRX5_73 (fun _ _ _ => rfl) (fun _ _ _ => Nat.le_of_ble_eq_true rfl) rfl rfl rfl rfl dX5_row_44 (fun H locs hst => ?_)
  refine lv_aload_n hx hb dX5_row_47 rfl (lv_at hl 0 rfl) ?_
  refine w_getI am hst (k := 0) (by decide) (fun _ _ _ => cE_M) rfl inT5 (by decide) (fun _ _ _ => rfl) fRX5_73 dX5_row_48 ?_
  rw [show (u2 I 53 0 3) 53 0 = 3 from (u2_eq _ _ _ _)]
  refine lv_if_le (tgt := 56) hx hb dX5_row_51 (by decide) (fun c_51 => absurd c_51 ((show ¬ (3 : Int32) ≤ 0 by decide))) (fun c_51 => ?_)
  refine lv_iconst (v := 0) hx hb dX5_row_54 (by decide) ?_
  exact e_i hx hb hr hlk hst rfl rfl dX5_row_55

set_option maxHeartbeats 4000000 in
set_option maxRecDepth 100000 in
theorem k_X5_echo {l : Launch} {D : va_G} {cy ad : Nat → Nat} {I : Im} {G : Dm} {J : Jm} (hadI : adI ad) {n k : Nat} (hn : I 53 2 = nI n) (hk : k < n) (hn2 : n ≤ 32) {x X y Y : UInt64} (hxX : cn x = X) (hyY : cn y = Y) (hin1 : mBt X 0 4636737291354636288 = true) (hin2 : mBt Y 0 4621819117588971520 = true) : kD l yX5_echo (.code yX5_echo cX5_echo 6 none) (rmK 1 0 0 25) D cy ad [.ref (ad 53), .int (nI k), .double x, .double y] I G J (qV D cy ad (u2 I 53 0 0) (u2 G 56 k (Mu (Mu Y X) X)) J) := by
  refine start_D hadI (by decide +kernel) (Nat.le_of_ble_eq_true rfl) ?_
  intro p e s m below meth cd am hx hb hr hlk hst ls hl d0 hd
  have hl : lv_has ls 6 [(0, .ref (ad 53)), (1, .int (nI k)), (2, .double x), (4, .double y)] := hl
  refine lv_aload_n hx hb dX5_echo_0 rfl (lv_at hl 0 rfl) ?_
  refine lv_aload_n hx hb dX5_echo_1 rfl (lv_at hl 0 rfl) ?_
  refine lv_iload_n hx hb dX5_echo_2 rfl (lv_at hl 1 rfl) ?_
  refine c_i hst (r_V (As := [.int (nI k)]) (rest := [.ref (ad 53)]) am hst hl (k_X5_noBoard hadI hn hk hn2) kRX5_79 imX5_noBoard slX5_noBoard ⟨Nat.le_of_ble_eq_true rfl, Nat.le_of_ble_eq_true rfl⟩ (by decide) (fun _ _ _ => cE_M) rfl rfl rfl (Nat.le_of_ble_eq_true rfl) dX5_echo_3 ⟨Nat.le_of_ble_eq_true rfl, Nat.le_of_ble_eq_true rfl⟩) (fun H locs hst => ?_)
  refine lv_if_eq (tgt := 13) hx hb dX5_echo_6 (by decide) (fun c_6 => ?_) (fun c_6 => absurd ((show (0 : Int32) = 0 by decide)) c_6)
  refine lv_dload_n hx hb dX5_echo_13 rfl (lv_at hl 2 rfl) ?_
  refine lv_dconst0 hx hb dX5_echo_14 ?_
  refine lv_ldc2d hx hb am.2.2.2.1 (amT am _ wRX5_89) dX5_echo_15 ?_
  refine c_i hst (r_S (As := [.double x, .double FP.dconst0, .double 4636737291354636288]) (rest := [.ref (ad 53)]) am hst hl (k_X5_between hadI hxX cn_k0 cn_k4636737291354636288) kRX5_85 smX5_between ⟨Nat.le_of_ble_eq_true rfl, Nat.le_of_ble_eq_true rfl⟩ rfl rfl (Nat.le_of_ble_eq_true rfl) dX5_echo_18 ⟨Nat.le_of_ble_eq_true rfl, Nat.le_of_ble_eq_true rfl⟩) (fun H locs hst => ?_)
  refine lv_if_eq (tgt := 40) hx hb dX5_echo_21 (by decide) (fun c_21 => absurd c_21 (zB_n0.mpr hin1)) (fun c_21 => ?_)
  refine lv_dload hx hb dX5_echo_24 (lv_at hl 3 rfl) ?_
  refine lv_dconst0 hx hb dX5_echo_26 ?_
  refine lv_ldc2d hx hb am.2.2.2.1 (amT am _ wRX5_91) dX5_echo_27 ?_
  refine c_i hst (r_S (As := [.double y, .double FP.dconst0, .double 4621819117588971520]) (rest := [.ref (ad 53)]) am hst hl (k_X5_between hadI hyY cn_k0 cn_k4621819117588971520) kRX5_85 smX5_between ⟨Nat.le_of_ble_eq_true rfl, Nat.le_of_ble_eq_true rfl⟩ rfl rfl (Nat.le_of_ble_eq_true rfl) dX5_echo_30 ⟨Nat.le_of_ble_eq_true rfl, Nat.le_of_ble_eq_true rfl⟩) (fun H locs hst => ?_)
  refine lv_if_eq (tgt := 40) hx hb dX5_echo_33 (by decide) (fun c_33 => absurd c_33 (zB_n0.mpr hin2)) (fun c_33 => ?_)
  refine lv_iconst (v := 0) hx hb dX5_echo_36 (by decide) ?_
  refine lv_goto (tgt := 41) hx hb dX5_echo_37 (by decide) ?_
  refine w_putI am hst (k := 0) (by decide) (fun _ _ _ => cE_M) rfl inT5 tyX5 tyX5_ok nmX5 (by decide) fRX5_73 (fun _ _ _ => rfl) (fun _ _ _ => Nat.le_of_ble_eq_true rfl) rfl rfl rfl rfl dX5_echo_41 (fun H locs hst => ?_)
  refine lv_aload_n hx hb dX5_echo_44 rfl (lv_at hl 0 rfl) ?_
  refine w_getI am hst (k := 0) (by decide) (fun _ _ _ => cE_M) rfl inT5 (by decide) (fun _ _ _ => rfl) fRX5_73 dX5_echo_45 ?_
  rw [show (u2 I 53 0 0) 53 0 = 0 from (u2_eq _ _ _ _)]
  refine lv_if_ne (tgt := 63) hx hb dX5_echo_48 (by decide) (fun c_48 => absurd ((show (0 : Int32) = 0 by decide)) c_48) (fun c_48 => ?_)
  refine lv_aload_n hx hb dX5_echo_51 rfl (lv_at hl 0 rfl) ?_
  refine w_getR am hst (k := 5) (b := ad 56) (by decide) (fun _ _ _ => cE_M) rfl inT5 (by decide) (fun _ _ _ => rfl) fRX5_17 dX5_echo_52 ?_
  refine lv_iload_n hx hb dX5_echo_55 rfl (lv_at hl 1 rfl) ?_
  refine lv_dload hx hb dX5_echo_56 (lv_at hl 3 rfl) ?_
  refine lv_dload_n hx hb dX5_echo_58 rfl (lv_at hl 2 rfl) ?_
  refine w_dmul hd hx hb hyY hxX dX5_echo_59 (fun x1 d0 hx1 hd => ?_)
  refine lv_dload_n hx hb dX5_echo_60 rfl (lv_at hl 2 rfl) ?_
  refine w_dmul hd hx hb hx1 hxX dX5_echo_61 (fun x2 d0 hx2 hd => ?_)
  refine w_dast am hst hx2 (by decide) (fun _ _ _ => cE_56) (n := k) (nI_clamp (by omega)) (vp_in_nI (by omega) (by decide)) dX5_echo_62 (fun H locs hst => ?_)
  exact e_vD hd hx hb hr hlk hst dX5_echo_63

set_option maxHeartbeats 4000000 in
set_option maxRecDepth 100000 in
theorem x1_X5_echo {l : Launch} {D : va_G} {cy ad : Nat → Nat} {I : Im} {G : Dm} {J : Jm} (hadI : adI ad) {v : Int32} (hv : v < 0 ∨ ¬ v < I 53 2) {x y : UInt64} : kM l yX5_echo (.code yX5_echo cX5_echo 6 none) (rmK 1 0 0 25) D cy ad [.ref (ad 53), .int v, .double x, .double y] I G J (qV D cy ad (u2 I 53 0 1) G J) := by
  refine start_M hadI (by decide +kernel) (Nat.le_of_ble_eq_true rfl) ?_
  intro p e s m below meth cd am hx hb hr hlk hst ls hl
  have hl : lv_has ls 6 [(0, .ref (ad 53)), (1, .int v), (2, .double x), (4, .double y)] := hl
  refine lv_aload_n hx hb dX5_echo_0 rfl (lv_at hl 0 rfl) ?_
  refine lv_aload_n hx hb dX5_echo_1 rfl (lv_at hl 0 rfl) ?_
  refine lv_iload_n hx hb dX5_echo_2 rfl (lv_at hl 1 rfl) ?_
  refine c_i hst (r_V (As := [.int v]) (rest := [.ref (ad 53)]) am hst hl (x_X5_noBoard hadI hv) kRX5_79 imX5_noBoard slX5_noBoard ⟨Nat.le_of_ble_eq_true rfl, Nat.le_of_ble_eq_true rfl⟩ (by decide) (fun _ _ _ => cE_M) rfl rfl rfl (Nat.le_of_ble_eq_true rfl) dX5_echo_3 ⟨Nat.le_of_ble_eq_true rfl, Nat.le_of_ble_eq_true rfl⟩) (fun H locs hst => ?_)
  refine lv_if_eq (tgt := 13) hx hb dX5_echo_6 (by decide) (fun c_6 => absurd c_6 ((show ¬ (1 : Int32) = 0 by decide))) (fun c_6 => ?_)
  refine lv_iconst (v := 1) hx hb dX5_echo_9 (by decide) ?_
  refine lv_goto (tgt := 41) hx hb dX5_echo_10 (by decide) ?_
  refine w_putI am hst (k := 0) (by decide) (fun _ _ _ => cE_M) rfl inT5 tyX5 tyX5_ok nmX5 (by decide) fRX5_73 (fun _ _ _ => rfl) (fun _ _ _ => Nat.le_of_ble_eq_true rfl) rfl rfl rfl rfl dX5_echo_41 (fun H locs hst => ?_)
  refine lv_aload_n hx hb dX5_echo_44 rfl (lv_at hl 0 rfl) ?_
  refine w_getI am hst (k := 0) (by decide) (fun _ _ _ => cE_M) rfl inT5 (by decide) (fun _ _ _ => rfl) fRX5_73 dX5_echo_45 ?_
  rw [show (u2 I 53 0 1) 53 0 = 1 from (u2_eq _ _ _ _)]
  refine lv_if_ne (tgt := 63) hx hb dX5_echo_48 (by decide) (fun c_48 => ?_) (fun c_48 => absurd c_48 ((show ¬ (1 : Int32) = 0 by decide)))
  exact e_v hx hb hr hlk hst dX5_echo_63

set_option maxHeartbeats 4000000 in
set_option maxRecDepth 100000 in
theorem x2_X5_echo {l : Launch} {D : va_G} {cy ad : Nat → Nat} {I : Im} {G : Dm} {J : Jm} (hadI : adI ad) {n k : Nat} (hn : I 53 2 = nI n) (hk : k < n) (hn2 : n ≤ 32) {x X y Y : UInt64} (hxX : cn x = X) (hyY : cn y = Y) (hin : (mBt X 0 4636737291354636288 && mBt Y 0 4621819117588971520) = false) : kM l yX5_echo (.code yX5_echo cX5_echo 6 none) (rmK 1 0 0 25) D cy ad [.ref (ad 53), .int (nI k), .double x, .double y] I G J (qV D cy ad (u2 I 53 0 2) G J) := by
  refine start_M hadI (by decide +kernel) (Nat.le_of_ble_eq_true rfl) ?_
  intro p e s m below meth cd am hx hb hr hlk hst ls hl
  have hl : lv_has ls 6 [(0, .ref (ad 53)), (1, .int (nI k)), (2, .double x), (4, .double y)] := hl
  refine lv_aload_n hx hb dX5_echo_0 rfl (lv_at hl 0 rfl) ?_
  refine lv_aload_n hx hb dX5_echo_1 rfl (lv_at hl 0 rfl) ?_
  refine lv_iload_n hx hb dX5_echo_2 rfl (lv_at hl 1 rfl) ?_
  refine c_i hst (r_V (As := [.int (nI k)]) (rest := [.ref (ad 53)]) am hst hl (k_X5_noBoard hadI hn hk hn2) kRX5_79 imX5_noBoard slX5_noBoard ⟨Nat.le_of_ble_eq_true rfl, Nat.le_of_ble_eq_true rfl⟩ (by decide) (fun _ _ _ => cE_M) rfl rfl rfl (Nat.le_of_ble_eq_true rfl) dX5_echo_3 ⟨Nat.le_of_ble_eq_true rfl, Nat.le_of_ble_eq_true rfl⟩) (fun H locs hst => ?_)
  refine lv_if_eq (tgt := 13) hx hb dX5_echo_6 (by decide) (fun c_6 => ?_) (fun c_6 => absurd ((show (0 : Int32) = 0 by decide)) c_6)
  refine lv_dload_n hx hb dX5_echo_13 rfl (lv_at hl 2 rfl) ?_
  refine lv_dconst0 hx hb dX5_echo_14 ?_
  refine lv_ldc2d hx hb am.2.2.2.1 (amT am _ wRX5_89) dX5_echo_15 ?_
  refine c_i hst (r_S (As := [.double x, .double FP.dconst0, .double 4636737291354636288]) (rest := [.ref (ad 53)]) am hst hl (k_X5_between hadI hxX cn_k0 cn_k4636737291354636288) kRX5_85 smX5_between ⟨Nat.le_of_ble_eq_true rfl, Nat.le_of_ble_eq_true rfl⟩ rfl rfl (Nat.le_of_ble_eq_true rfl) dX5_echo_18 ⟨Nat.le_of_ble_eq_true rfl, Nat.le_of_ble_eq_true rfl⟩) (fun H locs hst => ?_)
  refine lv_if_eq (tgt := 40) hx hb dX5_echo_21 (by decide) (fun c_21 => ?_) (fun c_21 => ?_)
  · skip
    refine lv_iconst (v := 2) hx hb dX5_echo_40 (by decide) ?_
    refine w_putI am hst (k := 0) (by decide) (fun _ _ _ => cE_M) rfl inT5 tyX5 tyX5_ok nmX5 (by decide) fRX5_73 (fun _ _ _ => rfl) (fun _ _ _ => Nat.le_of_ble_eq_true rfl) rfl rfl rfl rfl dX5_echo_41 (fun H locs hst => ?_)
    refine lv_aload_n hx hb dX5_echo_44 rfl (lv_at hl 0 rfl) ?_
    refine w_getI am hst (k := 0) (by decide) (fun _ _ _ => cE_M) rfl inT5 (by decide) (fun _ _ _ => rfl) fRX5_73 dX5_echo_45 ?_
    rw [show (u2 I 53 0 2) 53 0 = 2 from (u2_eq _ _ _ _)]
    refine lv_if_ne (tgt := 63) hx hb dX5_echo_48 (by decide) (fun c_48 => ?_) (fun c_48 => absurd c_48 ((show ¬ (2 : Int32) = 0 by decide)))
    exact e_v hx hb hr hlk hst dX5_echo_63
  · skip
    refine lv_dload hx hb dX5_echo_24 (lv_at hl 3 rfl) ?_
    refine lv_dconst0 hx hb dX5_echo_26 ?_
    refine lv_ldc2d hx hb am.2.2.2.1 (amT am _ wRX5_91) dX5_echo_27 ?_
    refine c_i hst (r_S (As := [.double y, .double FP.dconst0, .double 4621819117588971520]) (rest := [.ref (ad 53)]) am hst hl (k_X5_between hadI hyY cn_k0 cn_k4621819117588971520) kRX5_85 smX5_between ⟨Nat.le_of_ble_eq_true rfl, Nat.le_of_ble_eq_true rfl⟩ rfl rfl (Nat.le_of_ble_eq_true rfl) dX5_echo_30 ⟨Nat.le_of_ble_eq_true rfl, Nat.le_of_ble_eq_true rfl⟩) (fun H locs hst => ?_)
    refine lv_if_eq (tgt := 40) hx hb dX5_echo_33 (by decide) (fun c_33 => ?_) (fun c_33 => absurd ((by rw [zB_n0.mp c_21, Bool.true_and] at hin; exact zB_0.mpr hin)) c_33)
    refine lv_iconst (v := 2) hx hb dX5_echo_40 (by decide) ?_
    refine w_putI am hst (k := 0) (by decide) (fun _ _ _ => cE_M) rfl inT5 tyX5 tyX5_ok nmX5 (by decide) fRX5_73 (fun _ _ _ => rfl) (fun _ _ _ => Nat.le_of_ble_eq_true rfl) rfl rfl rfl rfl dX5_echo_41 (fun H locs hst => ?_)
    refine lv_aload_n hx hb dX5_echo_44 rfl (lv_at hl 0 rfl) ?_
    refine w_getI am hst (k := 0) (by decide) (fun _ _ _ => cE_M) rfl inT5 (by decide) (fun _ _ _ => rfl) fRX5_73 dX5_echo_45 ?_
    rw [show (u2 I 53 0 2) 53 0 = 2 from (u2_eq _ _ _ _)]
    refine lv_if_ne (tgt := 63) hx hb dX5_echo_48 (by decide) (fun c_48 => ?_) (fun c_48 => absurd c_48 ((show ¬ (2 : Int32) = 0 by decide)))
    exact e_v hx hb hr hlk hst dX5_echo_63

set_option maxHeartbeats 4000000 in
set_option maxRecDepth 100000 in
theorem k_X5_knots {l : Launch} {D : va_G} {cy ad : Nat → Nat} {I : Im} {G : Dm} {J : Jm} (hadI : adI ad) {n k : Nat} (hn : I 53 2 = nI n) (hk : k < n) (hn2 : n ≤ 32) {x X : UInt64} (hxX : cn x = X) (hin : mBt X 0 4607182418800017408 = true) : kM l yX5_knots (.code yX5_knots cX5_knots 4 none) (rmK 1 0 0 25) D cy ad [.ref (ad 53), .int (nI k), .double x] I G J (qV D cy ad (u2 I 53 0 0) (u2 G 57 k X) J) := by
  refine start_M hadI (by decide +kernel) (Nat.le_of_ble_eq_true rfl) ?_
  intro p e s m below meth cd am hx hb hr hlk hst ls hl
  have hl : lv_has ls 4 [(0, .ref (ad 53)), (1, .int (nI k)), (2, .double x)] := hl
  refine lv_aload_n hx hb dX5_knots_0 rfl (lv_at hl 0 rfl) ?_
  refine lv_aload_n hx hb dX5_knots_1 rfl (lv_at hl 0 rfl) ?_
  refine lv_iload_n hx hb dX5_knots_2 rfl (lv_at hl 1 rfl) ?_
  refine c_i hst (r_V (As := [.int (nI k)]) (rest := [.ref (ad 53)]) am hst hl (k_X5_noBoard hadI hn hk hn2) kRX5_79 imX5_noBoard slX5_noBoard ⟨Nat.le_of_ble_eq_true rfl, Nat.le_of_ble_eq_true rfl⟩ (by decide) (fun _ _ _ => cE_M) rfl rfl rfl (Nat.le_of_ble_eq_true rfl) dX5_knots_3 ⟨Nat.le_of_ble_eq_true rfl, Nat.le_of_ble_eq_true rfl⟩) (fun H locs hst => ?_)
  refine lv_if_eq (tgt := 13) hx hb dX5_knots_6 (by decide) (fun c_6 => ?_) (fun c_6 => absurd ((show (0 : Int32) = 0 by decide)) c_6)
  refine lv_dload_n hx hb dX5_knots_13 rfl (lv_at hl 2 rfl) ?_
  refine lv_dconst0 hx hb dX5_knots_14 ?_
  refine lv_dconst1 hx hb dX5_knots_15 ?_
  refine c_i hst (r_S (As := [.double x, .double FP.dconst0, .double FP.dconst1]) (rest := [.ref (ad 53)]) am hst hl (k_X5_between hadI hxX cn_k0 cn_k4607182418800017408) kRX5_85 smX5_between ⟨Nat.le_of_ble_eq_true rfl, Nat.le_of_ble_eq_true rfl⟩ rfl rfl (Nat.le_of_ble_eq_true rfl) dX5_knots_16 ⟨Nat.le_of_ble_eq_true rfl, Nat.le_of_ble_eq_true rfl⟩) (fun H locs hst => ?_)
  refine lv_if_eq (tgt := 26) hx hb dX5_knots_19 (by decide) (fun c_19 => absurd c_19 (zB_n0.mpr hin)) (fun c_19 => ?_)
  refine lv_iconst (v := 0) hx hb dX5_knots_22 (by decide) ?_
  refine lv_goto (tgt := 27) hx hb dX5_knots_23 (by decide) ?_
  refine w_putI am hst (k := 0) (by decide) (fun _ _ _ => cE_M) rfl inT5 tyX5 tyX5_ok nmX5 (by decide) fRX5_73 (fun _ _ _ => rfl) (fun _ _ _ => Nat.le_of_ble_eq_true rfl) rfl rfl rfl rfl dX5_knots_27 (fun H locs hst => ?_)
  refine lv_aload_n hx hb dX5_knots_30 rfl (lv_at hl 0 rfl) ?_
  refine w_getI am hst (k := 0) (by decide) (fun _ _ _ => cE_M) rfl inT5 (by decide) (fun _ _ _ => rfl) fRX5_73 dX5_knots_31 ?_
  rw [show (u2 I 53 0 0) 53 0 = 0 from (u2_eq _ _ _ _)]
  refine lv_if_ne (tgt := 44) hx hb dX5_knots_34 (by decide) (fun c_34 => absurd ((show (0 : Int32) = 0 by decide)) c_34) (fun c_34 => ?_)
  refine lv_aload_n hx hb dX5_knots_37 rfl (lv_at hl 0 rfl) ?_
  refine w_getR am hst (k := 6) (b := ad 57) (by decide) (fun _ _ _ => cE_M) rfl inT5 (by decide) (fun _ _ _ => rfl) fRX5_20 dX5_knots_38 ?_
  refine lv_iload_n hx hb dX5_knots_41 rfl (lv_at hl 1 rfl) ?_
  refine lv_dload_n hx hb dX5_knots_42 rfl (lv_at hl 2 rfl) ?_
  refine w_dast am hst hxX (by decide) (fun _ _ _ => cE_57) (n := k) (nI_clamp (by omega)) (vp_in_nI (by omega) (by decide)) dX5_knots_43 (fun H locs hst => ?_)
  exact e_v hx hb hr hlk hst dX5_knots_44

set_option maxHeartbeats 4000000 in
set_option maxRecDepth 100000 in
theorem x1_X5_knots {l : Launch} {D : va_G} {cy ad : Nat → Nat} {I : Im} {G : Dm} {J : Jm} (hadI : adI ad) {v : Int32} (hv : v < 0 ∨ ¬ v < I 53 2) {x : UInt64} : kM l yX5_knots (.code yX5_knots cX5_knots 4 none) (rmK 1 0 0 25) D cy ad [.ref (ad 53), .int v, .double x] I G J (qV D cy ad (u2 I 53 0 1) G J) := by
  refine start_M hadI (by decide +kernel) (Nat.le_of_ble_eq_true rfl) ?_
  intro p e s m below meth cd am hx hb hr hlk hst ls hl
  have hl : lv_has ls 4 [(0, .ref (ad 53)), (1, .int v), (2, .double x)] := hl
  refine lv_aload_n hx hb dX5_knots_0 rfl (lv_at hl 0 rfl) ?_
  refine lv_aload_n hx hb dX5_knots_1 rfl (lv_at hl 0 rfl) ?_
  refine lv_iload_n hx hb dX5_knots_2 rfl (lv_at hl 1 rfl) ?_
  refine c_i hst (r_V (As := [.int v]) (rest := [.ref (ad 53)]) am hst hl (x_X5_noBoard hadI hv) kRX5_79 imX5_noBoard slX5_noBoard ⟨Nat.le_of_ble_eq_true rfl, Nat.le_of_ble_eq_true rfl⟩ (by decide) (fun _ _ _ => cE_M) rfl rfl rfl (Nat.le_of_ble_eq_true rfl) dX5_knots_3 ⟨Nat.le_of_ble_eq_true rfl, Nat.le_of_ble_eq_true rfl⟩) (fun H locs hst => ?_)
  refine lv_if_eq (tgt := 13) hx hb dX5_knots_6 (by decide) (fun c_6 => absurd c_6 ((show ¬ (1 : Int32) = 0 by decide))) (fun c_6 => ?_)
  refine lv_iconst (v := 1) hx hb dX5_knots_9 (by decide) ?_
  refine lv_goto (tgt := 27) hx hb dX5_knots_10 (by decide) ?_
  refine w_putI am hst (k := 0) (by decide) (fun _ _ _ => cE_M) rfl inT5 tyX5 tyX5_ok nmX5 (by decide) fRX5_73 (fun _ _ _ => rfl) (fun _ _ _ => Nat.le_of_ble_eq_true rfl) rfl rfl rfl rfl dX5_knots_27 (fun H locs hst => ?_)
  refine lv_aload_n hx hb dX5_knots_30 rfl (lv_at hl 0 rfl) ?_
  refine w_getI am hst (k := 0) (by decide) (fun _ _ _ => cE_M) rfl inT5 (by decide) (fun _ _ _ => rfl) fRX5_73 dX5_knots_31 ?_
  rw [show (u2 I 53 0 1) 53 0 = 1 from (u2_eq _ _ _ _)]
  refine lv_if_ne (tgt := 44) hx hb dX5_knots_34 (by decide) (fun c_34 => ?_) (fun c_34 => absurd c_34 ((show ¬ (1 : Int32) = 0 by decide)))
  exact e_v hx hb hr hlk hst dX5_knots_44

set_option maxHeartbeats 4000000 in
set_option maxRecDepth 100000 in
theorem x2_X5_knots {l : Launch} {D : va_G} {cy ad : Nat → Nat} {I : Im} {G : Dm} {J : Jm} (hadI : adI ad) {n k : Nat} (hn : I 53 2 = nI n) (hk : k < n) (hn2 : n ≤ 32) {x X : UInt64} (hxX : cn x = X) (hin : mBt X 0 4607182418800017408 = false) : kM l yX5_knots (.code yX5_knots cX5_knots 4 none) (rmK 1 0 0 25) D cy ad [.ref (ad 53), .int (nI k), .double x] I G J (qV D cy ad (u2 I 53 0 2) G J) := by
  refine start_M hadI (by decide +kernel) (Nat.le_of_ble_eq_true rfl) ?_
  intro p e s m below meth cd am hx hb hr hlk hst ls hl
  have hl : lv_has ls 4 [(0, .ref (ad 53)), (1, .int (nI k)), (2, .double x)] := hl
  refine lv_aload_n hx hb dX5_knots_0 rfl (lv_at hl 0 rfl) ?_
  refine lv_aload_n hx hb dX5_knots_1 rfl (lv_at hl 0 rfl) ?_
  refine lv_iload_n hx hb dX5_knots_2 rfl (lv_at hl 1 rfl) ?_
  refine c_i hst (r_V (As := [.int (nI k)]) (rest := [.ref (ad 53)]) am hst hl (k_X5_noBoard hadI hn hk hn2) kRX5_79 imX5_noBoard slX5_noBoard ⟨Nat.le_of_ble_eq_true rfl, Nat.le_of_ble_eq_true rfl⟩ (by decide) (fun _ _ _ => cE_M) rfl rfl rfl (Nat.le_of_ble_eq_true rfl) dX5_knots_3 ⟨Nat.le_of_ble_eq_true rfl, Nat.le_of_ble_eq_true rfl⟩) (fun H locs hst => ?_)
  refine lv_if_eq (tgt := 13) hx hb dX5_knots_6 (by decide) (fun c_6 => ?_) (fun c_6 => absurd ((show (0 : Int32) = 0 by decide)) c_6)
  refine lv_dload_n hx hb dX5_knots_13 rfl (lv_at hl 2 rfl) ?_
  refine lv_dconst0 hx hb dX5_knots_14 ?_
  refine lv_dconst1 hx hb dX5_knots_15 ?_
  refine c_i hst (r_S (As := [.double x, .double FP.dconst0, .double FP.dconst1]) (rest := [.ref (ad 53)]) am hst hl (k_X5_between hadI hxX cn_k0 cn_k4607182418800017408) kRX5_85 smX5_between ⟨Nat.le_of_ble_eq_true rfl, Nat.le_of_ble_eq_true rfl⟩ rfl rfl (Nat.le_of_ble_eq_true rfl) dX5_knots_16 ⟨Nat.le_of_ble_eq_true rfl, Nat.le_of_ble_eq_true rfl⟩) (fun H locs hst => ?_)
  refine lv_if_eq (tgt := 26) hx hb dX5_knots_19 (by decide) (fun c_19 => ?_) (fun c_19 => absurd (zB_0.mpr hin) c_19)
  refine lv_iconst (v := 2) hx hb dX5_knots_26 (by decide) ?_
  refine w_putI am hst (k := 0) (by decide) (fun _ _ _ => cE_M) rfl inT5 tyX5 tyX5_ok nmX5 (by decide) fRX5_73 (fun _ _ _ => rfl) (fun _ _ _ => Nat.le_of_ble_eq_true rfl) rfl rfl rfl rfl dX5_knots_27 (fun H locs hst => ?_)
  refine lv_aload_n hx hb dX5_knots_30 rfl (lv_at hl 0 rfl) ?_
  refine w_getI am hst (k := 0) (by decide) (fun _ _ _ => cE_M) rfl inT5 (by decide) (fun _ _ _ => rfl) fRX5_73 dX5_knots_31 ?_
  rw [show (u2 I 53 0 2) 53 0 = 2 from (u2_eq _ _ _ _)]
  refine lv_if_ne (tgt := 44) hx hb dX5_knots_34 (by decide) (fun c_34 => ?_) (fun c_34 => absurd c_34 ((show ¬ (2 : Int32) = 0 by decide)))
  exact e_v hx hb hr hlk hst dX5_knots_44

set_option maxHeartbeats 4000000 in
set_option maxRecDepth 100000 in
theorem k_X5_broken {l : Launch} {D : va_G} {cy ad : Nat → Nat} {I : Im} {G : Dm} {J : Jm} (hadI : adI ad) {n k : Nat} (hn : I 53 2 = nI n) (hk : k < n) (hn2 : n ≤ 32) {x X : UInt64} (hxX : cn x = X) (hin : mBt X 0 4652007308841189376 = true) (h5 : I 59 k = 0) (h6 : I 60 k = 0) : kM l yX5_broken (.code yX5_broken cX5_broken 4 none) (rmK 1 0 0 25) D cy ad [.ref (ad 53), .int (nI k), .double x] I G J (qV D cy ad (u2 (u2 I 53 0 0) 59 k 1) (u2 G 58 k X) J) := by
  refine start_M hadI (by decide +kernel) (Nat.le_of_ble_eq_true rfl) ?_
  intro p e s m below meth cd am hx hb hr hlk hst ls hl
  have hl : lv_has ls 4 [(0, .ref (ad 53)), (1, .int (nI k)), (2, .double x)] := hl
  refine lv_aload_n hx hb dX5_broken_0 rfl (lv_at hl 0 rfl) ?_
  refine lv_aload_n hx hb dX5_broken_1 rfl (lv_at hl 0 rfl) ?_
  refine lv_iload_n hx hb dX5_broken_2 rfl (lv_at hl 1 rfl) ?_
  refine c_i hst (r_V (As := [.int (nI k)]) (rest := [.ref (ad 53)]) am hst hl (k_X5_noBoard hadI hn hk hn2) kRX5_79 imX5_noBoard slX5_noBoard ⟨Nat.le_of_ble_eq_true rfl, Nat.le_of_ble_eq_true rfl⟩ (by decide) (fun _ _ _ => cE_M) rfl rfl rfl (Nat.le_of_ble_eq_true rfl) dX5_broken_3 ⟨Nat.le_of_ble_eq_true rfl, Nat.le_of_ble_eq_true rfl⟩) (fun H locs hst => ?_)
  refine lv_if_eq (tgt := 13) hx hb dX5_broken_6 (by decide) (fun c_6 => ?_) (fun c_6 => absurd ((show (0 : Int32) = 0 by decide)) c_6)
  refine lv_dload_n hx hb dX5_broken_13 rfl (lv_at hl 2 rfl) ?_
  refine lv_dconst0 hx hb dX5_broken_14 ?_
  refine lv_ldc2d hx hb am.2.2.2.1 (amT am _ wRX5_83) dX5_broken_15 ?_
  refine c_i hst (r_S (As := [.double x, .double FP.dconst0, .double 4652007308841189376]) (rest := [.ref (ad 53)]) am hst hl (k_X5_between hadI hxX cn_k0 cn_k4652007308841189376) kRX5_85 smX5_between ⟨Nat.le_of_ble_eq_true rfl, Nat.le_of_ble_eq_true rfl⟩ rfl rfl (Nat.le_of_ble_eq_true rfl) dX5_broken_18 ⟨Nat.le_of_ble_eq_true rfl, Nat.le_of_ble_eq_true rfl⟩) (fun H locs hst => ?_)
  refine lv_if_ne (tgt := 28) hx hb dX5_broken_21 (by decide) (fun c_21 => ?_) (fun c_21 => absurd c_21 (zB_n0.mpr hin))
  refine lv_aload_n hx hb dX5_broken_28 rfl (lv_at hl 0 rfl) ?_
  refine w_getR am hst (k := 8) (b := ad 59) (by decide) (fun _ _ _ => cE_M) rfl inT5 (by decide) (fun _ _ _ => rfl) fRX5_26 dX5_broken_29 ?_
  refine lv_iload_n hx hb dX5_broken_32 rfl (lv_at hl 1 rfl) ?_
  refine w_zald am hst (by decide) (fun _ _ _ => cE_59) (n := k) (nI_clamp (by omega)) (vp_in_nI (by omega) (by decide)) dX5_broken_33 ?_
  refine lv_if_ne (tgt := 46) hx hb dX5_broken_34 (by decide) (fun c_34 => absurd h5 c_34) (fun c_34 => ?_)
  refine lv_aload_n hx hb dX5_broken_37 rfl (lv_at hl 0 rfl) ?_
  refine w_getR am hst (k := 9) (b := ad 60) (by decide) (fun _ _ _ => cE_M) rfl inT5 (by decide) (fun _ _ _ => rfl) fRX5_30 dX5_broken_38 ?_
  refine lv_iload_n hx hb dX5_broken_41 rfl (lv_at hl 1 rfl) ?_
  refine w_zald am hst (by decide) (fun _ _ _ => cE_60) (n := k) (nI_clamp (by omega)) (vp_in_nI (by omega) (by decide)) dX5_broken_42 ?_
  refine lv_if_eq (tgt := 50) hx hb dX5_broken_43 (by decide) (fun c_43 => ?_) (fun c_43 => absurd h6 c_43)
  refine lv_iconst (v := 0) hx hb dX5_broken_50 (by decide) ?_
  refine w_putI am hst (k := 0) (by decide) (fun _ _ _ => cE_M) rfl inT5 tyX5 tyX5_ok nmX5 (by decide) fRX5_73 (fun _ _ _ => rfl) (fun _ _ _ => Nat.le_of_ble_eq_true rfl) rfl rfl rfl rfl dX5_broken_51 (fun H locs hst => ?_)
  refine lv_aload_n hx hb dX5_broken_54 rfl (lv_at hl 0 rfl) ?_
  refine w_getI am hst (k := 0) (by decide) (fun _ _ _ => cE_M) rfl inT5 (by decide) (fun _ _ _ => rfl) fRX5_73 dX5_broken_55 ?_
  rw [show (u2 I 53 0 0) 53 0 = 0 from (u2_eq _ _ _ _)]
  refine lv_if_ne (tgt := 75) hx hb dX5_broken_58 (by decide) (fun c_58 => absurd ((show (0 : Int32) = 0 by decide)) c_58) (fun c_58 => ?_)
  refine lv_aload_n hx hb dX5_broken_61 rfl (lv_at hl 0 rfl) ?_
  refine w_getR am hst (k := 7) (b := ad 58) (by decide) (fun _ _ _ => cE_M) rfl inT5 (by decide) (fun _ _ _ => rfl) fRX5_23 dX5_broken_62 ?_
  refine lv_iload_n hx hb dX5_broken_65 rfl (lv_at hl 1 rfl) ?_
  refine lv_dload_n hx hb dX5_broken_66 rfl (lv_at hl 2 rfl) ?_
  refine w_dast am hst hxX (by decide) (fun _ _ _ => cE_58) (n := k) (nI_clamp (by omega)) (vp_in_nI (by omega) (by decide)) dX5_broken_67 (fun H locs hst => ?_)
  refine lv_aload_n hx hb dX5_broken_68 rfl (lv_at hl 0 rfl) ?_
  refine w_getR am hst (k := 8) (b := ad 59) (by decide) (fun _ _ _ => cE_M) rfl inT5 (by decide) (fun _ _ _ => rfl) fRX5_26 dX5_broken_69 ?_
  refine lv_iload_n hx hb dX5_broken_72 rfl (lv_at hl 1 rfl) ?_
  refine lv_iconst (v := 1) hx hb dX5_broken_73 (by decide) ?_
  refine w_zast am hst rfl (by decide) (fun _ _ _ => cE_59) (n := k) (nI_clamp (by omega)) (vp_in_nI (by omega) (by decide)) dX5_broken_74 (fun H locs hst => ?_)
  exact e_v hx hb hr hlk hst dX5_broken_75

set_option maxHeartbeats 4000000 in
set_option maxRecDepth 100000 in
theorem x1_X5_broken {l : Launch} {D : va_G} {cy ad : Nat → Nat} {I : Im} {G : Dm} {J : Jm} (hadI : adI ad) {v : Int32} (hv : v < 0 ∨ ¬ v < I 53 2) {x : UInt64} : kM l yX5_broken (.code yX5_broken cX5_broken 4 none) (rmK 1 0 0 25) D cy ad [.ref (ad 53), .int v, .double x] I G J (qV D cy ad (u2 I 53 0 1) G J) := by
  refine start_M hadI (by decide +kernel) (Nat.le_of_ble_eq_true rfl) ?_
  intro p e s m below meth cd am hx hb hr hlk hst ls hl
  have hl : lv_has ls 4 [(0, .ref (ad 53)), (1, .int v), (2, .double x)] := hl
  refine lv_aload_n hx hb dX5_broken_0 rfl (lv_at hl 0 rfl) ?_
  refine lv_aload_n hx hb dX5_broken_1 rfl (lv_at hl 0 rfl) ?_
  refine lv_iload_n hx hb dX5_broken_2 rfl (lv_at hl 1 rfl) ?_
  refine c_i hst (r_V (As := [.int v]) (rest := [.ref (ad 53)]) am hst hl (x_X5_noBoard hadI hv) kRX5_79 imX5_noBoard slX5_noBoard ⟨Nat.le_of_ble_eq_true rfl, Nat.le_of_ble_eq_true rfl⟩ (by decide) (fun _ _ _ => cE_M) rfl rfl rfl (Nat.le_of_ble_eq_true rfl) dX5_broken_3 ⟨Nat.le_of_ble_eq_true rfl, Nat.le_of_ble_eq_true rfl⟩) (fun H locs hst => ?_)
  refine lv_if_eq (tgt := 13) hx hb dX5_broken_6 (by decide) (fun c_6 => absurd c_6 ((show ¬ (1 : Int32) = 0 by decide))) (fun c_6 => ?_)
  refine lv_iconst (v := 1) hx hb dX5_broken_9 (by decide) ?_
  refine lv_goto (tgt := 51) hx hb dX5_broken_10 (by decide) ?_
  refine w_putI am hst (k := 0) (by decide) (fun _ _ _ => cE_M) rfl inT5 tyX5 tyX5_ok nmX5 (by decide) fRX5_73 (fun _ _ _ => rfl) (fun _ _ _ => Nat.le_of_ble_eq_true rfl) rfl rfl rfl rfl dX5_broken_51 (fun H locs hst => ?_)
  refine lv_aload_n hx hb dX5_broken_54 rfl (lv_at hl 0 rfl) ?_
  refine w_getI am hst (k := 0) (by decide) (fun _ _ _ => cE_M) rfl inT5 (by decide) (fun _ _ _ => rfl) fRX5_73 dX5_broken_55 ?_
  rw [show (u2 I 53 0 1) 53 0 = 1 from (u2_eq _ _ _ _)]
  refine lv_if_ne (tgt := 75) hx hb dX5_broken_58 (by decide) (fun c_58 => ?_) (fun c_58 => absurd c_58 ((show ¬ (1 : Int32) = 0 by decide)))
  exact e_v hx hb hr hlk hst dX5_broken_75

set_option maxHeartbeats 4000000 in
set_option maxRecDepth 100000 in
theorem x2_X5_broken {l : Launch} {D : va_G} {cy ad : Nat → Nat} {I : Im} {G : Dm} {J : Jm} (hadI : adI ad) {n k : Nat} (hn : I 53 2 = nI n) (hk : k < n) (hn2 : n ≤ 32) {x X : UInt64} (hxX : cn x = X) (hin : mBt X 0 4652007308841189376 = false) : kM l yX5_broken (.code yX5_broken cX5_broken 4 none) (rmK 1 0 0 25) D cy ad [.ref (ad 53), .int (nI k), .double x] I G J (qV D cy ad (u2 I 53 0 2) G J) := by
  refine start_M hadI (by decide +kernel) (Nat.le_of_ble_eq_true rfl) ?_
  intro p e s m below meth cd am hx hb hr hlk hst ls hl
  have hl : lv_has ls 4 [(0, .ref (ad 53)), (1, .int (nI k)), (2, .double x)] := hl
  refine lv_aload_n hx hb dX5_broken_0 rfl (lv_at hl 0 rfl) ?_
  refine lv_aload_n hx hb dX5_broken_1 rfl (lv_at hl 0 rfl) ?_
  refine lv_iload_n hx hb dX5_broken_2 rfl (lv_at hl 1 rfl) ?_
  refine c_i hst (r_V (As := [.int (nI k)]) (rest := [.ref (ad 53)]) am hst hl (k_X5_noBoard hadI hn hk hn2) kRX5_79 imX5_noBoard slX5_noBoard ⟨Nat.le_of_ble_eq_true rfl, Nat.le_of_ble_eq_true rfl⟩ (by decide) (fun _ _ _ => cE_M) rfl rfl rfl (Nat.le_of_ble_eq_true rfl) dX5_broken_3 ⟨Nat.le_of_ble_eq_true rfl, Nat.le_of_ble_eq_true rfl⟩) (fun H locs hst => ?_)
  refine lv_if_eq (tgt := 13) hx hb dX5_broken_6 (by decide) (fun c_6 => ?_) (fun c_6 => absurd ((show (0 : Int32) = 0 by decide)) c_6)
  refine lv_dload_n hx hb dX5_broken_13 rfl (lv_at hl 2 rfl) ?_
  refine lv_dconst0 hx hb dX5_broken_14 ?_
  refine lv_ldc2d hx hb am.2.2.2.1 (amT am _ wRX5_83) dX5_broken_15 ?_
  refine c_i hst (r_S (As := [.double x, .double FP.dconst0, .double 4652007308841189376]) (rest := [.ref (ad 53)]) am hst hl (k_X5_between hadI hxX cn_k0 cn_k4652007308841189376) kRX5_85 smX5_between ⟨Nat.le_of_ble_eq_true rfl, Nat.le_of_ble_eq_true rfl⟩ rfl rfl (Nat.le_of_ble_eq_true rfl) dX5_broken_18 ⟨Nat.le_of_ble_eq_true rfl, Nat.le_of_ble_eq_true rfl⟩) (fun H locs hst => ?_)
  refine lv_if_ne (tgt := 28) hx hb dX5_broken_21 (by decide) (fun c_21 => absurd (zB_0.mpr hin) c_21) (fun c_21 => ?_)
  refine lv_iconst (v := 2) hx hb dX5_broken_24 (by decide) ?_
  refine lv_goto (tgt := 51) hx hb dX5_broken_25 (by decide) ?_
  refine w_putI am hst (k := 0) (by decide) (fun _ _ _ => cE_M) rfl inT5 tyX5 tyX5_ok nmX5 (by decide) fRX5_73 (fun _ _ _ => rfl) (fun _ _ _ => Nat.le_of_ble_eq_true rfl) rfl rfl rfl rfl dX5_broken_51 (fun H locs hst => ?_)
  refine lv_aload_n hx hb dX5_broken_54 rfl (lv_at hl 0 rfl) ?_
  refine w_getI am hst (k := 0) (by decide) (fun _ _ _ => cE_M) rfl inT5 (by decide) (fun _ _ _ => rfl) fRX5_73 dX5_broken_55 ?_
  rw [show (u2 I 53 0 2) 53 0 = 2 from (u2_eq _ _ _ _)]
  refine lv_if_ne (tgt := 75) hx hb dX5_broken_58 (by decide) (fun c_58 => ?_) (fun c_58 => absurd c_58 ((show ¬ (2 : Int32) = 0 by decide)))
  exact e_v hx hb hr hlk hst dX5_broken_75

set_option maxHeartbeats 4000000 in
set_option maxRecDepth 100000 in
theorem x3_X5_broken {l : Launch} {D : va_G} {cy ad : Nat → Nat} {I : Im} {G : Dm} {J : Jm} (hadI : adI ad) {n k : Nat} (hn : I 53 2 = nI n) (hk : k < n) (hn2 : n ≤ 32) {x X : UInt64} (hxX : cn x = X) (hin : mBt X 0 4652007308841189376 = true) (hv : ¬ I 59 k = 0 ∨ ¬ I 60 k = 0) : kM l yX5_broken (.code yX5_broken cX5_broken 4 none) (rmK 1 0 0 25) D cy ad [.ref (ad 53), .int (nI k), .double x] I G J (qV D cy ad (u2 I 53 0 3) G J) := by
  refine start_M hadI (by decide +kernel) (Nat.le_of_ble_eq_true rfl) ?_
  intro p e s m below meth cd am hx hb hr hlk hst ls hl
  have hl : lv_has ls 4 [(0, .ref (ad 53)), (1, .int (nI k)), (2, .double x)] := hl
  refine lv_aload_n hx hb dX5_broken_0 rfl (lv_at hl 0 rfl) ?_
  refine lv_aload_n hx hb dX5_broken_1 rfl (lv_at hl 0 rfl) ?_
  refine lv_iload_n hx hb dX5_broken_2 rfl (lv_at hl 1 rfl) ?_
  refine c_i hst (r_V (As := [.int (nI k)]) (rest := [.ref (ad 53)]) am hst hl (k_X5_noBoard hadI hn hk hn2) kRX5_79 imX5_noBoard slX5_noBoard ⟨Nat.le_of_ble_eq_true rfl, Nat.le_of_ble_eq_true rfl⟩ (by decide) (fun _ _ _ => cE_M) rfl rfl rfl (Nat.le_of_ble_eq_true rfl) dX5_broken_3 ⟨Nat.le_of_ble_eq_true rfl, Nat.le_of_ble_eq_true rfl⟩) (fun H locs hst => ?_)
  refine lv_if_eq (tgt := 13) hx hb dX5_broken_6 (by decide) (fun c_6 => ?_) (fun c_6 => absurd ((show (0 : Int32) = 0 by decide)) c_6)
  refine lv_dload_n hx hb dX5_broken_13 rfl (lv_at hl 2 rfl) ?_
  refine lv_dconst0 hx hb dX5_broken_14 ?_
  refine lv_ldc2d hx hb am.2.2.2.1 (amT am _ wRX5_83) dX5_broken_15 ?_
  refine c_i hst (r_S (As := [.double x, .double FP.dconst0, .double 4652007308841189376]) (rest := [.ref (ad 53)]) am hst hl (k_X5_between hadI hxX cn_k0 cn_k4652007308841189376) kRX5_85 smX5_between ⟨Nat.le_of_ble_eq_true rfl, Nat.le_of_ble_eq_true rfl⟩ rfl rfl (Nat.le_of_ble_eq_true rfl) dX5_broken_18 ⟨Nat.le_of_ble_eq_true rfl, Nat.le_of_ble_eq_true rfl⟩) (fun H locs hst => ?_)
  refine lv_if_ne (tgt := 28) hx hb dX5_broken_21 (by decide) (fun c_21 => ?_) (fun c_21 => absurd c_21 (zB_n0.mpr hin))
  refine lv_aload_n hx hb dX5_broken_28 rfl (lv_at hl 0 rfl) ?_
  refine w_getR am hst (k := 8) (b := ad 59) (by decide) (fun _ _ _ => cE_M) rfl inT5 (by decide) (fun _ _ _ => rfl) fRX5_26 dX5_broken_29 ?_
  refine lv_iload_n hx hb dX5_broken_32 rfl (lv_at hl 1 rfl) ?_
  refine w_zald am hst (by decide) (fun _ _ _ => cE_59) (n := k) (nI_clamp (by omega)) (vp_in_nI (by omega) (by decide)) dX5_broken_33 ?_
  refine lv_if_ne (tgt := 46) hx hb dX5_broken_34 (by decide) (fun c_34 => ?_) (fun c_34 => ?_)
  · skip
    refine lv_iconst (v := 3) hx hb dX5_broken_46 (by decide) ?_
    refine lv_goto (tgt := 51) hx hb dX5_broken_47 (by decide) ?_
    refine w_putI am hst (k := 0) (by decide) (fun _ _ _ => cE_M) rfl inT5 tyX5 tyX5_ok nmX5 (by decide) fRX5_73 (fun _ _ _ => rfl) (fun _ _ _ => Nat.le_of_ble_eq_true rfl) rfl rfl rfl rfl dX5_broken_51 (fun H locs hst => ?_)
    refine lv_aload_n hx hb dX5_broken_54 rfl (lv_at hl 0 rfl) ?_
    refine w_getI am hst (k := 0) (by decide) (fun _ _ _ => cE_M) rfl inT5 (by decide) (fun _ _ _ => rfl) fRX5_73 dX5_broken_55 ?_
    rw [show (u2 I 53 0 3) 53 0 = 3 from (u2_eq _ _ _ _)]
    refine lv_if_ne (tgt := 75) hx hb dX5_broken_58 (by decide) (fun c_58 => ?_) (fun c_58 => absurd c_58 ((show ¬ (3 : Int32) = 0 by decide)))
    exact e_v hx hb hr hlk hst dX5_broken_75
  · skip
    refine lv_aload_n hx hb dX5_broken_37 rfl (lv_at hl 0 rfl) ?_
    refine w_getR am hst (k := 9) (b := ad 60) (by decide) (fun _ _ _ => cE_M) rfl inT5 (by decide) (fun _ _ _ => rfl) fRX5_30 dX5_broken_38 ?_
    refine lv_iload_n hx hb dX5_broken_41 rfl (lv_at hl 1 rfl) ?_
    refine w_zald am hst (by decide) (fun _ _ _ => cE_60) (n := k) (nI_clamp (by omega)) (vp_in_nI (by omega) (by decide)) dX5_broken_42 ?_
    refine lv_if_eq (tgt := 50) hx hb dX5_broken_43 (by decide) (fun c_43 => absurd c_43 ((hv.resolve_left (fun h => h c_34)))) (fun c_43 => ?_)
    refine lv_iconst (v := 3) hx hb dX5_broken_46 (by decide) ?_
    refine lv_goto (tgt := 51) hx hb dX5_broken_47 (by decide) ?_
    refine w_putI am hst (k := 0) (by decide) (fun _ _ _ => cE_M) rfl inT5 tyX5 tyX5_ok nmX5 (by decide) fRX5_73 (fun _ _ _ => rfl) (fun _ _ _ => Nat.le_of_ble_eq_true rfl) rfl rfl rfl rfl dX5_broken_51 (fun H locs hst => ?_)
    refine lv_aload_n hx hb dX5_broken_54 rfl (lv_at hl 0 rfl) ?_
    refine w_getI am hst (k := 0) (by decide) (fun _ _ _ => cE_M) rfl inT5 (by decide) (fun _ _ _ => rfl) fRX5_73 dX5_broken_55 ?_
    rw [show (u2 I 53 0 3) 53 0 = 3 from (u2_eq _ _ _ _)]
    refine lv_if_ne (tgt := 75) hx hb dX5_broken_58 (by decide) (fun c_58 => ?_) (fun c_58 => absurd c_58 ((show ¬ (3 : Int32) = 0 by decide)))
    exact e_v hx hb hr hlk hst dX5_broken_75

set_option maxHeartbeats 4000000 in
set_option maxRecDepth 100000 in
theorem k_X5_number {l : Launch} {D : va_G} {cy ad : Nat → Nat} {I : Im} {G : Dm} {J : Jm} (hadI : adI ad) {k : Nat} (hk : k < 3) : kM l yX5_number (.code yX5_number cX5_number 2 (some .double)) (rmK 0 0 0 0) D cy ad [.ref (ad 53), .int (nI k)] I G J (qD D cy ad (G 64 k) (u2 I 53 0 0) G J) := by
  refine start_M hadI (by decide +kernel) (Nat.le_of_ble_eq_true rfl) ?_
  intro p e s m below meth cd am hx hb hr hlk hst ls hl
  have hl : lv_has ls 2 [(0, .ref (ad 53)), (1, .int (nI k))] := hl
  refine lv_aload_n hx hb dX5_number_0 rfl (lv_at hl 0 rfl) ?_
  refine lv_iload_n hx hb dX5_number_1 rfl (lv_at hl 1 rfl) ?_
  refine lv_if_lt (tgt := 10) hx hb dX5_number_2 (by decide) (fun c_2 => absurd c_2 (nI_pos (by omega))) (fun c_2 => ?_)
  refine lv_iload_n hx hb dX5_number_5 rfl (lv_at hl 1 rfl) ?_
  refine lv_iconst (v := 2) hx hb dX5_number_6 (by decide) ?_
  refine lv_icmp_le (tgt := 14) hx hb dX5_number_7 (by decide) (fun c_7 => ?_) (fun c_7 => absurd (nI_le (b := 2) (by omega) (by omega)) c_7)
  refine lv_iconst (v := 0) hx hb dX5_number_14 (by decide) ?_
  refine w_putI am hst (k := 0) (by decide) (fun _ _ _ => cE_M) rfl inT5 tyX5 tyX5_ok nmX5 (by decide) fRX5_73 (fun _ _ _ => rfl) (fun _ _ _ => Nat.le_of_ble_eq_true rfl) rfl rfl rfl rfl dX5_number_15 (fun H locs hst => ?_)
  refine lv_aload_n hx hb dX5_number_18 rfl (lv_at hl 0 rfl) ?_
  refine w_getI am hst (k := 0) (by decide) (fun _ _ _ => cE_M) rfl inT5 (by decide) (fun _ _ _ => rfl) fRX5_73 dX5_number_19 ?_
  rw [show (u2 I 53 0 0) 53 0 = 0 from (u2_eq _ _ _ _)]
  refine lv_if_le (tgt := 29) hx hb dX5_number_22 (by decide) (fun c_22 => ?_) (fun c_22 => absurd ((show (0 : Int32) ≤ 0 by decide)) c_22)
  refine lv_aload_n hx hb dX5_number_29 rfl (lv_at hl 0 rfl) ?_
  refine w_getR am hst (k := 13) (b := ad 64) (by decide) (fun _ _ _ => cE_M) rfl inT5 (by decide) (fun _ _ _ => rfl) fRX5_42 dX5_number_30 ?_
  refine lv_iload_n hx hb dX5_number_33 rfl (lv_at hl 1 rfl) ?_
  refine w_dald am hst (by decide) (fun _ _ _ => cE_64) (n := k) (nI_clamp (by omega)) (vp_in_nI (by omega) (by decide)) dX5_number_34 (fun x1 hx1 => ?_)
  exact e_d hx hb hr hlk hst hx1 dX5_number_35

set_option maxHeartbeats 4000000 in
set_option maxRecDepth 100000 in
theorem x_X5_number {l : Launch} {D : va_G} {cy ad : Nat → Nat} {I : Im} {G : Dm} {J : Jm} (hadI : adI ad) {v : Int32} (hv : v < 0 ∨ ¬ v ≤ 2) : kM l yX5_number (.code yX5_number cX5_number 2 (some .double)) (rmK 0 0 0 0) D cy ad [.ref (ad 53), .int v] I G J (qD D cy ad 0 (u2 I 53 0 1) G J) := by
  refine start_M hadI (by decide +kernel) (Nat.le_of_ble_eq_true rfl) ?_
  intro p e s m below meth cd am hx hb hr hlk hst ls hl
  have hl : lv_has ls 2 [(0, .ref (ad 53)), (1, .int v)] := hl
  refine lv_aload_n hx hb dX5_number_0 rfl (lv_at hl 0 rfl) ?_
  refine lv_iload_n hx hb dX5_number_1 rfl (lv_at hl 1 rfl) ?_
  refine lv_if_lt (tgt := 10) hx hb dX5_number_2 (by decide) (fun c_2 => ?_) (fun c_2 => ?_)
  · skip
    refine lv_iconst (v := 1) hx hb dX5_number_10 (by decide) ?_
    refine lv_goto (tgt := 15) hx hb dX5_number_11 (by decide) ?_
    refine w_putI am hst (k := 0) (by decide) (fun _ _ _ => cE_M) rfl inT5 tyX5 tyX5_ok nmX5 (by decide) fRX5_73 (fun _ _ _ => rfl) (fun _ _ _ => Nat.le_of_ble_eq_true rfl) rfl rfl rfl rfl dX5_number_15 (fun H locs hst => ?_)
    refine lv_aload_n hx hb dX5_number_18 rfl (lv_at hl 0 rfl) ?_
    refine w_getI am hst (k := 0) (by decide) (fun _ _ _ => cE_M) rfl inT5 (by decide) (fun _ _ _ => rfl) fRX5_73 dX5_number_19 ?_
    rw [show (u2 I 53 0 1) 53 0 = 1 from (u2_eq _ _ _ _)]
    refine lv_if_le (tgt := 29) hx hb dX5_number_22 (by decide) (fun c_22 => absurd c_22 ((show ¬ (1 : Int32) ≤ 0 by decide))) (fun c_22 => ?_)
    refine lv_dconst0 hx hb dX5_number_25 ?_
    refine lv_goto (tgt := 35) hx hb dX5_number_26 (by decide) ?_
    exact e_d hx hb hr hlk hst cn_k0 dX5_number_35
  · skip
    refine lv_iload_n hx hb dX5_number_5 rfl (lv_at hl 1 rfl) ?_
    refine lv_iconst (v := 2) hx hb dX5_number_6 (by decide) ?_
    refine lv_icmp_le (tgt := 14) hx hb dX5_number_7 (by decide) (fun c_7 => absurd c_7 (hv.resolve_left c_2)) (fun c_7 => ?_)
    refine lv_iconst (v := 1) hx hb dX5_number_10 (by decide) ?_
    refine lv_goto (tgt := 15) hx hb dX5_number_11 (by decide) ?_
    refine w_putI am hst (k := 0) (by decide) (fun _ _ _ => cE_M) rfl inT5 tyX5 tyX5_ok nmX5 (by decide) fRX5_73 (fun _ _ _ => rfl) (fun _ _ _ => Nat.le_of_ble_eq_true rfl) rfl rfl rfl rfl dX5_number_15 (fun H locs hst => ?_)
    refine lv_aload_n hx hb dX5_number_18 rfl (lv_at hl 0 rfl) ?_
    refine w_getI am hst (k := 0) (by decide) (fun _ _ _ => cE_M) rfl inT5 (by decide) (fun _ _ _ => rfl) fRX5_73 dX5_number_19 ?_
    rw [show (u2 I 53 0 1) 53 0 = 1 from (u2_eq _ _ _ _)]
    refine lv_if_le (tgt := 29) hx hb dX5_number_22 (by decide) (fun c_22 => absurd c_22 ((show ¬ (1 : Int32) ≤ 0 by decide))) (fun c_22 => ?_)
    refine lv_dconst0 hx hb dX5_number_25 ?_
    refine lv_goto (tgt := 35) hx hb dX5_number_26 (by decide) ?_
    exact e_d hx hb hr hlk hst cn_k0 dX5_number_35

set_option maxHeartbeats 4000000 in
set_option maxRecDepth 100000 in
theorem k_X5_foretold {l : Launch} {D : va_G} {cy ad : Nat → Nat} {I : Im} {G : Dm} {J : Jm} (hadI : adI ad) {n k : Nat} (hn : I 53 2 = nI n) (hk : k < n) (hn2 : n ≤ 32) (hm : mOK I) (hcp : mCompl I G k = true) : kD l yX5_foretold (.code yX5_foretold cX5_foretold 2 (some .double)) (rmK 2 0 0 52) D cy ad [.ref (ad 53), .int (nI k)] I G J (qD D cy ad (mTold (u2 I 53 0 0) G k (G 64 0) (G 64 1) (G 64 2)) (u2 I 53 0 0) G J) := by
  refine start_D hadI (by decide +kernel) (Nat.le_of_ble_eq_true rfl) ?_
  intro p e s m below meth cd am hx hb hr hlk hst ls hl d0 hd
  have hl : lv_has ls 2 [(0, .ref (ad 53)), (1, .int (nI k))] := hl
  refine lv_aload_n hx hb dX5_foretold_0 rfl (lv_at hl 0 rfl) ?_
  refine lv_aload_n hx hb dX5_foretold_1 rfl (lv_at hl 0 rfl) ?_
  refine lv_iload_n hx hb dX5_foretold_2 rfl (lv_at hl 1 rfl) ?_
  refine c_i hst (r_V (As := [.int (nI k)]) (rest := [.ref (ad 53)]) am hst hl (k_X5_noBoard hadI hn hk hn2) kRX5_79 imX5_noBoard slX5_noBoard ⟨Nat.le_of_ble_eq_true rfl, Nat.le_of_ble_eq_true rfl⟩ (by decide) (fun _ _ _ => cE_M) rfl rfl rfl (Nat.le_of_ble_eq_true rfl) dX5_foretold_3 ⟨Nat.le_of_ble_eq_true rfl, Nat.le_of_ble_eq_true rfl⟩) (fun H locs hst => ?_)
  refine lv_if_eq (tgt := 13) hx hb dX5_foretold_6 (by decide) (fun c_6 => ?_) (fun c_6 => absurd ((show (0 : Int32) = 0 by decide)) c_6)
  refine lv_aload_n hx hb dX5_foretold_13 rfl (lv_at hl 0 rfl) ?_
  refine lv_iload_n hx hb dX5_foretold_14 rfl (lv_at hl 1 rfl) ?_
  refine c_i hst (r_V (As := [.int (nI k)]) (rest := [.ref (ad 53)]) am hst hl (k_X5_isComplete hadI (k := k) (by omega)) kRX5_99 imX5_isComplete slX5_isComplete ⟨Nat.le_of_ble_eq_true rfl, Nat.le_of_ble_eq_true rfl⟩ (by decide) (fun _ _ _ => cE_M) rfl rfl rfl (Nat.le_of_ble_eq_true rfl) dX5_foretold_15 ⟨Nat.le_of_ble_eq_true rfl, Nat.le_of_ble_eq_true rfl⟩) (fun H locs hst => ?_)
  refine lv_if_eq (tgt := 25) hx hb dX5_foretold_18 (by decide) (fun c_18 => absurd c_18 (zB_n0.mpr hcp)) (fun c_18 => ?_)
  refine lv_iconst (v := 0) hx hb dX5_foretold_21 (by decide) ?_
  refine lv_goto (tgt := 26) hx hb dX5_foretold_22 (by decide) ?_
  refine w_putI am hst (k := 0) (by decide) (fun _ _ _ => cE_M) rfl inT5 tyX5 tyX5_ok nmX5 (by decide) fRX5_73 (fun _ _ _ => rfl) (fun _ _ _ => Nat.le_of_ble_eq_true rfl) rfl rfl rfl rfl dX5_foretold_26 (fun H locs hst => ?_)
  refine lv_aload_n hx hb dX5_foretold_29 rfl (lv_at hl 0 rfl) ?_
  refine w_getI am hst (k := 0) (by decide) (fun _ _ _ => cE_M) rfl inT5 (by decide) (fun _ _ _ => rfl) fRX5_73 dX5_foretold_30 ?_
  rw [show (u2 I 53 0 0) 53 0 = 0 from (u2_eq _ _ _ _)]
  refine lv_if_le (tgt := 40) hx hb dX5_foretold_33 (by decide) (fun c_33 => ?_) (fun c_33 => absurd ((show (0 : Int32) ≤ 0 by decide)) c_33)
  refine lv_aload_n hx hb dX5_foretold_40 rfl (lv_at hl 0 rfl) ?_
  refine lv_iload_n hx hb dX5_foretold_41 rfl (lv_at hl 1 rfl) ?_
  refine lv_aload_n hx hb dX5_foretold_42 rfl (lv_at hl 0 rfl) ?_
  refine w_getR am hst (k := 13) (b := ad 64) (by decide) (fun _ _ _ => cE_M) rfl inT5 (by decide) (fun _ _ _ => rfl) fRX5_42 dX5_foretold_43 ?_
  refine lv_iconst (v := 0) hx hb dX5_foretold_46 (by decide) ?_
  refine w_dald am hst (by decide) (fun _ _ _ => cE_64) (n := 0) rfl (vinL (by decide)) dX5_foretold_47 (fun x1 hx1 => ?_)
  refine lv_aload_n hx hb dX5_foretold_48 rfl (lv_at hl 0 rfl) ?_
  refine w_getR am hst (k := 13) (b := ad 64) (by decide) (fun _ _ _ => cE_M) rfl inT5 (by decide) (fun _ _ _ => rfl) fRX5_42 dX5_foretold_49 ?_
  refine lv_iconst (v := 1) hx hb dX5_foretold_52 (by decide) ?_
  refine w_dald am hst (by decide) (fun _ _ _ => cE_64) (n := 1) rfl (vinL (by decide)) dX5_foretold_53 (fun x2 hx2 => ?_)
  refine lv_aload_n hx hb dX5_foretold_54 rfl (lv_at hl 0 rfl) ?_
  refine w_getR am hst (k := 13) (b := ad 64) (by decide) (fun _ _ _ => cE_M) rfl inT5 (by decide) (fun _ _ _ => rfl) fRX5_42 dX5_foretold_55 ?_
  refine lv_iconst (v := 2) hx hb dX5_foretold_58 (by decide) ?_
  refine w_dald am hst (by decide) (fun _ _ _ => cE_64) (n := 2) rfl (vinL (by decide)) dX5_foretold_59 (fun x3 hx3 => ?_)
  refine c_dD hd hst (r_VD (As := [.int (nI k), .double x1, .double x2, .double x3]) (rest := []) am hst hl (k_X5_told hadI (b := k) (mOK_u hm (by decide)) (by omega) hx1 hx2 hx3) kRX5_112 imX5_told slX5_told ⟨Nat.le_of_ble_eq_true rfl, Nat.le_of_ble_eq_true rfl⟩ (by decide) (fun _ _ _ => cE_M) rfl rfl rfl (Nat.le_of_ble_eq_true rfl) dX5_foretold_60 ⟨Nat.le_of_ble_eq_true rfl, Nat.le_of_ble_eq_true rfl⟩) (fun x4 d0 H locs hx4 hd hst => ?_)
  exact e_dD hd hx hb hr hlk hst hx4 dX5_foretold_63

set_option maxHeartbeats 4000000 in
set_option maxRecDepth 100000 in
theorem x1_X5_foretold {l : Launch} {D : va_G} {cy ad : Nat → Nat} {I : Im} {G : Dm} {J : Jm} (hadI : adI ad) {v : Int32} (hv : v < 0 ∨ ¬ v < I 53 2) : kM l yX5_foretold (.code yX5_foretold cX5_foretold 2 (some .double)) (rmK 2 0 0 52) D cy ad [.ref (ad 53), .int v] I G J (qD D cy ad 0 (u2 I 53 0 1) G J) := by
  refine start_M hadI (by decide +kernel) (Nat.le_of_ble_eq_true rfl) ?_
  intro p e s m below meth cd am hx hb hr hlk hst ls hl
  have hl : lv_has ls 2 [(0, .ref (ad 53)), (1, .int v)] := hl
  refine lv_aload_n hx hb dX5_foretold_0 rfl (lv_at hl 0 rfl) ?_
  refine lv_aload_n hx hb dX5_foretold_1 rfl (lv_at hl 0 rfl) ?_
  refine lv_iload_n hx hb dX5_foretold_2 rfl (lv_at hl 1 rfl) ?_
  refine c_i hst (r_V (As := [.int v]) (rest := [.ref (ad 53)]) am hst hl (x_X5_noBoard hadI hv) kRX5_79 imX5_noBoard slX5_noBoard ⟨Nat.le_of_ble_eq_true rfl, Nat.le_of_ble_eq_true rfl⟩ (by decide) (fun _ _ _ => cE_M) rfl rfl rfl (Nat.le_of_ble_eq_true rfl) dX5_foretold_3 ⟨Nat.le_of_ble_eq_true rfl, Nat.le_of_ble_eq_true rfl⟩) (fun H locs hst => ?_)
  refine lv_if_eq (tgt := 13) hx hb dX5_foretold_6 (by decide) (fun c_6 => absurd c_6 ((show ¬ (1 : Int32) = 0 by decide))) (fun c_6 => ?_)
  refine lv_iconst (v := 1) hx hb dX5_foretold_9 (by decide) ?_
  refine lv_goto (tgt := 26) hx hb dX5_foretold_10 (by decide) ?_
  refine w_putI am hst (k := 0) (by decide) (fun _ _ _ => cE_M) rfl inT5 tyX5 tyX5_ok nmX5 (by decide) fRX5_73 (fun _ _ _ => rfl) (fun _ _ _ => Nat.le_of_ble_eq_true rfl) rfl rfl rfl rfl dX5_foretold_26 (fun H locs hst => ?_)
  refine lv_aload_n hx hb dX5_foretold_29 rfl (lv_at hl 0 rfl) ?_
  refine w_getI am hst (k := 0) (by decide) (fun _ _ _ => cE_M) rfl inT5 (by decide) (fun _ _ _ => rfl) fRX5_73 dX5_foretold_30 ?_
  rw [show (u2 I 53 0 1) 53 0 = 1 from (u2_eq _ _ _ _)]
  refine lv_if_le (tgt := 40) hx hb dX5_foretold_33 (by decide) (fun c_33 => absurd c_33 ((show ¬ (1 : Int32) ≤ 0 by decide))) (fun c_33 => ?_)
  refine lv_dconst0 hx hb dX5_foretold_36 ?_
  refine lv_goto (tgt := 63) hx hb dX5_foretold_37 (by decide) ?_
  exact e_d hx hb hr hlk hst cn_k0 dX5_foretold_63

set_option maxHeartbeats 4000000 in
set_option maxRecDepth 100000 in
theorem x2_X5_foretold {l : Launch} {D : va_G} {cy ad : Nat → Nat} {I : Im} {G : Dm} {J : Jm} (hadI : adI ad) {n k : Nat} (hn : I 53 2 = nI n) (hk : k < n) (hn2 : n ≤ 32) (hcp : mCompl I G k = false) : kM l yX5_foretold (.code yX5_foretold cX5_foretold 2 (some .double)) (rmK 2 0 0 52) D cy ad [.ref (ad 53), .int (nI k)] I G J (qD D cy ad 0 (u2 I 53 0 2) G J) := by
  refine start_M hadI (by decide +kernel) (Nat.le_of_ble_eq_true rfl) ?_
  intro p e s m below meth cd am hx hb hr hlk hst ls hl
  have hl : lv_has ls 2 [(0, .ref (ad 53)), (1, .int (nI k))] := hl
  refine lv_aload_n hx hb dX5_foretold_0 rfl (lv_at hl 0 rfl) ?_
  refine lv_aload_n hx hb dX5_foretold_1 rfl (lv_at hl 0 rfl) ?_
  refine lv_iload_n hx hb dX5_foretold_2 rfl (lv_at hl 1 rfl) ?_
  refine c_i hst (r_V (As := [.int (nI k)]) (rest := [.ref (ad 53)]) am hst hl (k_X5_noBoard hadI hn hk hn2) kRX5_79 imX5_noBoard slX5_noBoard ⟨Nat.le_of_ble_eq_true rfl, Nat.le_of_ble_eq_true rfl⟩ (by decide) (fun _ _ _ => cE_M) rfl rfl rfl (Nat.le_of_ble_eq_true rfl) dX5_foretold_3 ⟨Nat.le_of_ble_eq_true rfl, Nat.le_of_ble_eq_true rfl⟩) (fun H locs hst => ?_)
  refine lv_if_eq (tgt := 13) hx hb dX5_foretold_6 (by decide) (fun c_6 => ?_) (fun c_6 => absurd ((show (0 : Int32) = 0 by decide)) c_6)
  refine lv_aload_n hx hb dX5_foretold_13 rfl (lv_at hl 0 rfl) ?_
  refine lv_iload_n hx hb dX5_foretold_14 rfl (lv_at hl 1 rfl) ?_
  refine c_i hst (r_V (As := [.int (nI k)]) (rest := [.ref (ad 53)]) am hst hl (k_X5_isComplete hadI (k := k) (by omega)) kRX5_99 imX5_isComplete slX5_isComplete ⟨Nat.le_of_ble_eq_true rfl, Nat.le_of_ble_eq_true rfl⟩ (by decide) (fun _ _ _ => cE_M) rfl rfl rfl (Nat.le_of_ble_eq_true rfl) dX5_foretold_15 ⟨Nat.le_of_ble_eq_true rfl, Nat.le_of_ble_eq_true rfl⟩) (fun H locs hst => ?_)
  refine lv_if_eq (tgt := 25) hx hb dX5_foretold_18 (by decide) (fun c_18 => ?_) (fun c_18 => absurd (zB_0.mpr hcp) c_18)
  refine lv_iconst (v := 2) hx hb dX5_foretold_25 (by decide) ?_
  refine w_putI am hst (k := 0) (by decide) (fun _ _ _ => cE_M) rfl inT5 tyX5 tyX5_ok nmX5 (by decide) fRX5_73 (fun _ _ _ => rfl) (fun _ _ _ => Nat.le_of_ble_eq_true rfl) rfl rfl rfl rfl dX5_foretold_26 (fun H locs hst => ?_)
  refine lv_aload_n hx hb dX5_foretold_29 rfl (lv_at hl 0 rfl) ?_
  refine w_getI am hst (k := 0) (by decide) (fun _ _ _ => cE_M) rfl inT5 (by decide) (fun _ _ _ => rfl) fRX5_73 dX5_foretold_30 ?_
  rw [show (u2 I 53 0 2) 53 0 = 2 from (u2_eq _ _ _ _)]
  refine lv_if_le (tgt := 40) hx hb dX5_foretold_33 (by decide) (fun c_33 => absurd c_33 ((show ¬ (2 : Int32) ≤ 0 by decide))) (fun c_33 => ?_)
  refine lv_dconst0 hx hb dX5_foretold_36 ?_
  refine lv_goto (tgt := 63) hx hb dX5_foretold_37 (by decide) ?_
  exact e_d hx hb hr hlk hst cn_k0 dX5_foretold_63

theorem mOK_sl {I : Im} {w : Int32} {G : Dm} {n : Nat} (h : mOK I) : mOK (slI I w G n) := by
  have : ∀ c, mOK (meI I (mb0 I w G n) c) := by
    intro c
    induction c with
    | zero => exact h
    | succ c ih => exact mOK_u ih (by decide)
  exact this 3
set_option maxHeartbeats 4000000 in
set_option maxRecDepth 100000 in
theorem k_X5_leftOut {l : Launch} {D : va_G} {cy ad : Nat → Nat} {I : Im} {G : Dm} {J : Jm} (hadI : adI ad) {n k : Nat} (hn : I 53 2 = nI n) (hk : k < n) (hn2 : n ≤ 32) (hm : mOK I) (hcp : mCompl I G k = true) : kD l yX5_leftOut (.code yX5_leftOut cX5_leftOut 3 (some .double)) (rmK 3 0 0 77) D cy ad [.ref (ad 53), .int (nI k)] I G J (qD D cy ad (mTold (slI (u2 I 53 0 0) (nI k) G n) (slG (u2 I 53 0 0) (nI k) G n) k ((slG (u2 I 53 0 0) (nI k) G n) 65 0) ((slG (u2 I 53 0 0) (nI k) G n) 65 1) ((slG (u2 I 53 0 0) (nI k) G n) 65 2)) (slI (u2 I 53 0 0) (nI k) G n) (slG (u2 I 53 0 0) (nI k) G n) J) := by
  refine start_D hadI (by decide +kernel) (Nat.le_of_ble_eq_true rfl) ?_
  intro p e s m below meth cd am hx hb hr hlk hst ls hl d0 hd
  have hl : lv_has ls 3 [(0, .ref (ad 53)), (1, .int (nI k))] := hl
  refine lv_aload_n hx hb dX5_leftOut_0 rfl (lv_at hl 0 rfl) ?_
  refine lv_aload_n hx hb dX5_leftOut_1 rfl (lv_at hl 0 rfl) ?_
  refine lv_iload_n hx hb dX5_leftOut_2 rfl (lv_at hl 1 rfl) ?_
  refine c_i hst (r_V (As := [.int (nI k)]) (rest := [.ref (ad 53)]) am hst hl (k_X5_noBoard hadI hn hk hn2) kRX5_79 imX5_noBoard slX5_noBoard ⟨Nat.le_of_ble_eq_true rfl, Nat.le_of_ble_eq_true rfl⟩ (by decide) (fun _ _ _ => cE_M) rfl rfl rfl (Nat.le_of_ble_eq_true rfl) dX5_leftOut_3 ⟨Nat.le_of_ble_eq_true rfl, Nat.le_of_ble_eq_true rfl⟩) (fun H locs hst => ?_)
  refine lv_if_eq (tgt := 13) hx hb dX5_leftOut_6 (by decide) (fun c_6 => ?_) (fun c_6 => absurd ((show (0 : Int32) = 0 by decide)) c_6)
  refine lv_aload_n hx hb dX5_leftOut_13 rfl (lv_at hl 0 rfl) ?_
  refine lv_iload_n hx hb dX5_leftOut_14 rfl (lv_at hl 1 rfl) ?_
  refine c_i hst (r_V (As := [.int (nI k)]) (rest := [.ref (ad 53)]) am hst hl (k_X5_isComplete hadI (k := k) (by omega)) kRX5_99 imX5_isComplete slX5_isComplete ⟨Nat.le_of_ble_eq_true rfl, Nat.le_of_ble_eq_true rfl⟩ (by decide) (fun _ _ _ => cE_M) rfl rfl rfl (Nat.le_of_ble_eq_true rfl) dX5_leftOut_15 ⟨Nat.le_of_ble_eq_true rfl, Nat.le_of_ble_eq_true rfl⟩) (fun H locs hst => ?_)
  refine lv_if_eq (tgt := 25) hx hb dX5_leftOut_18 (by decide) (fun c_18 => absurd c_18 (zB_n0.mpr hcp)) (fun c_18 => ?_)
  refine lv_iconst (v := 0) hx hb dX5_leftOut_21 (by decide) ?_
  refine lv_goto (tgt := 26) hx hb dX5_leftOut_22 (by decide) ?_
  refine w_putI am hst (k := 0) (by decide) (fun _ _ _ => cE_M) rfl inT5 tyX5 tyX5_ok nmX5 (by decide) fRX5_73 (fun _ _ _ => rfl) (fun _ _ _ => Nat.le_of_ble_eq_true rfl) rfl rfl rfl rfl dX5_leftOut_26 (fun H locs hst => ?_)
  refine lv_aload_n hx hb dX5_leftOut_29 rfl (lv_at hl 0 rfl) ?_
  refine w_getI am hst (k := 0) (by decide) (fun _ _ _ => cE_M) rfl inT5 (by decide) (fun _ _ _ => rfl) fRX5_73 dX5_leftOut_30 ?_
  rw [show (u2 I 53 0 0) 53 0 = 0 from (u2_eq _ _ _ _)]
  refine lv_if_le (tgt := 38) hx hb dX5_leftOut_33 (by decide) (fun c_33 => ?_) (fun c_33 => absurd ((show (0 : Int32) ≤ 0 by decide)) c_33)
  refine lv_aload_n hx hb dX5_leftOut_38 rfl (lv_at hl 0 rfl) ?_
  refine lv_iload_n hx hb dX5_leftOut_39 rfl (lv_at hl 1 rfl) ?_
  refine c_iD hd hst (r_VD (As := [.int (nI k)]) (rest := []) am hst hl (k_X5_solve hadI (n := n) (mOK_u hm (by decide)) ((u2_ne (by omega)).trans hn) hn2) kRX5_108 imX5_solve slX5_solve ⟨Nat.le_of_ble_eq_true rfl, Nat.le_of_ble_eq_true rfl⟩ (by decide) (fun _ _ _ => cE_M) rfl rfl rfl (Nat.le_of_ble_eq_true rfl) dX5_leftOut_40 ⟨Nat.le_of_ble_eq_true rfl, Nat.le_of_ble_eq_true rfl⟩) (fun d0 H locs hd hst => ?_)
  refine lv_istore_n (lv' := [(2, .int (nI (slR (u2 I 53 0 0) (nI k) G n))), (0, .ref (ad 53)), (1, .int (nI k))]) hx hb dX5_leftOut_43 rfl hl (by decide) rfl (fun ls hl => ?_)
  refine lv_aload_n hx hb dX5_leftOut_44 rfl (lv_at hl 1 rfl) ?_
  refine lv_iload_n hx hb dX5_leftOut_45 rfl (lv_at hl 2 rfl) ?_
  refine lv_aload_n hx hb dX5_leftOut_46 rfl (lv_at hl 1 rfl) ?_
  refine w_getR am hst (k := 14) (b := ad 65) (by decide) (fun _ _ _ => cE_M) rfl inT5 (by decide) (fun _ _ _ => rfl) fRX5_45 dX5_leftOut_47 ?_
  refine lv_iconst (v := 0) hx hb dX5_leftOut_50 (by decide) ?_
  refine w_dald am hst (by decide) (fun _ _ _ => cE_65) (n := 0) rfl (vinL (by decide)) dX5_leftOut_51 (fun x1 hx1 => ?_)
  refine lv_aload_n hx hb dX5_leftOut_52 rfl (lv_at hl 1 rfl) ?_
  refine w_getR am hst (k := 14) (b := ad 65) (by decide) (fun _ _ _ => cE_M) rfl inT5 (by decide) (fun _ _ _ => rfl) fRX5_45 dX5_leftOut_53 ?_
  refine lv_iconst (v := 1) hx hb dX5_leftOut_56 (by decide) ?_
  refine w_dald am hst (by decide) (fun _ _ _ => cE_65) (n := 1) rfl (vinL (by decide)) dX5_leftOut_57 (fun x2 hx2 => ?_)
  refine lv_aload_n hx hb dX5_leftOut_58 rfl (lv_at hl 1 rfl) ?_
  refine w_getR am hst (k := 14) (b := ad 65) (by decide) (fun _ _ _ => cE_M) rfl inT5 (by decide) (fun _ _ _ => rfl) fRX5_45 dX5_leftOut_59 ?_
  refine lv_iconst (v := 2) hx hb dX5_leftOut_62 (by decide) ?_
  refine w_dald am hst (by decide) (fun _ _ _ => cE_65) (n := 2) rfl (vinL (by decide)) dX5_leftOut_63 (fun x3 hx3 => ?_)
  refine c_dD hd hst (r_VD (As := [.int (nI k), .double x1, .double x2, .double x3]) (rest := []) am hst hl (k_X5_told hadI (b := k) (mOK_sl (mOK_u hm (by decide))) (by omega) hx1 hx2 hx3) kRX5_112 imX5_told slX5_told ⟨Nat.le_of_ble_eq_true rfl, Nat.le_of_ble_eq_true rfl⟩ (by decide) (fun _ _ _ => cE_M) rfl rfl rfl (Nat.le_of_ble_eq_true rfl) dX5_leftOut_64 ⟨Nat.le_of_ble_eq_true rfl, Nat.le_of_ble_eq_true rfl⟩) (fun x4 d0 H locs hx4 hd hst => ?_)
  exact e_dD hd hx hb hr hlk hst hx4 dX5_leftOut_67

set_option maxHeartbeats 4000000 in
set_option maxRecDepth 100000 in
theorem x1_X5_leftOut {l : Launch} {D : va_G} {cy ad : Nat → Nat} {I : Im} {G : Dm} {J : Jm} (hadI : adI ad) {v : Int32} (hv : v < 0 ∨ ¬ v < I 53 2) : kM l yX5_leftOut (.code yX5_leftOut cX5_leftOut 3 (some .double)) (rmK 3 0 0 77) D cy ad [.ref (ad 53), .int v] I G J (qD D cy ad 0 (u2 I 53 0 1) G J) := by
  refine start_M hadI (by decide +kernel) (Nat.le_of_ble_eq_true rfl) ?_
  intro p e s m below meth cd am hx hb hr hlk hst ls hl
  have hl : lv_has ls 3 [(0, .ref (ad 53)), (1, .int v)] := hl
  refine lv_aload_n hx hb dX5_leftOut_0 rfl (lv_at hl 0 rfl) ?_
  refine lv_aload_n hx hb dX5_leftOut_1 rfl (lv_at hl 0 rfl) ?_
  refine lv_iload_n hx hb dX5_leftOut_2 rfl (lv_at hl 1 rfl) ?_
  refine c_i hst (r_V (As := [.int v]) (rest := [.ref (ad 53)]) am hst hl (x_X5_noBoard hadI hv) kRX5_79 imX5_noBoard slX5_noBoard ⟨Nat.le_of_ble_eq_true rfl, Nat.le_of_ble_eq_true rfl⟩ (by decide) (fun _ _ _ => cE_M) rfl rfl rfl (Nat.le_of_ble_eq_true rfl) dX5_leftOut_3 ⟨Nat.le_of_ble_eq_true rfl, Nat.le_of_ble_eq_true rfl⟩) (fun H locs hst => ?_)
  refine lv_if_eq (tgt := 13) hx hb dX5_leftOut_6 (by decide) (fun c_6 => absurd c_6 ((show ¬ (1 : Int32) = 0 by decide))) (fun c_6 => ?_)
  refine lv_iconst (v := 1) hx hb dX5_leftOut_9 (by decide) ?_
  refine lv_goto (tgt := 26) hx hb dX5_leftOut_10 (by decide) ?_
  refine w_putI am hst (k := 0) (by decide) (fun _ _ _ => cE_M) rfl inT5 tyX5 tyX5_ok nmX5 (by decide) fRX5_73 (fun _ _ _ => rfl) (fun _ _ _ => Nat.le_of_ble_eq_true rfl) rfl rfl rfl rfl dX5_leftOut_26 (fun H locs hst => ?_)
  refine lv_aload_n hx hb dX5_leftOut_29 rfl (lv_at hl 0 rfl) ?_
  refine w_getI am hst (k := 0) (by decide) (fun _ _ _ => cE_M) rfl inT5 (by decide) (fun _ _ _ => rfl) fRX5_73 dX5_leftOut_30 ?_
  rw [show (u2 I 53 0 1) 53 0 = 1 from (u2_eq _ _ _ _)]
  refine lv_if_le (tgt := 38) hx hb dX5_leftOut_33 (by decide) (fun c_33 => absurd c_33 ((show ¬ (1 : Int32) ≤ 0 by decide))) (fun c_33 => ?_)
  refine lv_dconst0 hx hb dX5_leftOut_36 ?_
  exact e_d hx hb hr hlk hst cn_k0 dX5_leftOut_37

set_option maxHeartbeats 4000000 in
set_option maxRecDepth 100000 in
theorem x2_X5_leftOut {l : Launch} {D : va_G} {cy ad : Nat → Nat} {I : Im} {G : Dm} {J : Jm} (hadI : adI ad) {n k : Nat} (hn : I 53 2 = nI n) (hk : k < n) (hn2 : n ≤ 32) (hcp : mCompl I G k = false) : kM l yX5_leftOut (.code yX5_leftOut cX5_leftOut 3 (some .double)) (rmK 3 0 0 77) D cy ad [.ref (ad 53), .int (nI k)] I G J (qD D cy ad 0 (u2 I 53 0 2) G J) := by
  refine start_M hadI (by decide +kernel) (Nat.le_of_ble_eq_true rfl) ?_
  intro p e s m below meth cd am hx hb hr hlk hst ls hl
  have hl : lv_has ls 3 [(0, .ref (ad 53)), (1, .int (nI k))] := hl
  refine lv_aload_n hx hb dX5_leftOut_0 rfl (lv_at hl 0 rfl) ?_
  refine lv_aload_n hx hb dX5_leftOut_1 rfl (lv_at hl 0 rfl) ?_
  refine lv_iload_n hx hb dX5_leftOut_2 rfl (lv_at hl 1 rfl) ?_
  refine c_i hst (r_V (As := [.int (nI k)]) (rest := [.ref (ad 53)]) am hst hl (k_X5_noBoard hadI hn hk hn2) kRX5_79 imX5_noBoard slX5_noBoard ⟨Nat.le_of_ble_eq_true rfl, Nat.le_of_ble_eq_true rfl⟩ (by decide) (fun _ _ _ => cE_M) rfl rfl rfl (Nat.le_of_ble_eq_true rfl) dX5_leftOut_3 ⟨Nat.le_of_ble_eq_true rfl, Nat.le_of_ble_eq_true rfl⟩) (fun H locs hst => ?_)
  refine lv_if_eq (tgt := 13) hx hb dX5_leftOut_6 (by decide) (fun c_6 => ?_) (fun c_6 => absurd ((show (0 : Int32) = 0 by decide)) c_6)
  refine lv_aload_n hx hb dX5_leftOut_13 rfl (lv_at hl 0 rfl) ?_
  refine lv_iload_n hx hb dX5_leftOut_14 rfl (lv_at hl 1 rfl) ?_
  refine c_i hst (r_V (As := [.int (nI k)]) (rest := [.ref (ad 53)]) am hst hl (k_X5_isComplete hadI (k := k) (by omega)) kRX5_99 imX5_isComplete slX5_isComplete ⟨Nat.le_of_ble_eq_true rfl, Nat.le_of_ble_eq_true rfl⟩ (by decide) (fun _ _ _ => cE_M) rfl rfl rfl (Nat.le_of_ble_eq_true rfl) dX5_leftOut_15 ⟨Nat.le_of_ble_eq_true rfl, Nat.le_of_ble_eq_true rfl⟩) (fun H locs hst => ?_)
  refine lv_if_eq (tgt := 25) hx hb dX5_leftOut_18 (by decide) (fun c_18 => ?_) (fun c_18 => absurd (zB_0.mpr hcp) c_18)
  refine lv_iconst (v := 2) hx hb dX5_leftOut_25 (by decide) ?_
  refine w_putI am hst (k := 0) (by decide) (fun _ _ _ => cE_M) rfl inT5 tyX5 tyX5_ok nmX5 (by decide) fRX5_73 (fun _ _ _ => rfl) (fun _ _ _ => Nat.le_of_ble_eq_true rfl) rfl rfl rfl rfl dX5_leftOut_26 (fun H locs hst => ?_)
  refine lv_aload_n hx hb dX5_leftOut_29 rfl (lv_at hl 0 rfl) ?_
  refine w_getI am hst (k := 0) (by decide) (fun _ _ _ => cE_M) rfl inT5 (by decide) (fun _ _ _ => rfl) fRX5_73 dX5_leftOut_30 ?_
  rw [show (u2 I 53 0 2) 53 0 = 2 from (u2_eq _ _ _ _)]
  refine lv_if_le (tgt := 38) hx hb dX5_leftOut_33 (by decide) (fun c_33 => absurd c_33 ((show ¬ (2 : Int32) ≤ 0 by decide))) (fun c_33 => ?_)
  refine lv_dconst0 hx hb dX5_leftOut_36 ?_
  exact e_d hx hb hr hlk hst cn_k0 dX5_leftOut_37

set_option maxHeartbeats 4000000 in
set_option maxRecDepth 100000 in
theorem k_X5_limit {l : Launch} {D : va_G} {cy ad : Nat → Nat} {I : Im} {G : Dm} {J : Jm} (hadI : adI ad) {k : Nat} (hk : k < 4) {x X : UInt64} (hxX : cn x = X) (hin : mBt X 0 4652007308841189376 = true) : kM l yX5_limit (.code yX5_limit cX5_limit 4 none) (rmK 1 0 0 25) D cy ad [.ref (ad 53), .int (nI k), .double x] I G J (qV D cy ad (u2 I 53 0 0) (u2 G 66 k X) J) := by
  refine start_M hadI (by decide +kernel) (Nat.le_of_ble_eq_true rfl) ?_
  intro p e s m below meth cd am hx hb hr hlk hst ls hl
  have hl : lv_has ls 4 [(0, .ref (ad 53)), (1, .int (nI k)), (2, .double x)] := hl
  refine lv_aload_n hx hb dX5_limit_0 rfl (lv_at hl 0 rfl) ?_
  refine lv_iload_n hx hb dX5_limit_1 rfl (lv_at hl 1 rfl) ?_
  refine lv_if_lt (tgt := 10) hx hb dX5_limit_2 (by decide) (fun c_2 => absurd c_2 (nI_pos (by omega))) (fun c_2 => ?_)
  refine lv_iload_n hx hb dX5_limit_5 rfl (lv_at hl 1 rfl) ?_
  refine lv_iconst (v := 3) hx hb dX5_limit_6 (by decide) ?_
  refine lv_icmp_le (tgt := 14) hx hb dX5_limit_7 (by decide) (fun c_7 => ?_) (fun c_7 => absurd (nI_le (b := 3) (by omega) (by omega)) c_7)
  refine lv_dload_n hx hb dX5_limit_14 rfl (lv_at hl 2 rfl) ?_
  refine lv_dconst0 hx hb dX5_limit_15 ?_
  refine lv_ldc2d hx hb am.2.2.2.1 (amT am _ wRX5_83) dX5_limit_16 ?_
  refine c_i hst (r_S (As := [.double x, .double FP.dconst0, .double 4652007308841189376]) (rest := [.ref (ad 53)]) am hst hl (k_X5_between hadI hxX cn_k0 cn_k4652007308841189376) kRX5_85 smX5_between ⟨Nat.le_of_ble_eq_true rfl, Nat.le_of_ble_eq_true rfl⟩ rfl rfl (Nat.le_of_ble_eq_true rfl) dX5_limit_19 ⟨Nat.le_of_ble_eq_true rfl, Nat.le_of_ble_eq_true rfl⟩) (fun H locs hst => ?_)
  refine lv_if_eq (tgt := 29) hx hb dX5_limit_22 (by decide) (fun c_22 => absurd c_22 (zB_n0.mpr hin)) (fun c_22 => ?_)
  refine lv_iconst (v := 0) hx hb dX5_limit_25 (by decide) ?_
  refine lv_goto (tgt := 30) hx hb dX5_limit_26 (by decide) ?_
  refine w_putI am hst (k := 0) (by decide) (fun _ _ _ => cE_M) rfl inT5 tyX5 tyX5_ok nmX5 (by decide) fRX5_73 (fun _ _ _ => rfl) (fun _ _ _ => Nat.le_of_ble_eq_true rfl) rfl rfl rfl rfl dX5_limit_30 (fun H locs hst => ?_)
  refine lv_aload_n hx hb dX5_limit_33 rfl (lv_at hl 0 rfl) ?_
  refine w_getI am hst (k := 0) (by decide) (fun _ _ _ => cE_M) rfl inT5 (by decide) (fun _ _ _ => rfl) fRX5_73 dX5_limit_34 ?_
  rw [show (u2 I 53 0 0) 53 0 = 0 from (u2_eq _ _ _ _)]
  refine lv_if_ne (tgt := 47) hx hb dX5_limit_37 (by decide) (fun c_37 => absurd ((show (0 : Int32) = 0 by decide)) c_37) (fun c_37 => ?_)
  refine lv_aload_n hx hb dX5_limit_40 rfl (lv_at hl 0 rfl) ?_
  refine w_getR am hst (k := 15) (b := ad 66) (by decide) (fun _ _ _ => cE_M) rfl inT5 (by decide) (fun _ _ _ => rfl) fRX5_50 dX5_limit_41 ?_
  refine lv_iload_n hx hb dX5_limit_44 rfl (lv_at hl 1 rfl) ?_
  refine lv_dload_n hx hb dX5_limit_45 rfl (lv_at hl 2 rfl) ?_
  refine w_dast am hst hxX (by decide) (fun _ _ _ => cE_66) (n := k) (nI_clamp (by omega)) (vp_in_nI (by omega) (by decide)) dX5_limit_46 (fun H locs hst => ?_)
  exact e_v hx hb hr hlk hst dX5_limit_47

set_option maxHeartbeats 4000000 in
set_option maxRecDepth 100000 in
theorem x1_X5_limit {l : Launch} {D : va_G} {cy ad : Nat → Nat} {I : Im} {G : Dm} {J : Jm} (hadI : adI ad) {v : Int32} (hv : v < 0 ∨ ¬ v ≤ 3) {x : UInt64} : kM l yX5_limit (.code yX5_limit cX5_limit 4 none) (rmK 1 0 0 25) D cy ad [.ref (ad 53), .int v, .double x] I G J (qV D cy ad (u2 I 53 0 1) G J) := by
  refine start_M hadI (by decide +kernel) (Nat.le_of_ble_eq_true rfl) ?_
  intro p e s m below meth cd am hx hb hr hlk hst ls hl
  have hl : lv_has ls 4 [(0, .ref (ad 53)), (1, .int v), (2, .double x)] := hl
  refine lv_aload_n hx hb dX5_limit_0 rfl (lv_at hl 0 rfl) ?_
  refine lv_iload_n hx hb dX5_limit_1 rfl (lv_at hl 1 rfl) ?_
  refine lv_if_lt (tgt := 10) hx hb dX5_limit_2 (by decide) (fun c_2 => ?_) (fun c_2 => ?_)
  · skip
    refine lv_iconst (v := 1) hx hb dX5_limit_10 (by decide) ?_
    refine lv_goto (tgt := 30) hx hb dX5_limit_11 (by decide) ?_
    refine w_putI am hst (k := 0) (by decide) (fun _ _ _ => cE_M) rfl inT5 tyX5 tyX5_ok nmX5 (by decide) fRX5_73 (fun _ _ _ => rfl) (fun _ _ _ => Nat.le_of_ble_eq_true rfl) rfl rfl rfl rfl dX5_limit_30 (fun H locs hst => ?_)
    refine lv_aload_n hx hb dX5_limit_33 rfl (lv_at hl 0 rfl) ?_
    refine w_getI am hst (k := 0) (by decide) (fun _ _ _ => cE_M) rfl inT5 (by decide) (fun _ _ _ => rfl) fRX5_73 dX5_limit_34 ?_
    rw [show (u2 I 53 0 1) 53 0 = 1 from (u2_eq _ _ _ _)]
    refine lv_if_ne (tgt := 47) hx hb dX5_limit_37 (by decide) (fun c_37 => ?_) (fun c_37 => absurd c_37 ((show ¬ (1 : Int32) = 0 by decide)))
    exact e_v hx hb hr hlk hst dX5_limit_47
  · skip
    refine lv_iload_n hx hb dX5_limit_5 rfl (lv_at hl 1 rfl) ?_
    refine lv_iconst (v := 3) hx hb dX5_limit_6 (by decide) ?_
    refine lv_icmp_le (tgt := 14) hx hb dX5_limit_7 (by decide) (fun c_7 => absurd c_7 (hv.resolve_left c_2)) (fun c_7 => ?_)
    refine lv_iconst (v := 1) hx hb dX5_limit_10 (by decide) ?_
    refine lv_goto (tgt := 30) hx hb dX5_limit_11 (by decide) ?_
    refine w_putI am hst (k := 0) (by decide) (fun _ _ _ => cE_M) rfl inT5 tyX5 tyX5_ok nmX5 (by decide) fRX5_73 (fun _ _ _ => rfl) (fun _ _ _ => Nat.le_of_ble_eq_true rfl) rfl rfl rfl rfl dX5_limit_30 (fun H locs hst => ?_)
    refine lv_aload_n hx hb dX5_limit_33 rfl (lv_at hl 0 rfl) ?_
    refine w_getI am hst (k := 0) (by decide) (fun _ _ _ => cE_M) rfl inT5 (by decide) (fun _ _ _ => rfl) fRX5_73 dX5_limit_34 ?_
    rw [show (u2 I 53 0 1) 53 0 = 1 from (u2_eq _ _ _ _)]
    refine lv_if_ne (tgt := 47) hx hb dX5_limit_37 (by decide) (fun c_37 => ?_) (fun c_37 => absurd c_37 ((show ¬ (1 : Int32) = 0 by decide)))
    exact e_v hx hb hr hlk hst dX5_limit_47

set_option maxHeartbeats 4000000 in
set_option maxRecDepth 100000 in
theorem x2_X5_limit {l : Launch} {D : va_G} {cy ad : Nat → Nat} {I : Im} {G : Dm} {J : Jm} (hadI : adI ad) {k : Nat} (hk : k < 4) {x X : UInt64} (hxX : cn x = X) (hin : mBt X 0 4652007308841189376 = false) : kM l yX5_limit (.code yX5_limit cX5_limit 4 none) (rmK 1 0 0 25) D cy ad [.ref (ad 53), .int (nI k), .double x] I G J (qV D cy ad (u2 I 53 0 2) G J) := by
  refine start_M hadI (by decide +kernel) (Nat.le_of_ble_eq_true rfl) ?_
  intro p e s m below meth cd am hx hb hr hlk hst ls hl
  have hl : lv_has ls 4 [(0, .ref (ad 53)), (1, .int (nI k)), (2, .double x)] := hl
  refine lv_aload_n hx hb dX5_limit_0 rfl (lv_at hl 0 rfl) ?_
  refine lv_iload_n hx hb dX5_limit_1 rfl (lv_at hl 1 rfl) ?_
  refine lv_if_lt (tgt := 10) hx hb dX5_limit_2 (by decide) (fun c_2 => absurd c_2 (nI_pos (by omega))) (fun c_2 => ?_)
  refine lv_iload_n hx hb dX5_limit_5 rfl (lv_at hl 1 rfl) ?_
  refine lv_iconst (v := 3) hx hb dX5_limit_6 (by decide) ?_
  refine lv_icmp_le (tgt := 14) hx hb dX5_limit_7 (by decide) (fun c_7 => ?_) (fun c_7 => absurd (nI_le (b := 3) (by omega) (by omega)) c_7)
  refine lv_dload_n hx hb dX5_limit_14 rfl (lv_at hl 2 rfl) ?_
  refine lv_dconst0 hx hb dX5_limit_15 ?_
  refine lv_ldc2d hx hb am.2.2.2.1 (amT am _ wRX5_83) dX5_limit_16 ?_
  refine c_i hst (r_S (As := [.double x, .double FP.dconst0, .double 4652007308841189376]) (rest := [.ref (ad 53)]) am hst hl (k_X5_between hadI hxX cn_k0 cn_k4652007308841189376) kRX5_85 smX5_between ⟨Nat.le_of_ble_eq_true rfl, Nat.le_of_ble_eq_true rfl⟩ rfl rfl (Nat.le_of_ble_eq_true rfl) dX5_limit_19 ⟨Nat.le_of_ble_eq_true rfl, Nat.le_of_ble_eq_true rfl⟩) (fun H locs hst => ?_)
  refine lv_if_eq (tgt := 29) hx hb dX5_limit_22 (by decide) (fun c_22 => ?_) (fun c_22 => absurd (zB_0.mpr hin) c_22)
  refine lv_iconst (v := 2) hx hb dX5_limit_29 (by decide) ?_
  refine w_putI am hst (k := 0) (by decide) (fun _ _ _ => cE_M) rfl inT5 tyX5 tyX5_ok nmX5 (by decide) fRX5_73 (fun _ _ _ => rfl) (fun _ _ _ => Nat.le_of_ble_eq_true rfl) rfl rfl rfl rfl dX5_limit_30 (fun H locs hst => ?_)
  refine lv_aload_n hx hb dX5_limit_33 rfl (lv_at hl 0 rfl) ?_
  refine w_getI am hst (k := 0) (by decide) (fun _ _ _ => cE_M) rfl inT5 (by decide) (fun _ _ _ => rfl) fRX5_73 dX5_limit_34 ?_
  rw [show (u2 I 53 0 2) 53 0 = 2 from (u2_eq _ _ _ _)]
  refine lv_if_ne (tgt := 47) hx hb dX5_limit_37 (by decide) (fun c_37 => ?_) (fun c_37 => absurd c_37 ((show ¬ (2 : Int32) = 0 by decide)))
  exact e_v hx hb hr hlk hst dX5_limit_47

def mf0 (G : Dm) : Nat → Dm | 0 => G | k + 1 => u2 (mf0 G k) 64 k (mf0 G k 65 k)
set_option maxHeartbeats 4000000 in
set_option maxRecDepth 100000 in
theorem k_X5_fit {l : Launch} {D : va_G} {cy ad : Nat → Nat} {I : Im} {G : Dm} {J : Jm} (hadI : adI ad) {n : Nat} (hm : mOK I) (hn : I 53 2 = nI n) (hn2 : n ≤ 32) : kD l yX5_fit (.code yX5_fit cX5_fit 3 (some .int)) (rmK 3 0 0 77) D cy ad [.ref (ad 53)] I G J (qI D cy ad (nI (slR (u2 I 53 0 0) (-1) G n)) (slI (u2 I 53 0 0) (-1) G n) (mf0 (slG (u2 I 53 0 0) (-1) G n) 3) J) := by
  refine start_D hadI (by decide +kernel) (Nat.le_of_ble_eq_true rfl) ?_
  intro p e s m below meth cd am hx hb hr hlk hst ls hl d0 hd
  have hl : lv_has ls 3 [(0, .ref (ad 53))] := hl
  refine lv_aload_n hx hb dX5_fit_0 rfl (lv_at hl 0 rfl) ?_
  refine lv_iconst (v := 0) hx hb dX5_fit_1 (by decide) ?_
  refine w_putI am hst (k := 0) (by decide) (fun _ _ _ => cE_M) rfl inT5 tyX5 tyX5_ok nmX5 (by decide) fRX5_73 (fun _ _ _ => rfl) (fun _ _ _ => Nat.le_of_ble_eq_true rfl) rfl rfl rfl rfl dX5_fit_2 (fun H locs hst => ?_)
  refine lv_aload_n hx hb dX5_fit_5 rfl (lv_at hl 0 rfl) ?_
  refine lv_iconst (v := (-1)) hx hb dX5_fit_6 (by decide) ?_
  refine c_iD hd hst (r_VD (As := [.int ((-1))]) (rest := []) am hst hl (k_X5_solve hadI (n := n) (mOK_u hm (by decide)) ((u2_ne (by omega)).trans hn) hn2) kRX5_108 imX5_solve slX5_solve ⟨Nat.le_of_ble_eq_true rfl, Nat.le_of_ble_eq_true rfl⟩ (by decide) (fun _ _ _ => cE_M) rfl rfl rfl (Nat.le_of_ble_eq_true rfl) dX5_fit_7 ⟨Nat.le_of_ble_eq_true rfl, Nat.le_of_ble_eq_true rfl⟩) (fun d0 H locs hd hst => ?_)
  refine lv_istore_n (lv' := [(1, .int (nI (slR (u2 I 53 0 0) ((-1)) G n))), (0, .ref (ad 53))]) hx hb dX5_fit_10 rfl hl (by decide) rfl (fun ls hl => ?_)
  refine lv_iconst (v := 0) hx hb dX5_fit_11 (by decide) ?_
  refine lv_istore_n (lv' := [(2, .int 0), (1, .int (nI (slR (u2 I 53 0 0) ((-1)) G n))), (0, .ref (ad 53))]) hx hb dX5_fit_12 rfl hl (by decide) rfl (fun ls hl => ?_)
  have lp0 : ∀ (q9 i : Nat), q9 + i = 3 → ∀ d0 : Drawn, s.drawn.sameBut d0 lw_cs → ∀ (H : Heap) (locs : List Loc), St D cy ad s.heap (slI (u2 I 53 0 0) (-1) G n) (mf0 (slG (u2 I 53 0 0) (-1) G n) i) J H locs → ∀ ls, lv_has ls 3 [(0, .ref (ad 53)), (1, .int (nI (slR (u2 I 53 0 0) (-1) G n))), (2, .int (nI i))] → W p l e (rmK 3 0 0 77) (s.setDrawn d0) m [.ref (ad 53)].toArray below meth cd H locs 0 0 (MQD lw_cs below (qI D cy ad (nI (slR (u2 I 53 0 0) (-1) G n)) (slI (u2 I 53 0 0) (-1) G n) (mf0 (slG (u2 I 53 0 0) (-1) G n) 3) J s.heap.size) [.ref (ad 53)].toArray s ((rmK 3 0 0 77)).cells ((rmK 3 0 0 77)).slots (aA ad s.heap.size)) (F0 m 13 ls []) := by
    intro q9
    induction q9 with
    | zero =>
      intro i hi d0 hd H locs hst ls hl
      obtain rfl : 3 = i := by omega
      refine lv_iload_n hx hb dX5_fit_13 rfl (lv_at hl 2 rfl) ?_
      refine lv_iconst (v := 3) hx hb dX5_fit_14 (by decide) ?_
      refine lv_icmp_ge (tgt := 36) hx hb dX5_fit_15 (by decide) (fun c_15 => ?_) (fun c_15 => absurd ((show (3 : Int32) ≤ nI 3 by decide)) c_15)
      refine lv_iload_n hx hb dX5_fit_36 rfl (lv_at hl 1 rfl) ?_
      exact e_iD hd hx hb hr hlk hst rfl rfl dX5_fit_37
    | succ q9 ih_lp0 =>
      intro i hi d0 hd H locs hst ls hl
      refine lv_iload_n hx hb dX5_fit_13 rfl (lv_at hl 2 rfl) ?_
      refine lv_iconst (v := 3) hx hb dX5_fit_14 (by decide) ?_
      refine lv_icmp_ge (tgt := 36) hx hb dX5_fit_15 (by decide) (fun c_15 => absurd c_15 ((nI_ge (b := 3) (by omega) (by decide)))) (fun c_15 => ?_)
      refine lv_aload_n hx hb dX5_fit_18 rfl (lv_at hl 0 rfl) ?_
      refine w_getR am hst (k := 13) (b := ad 64) (by decide) (fun _ _ _ => cE_M) rfl inT5 (by decide) (fun _ _ _ => rfl) fRX5_42 dX5_fit_19 ?_
      refine lv_iload_n hx hb dX5_fit_22 rfl (lv_at hl 2 rfl) ?_
      refine lv_aload_n hx hb dX5_fit_23 rfl (lv_at hl 0 rfl) ?_
      refine w_getR am hst (k := 14) (b := ad 65) (by decide) (fun _ _ _ => cE_M) rfl inT5 (by decide) (fun _ _ _ => rfl) fRX5_45 dX5_fit_24 ?_
      refine lv_iload_n hx hb dX5_fit_27 rfl (lv_at hl 2 rfl) ?_
      refine w_dald am hst (by decide) (fun _ _ _ => cE_65) (n := i) (nI_clamp (by omega)) (vp_in_nI (by omega) (by decide)) dX5_fit_28 (fun x1 hx1 => ?_)
      refine w_dast am hst hx1 (by decide) (fun _ _ _ => cE_64) (n := i) (nI_clamp (by omega)) (vp_in_nI (by omega) (by decide)) dX5_fit_29 (fun H locs hst => ?_)
      refine lv_iinc (v := nI (i + 1)) (lv' := [(2, .int (nI (i + 1))), (0, .ref (ad 53)), (1, .int (nI (slR (u2 I 53 0 0) (-1) G n)))]) hx hb dX5_fit_30 hl (k := 2) rfl (nI_1 i) (by decide) rfl (fun ls hl => ?_)
      refine lv_goto (tgt := 13) hx hb dX5_fit_33 (by decide) ?_
      exact ih_lp0 (i + 1) (by omega) d0 hd _ _ hst ls (lv_sub hl [1, 2, 0] rfl)
  exact lp0 3 0 (by omega) d0 hd _ _ hst ls (lv_sub hl [2, 1, 0] rfl)

set_option maxHeartbeats 4000000 in
set_option maxRecDepth 100000 in
theorem k_X5_chart {l : Launch} {D : va_G} {cy ad : Nat → Nat} {I : Im} {G : Dm} {J : Jm} (hadI : adI ad) {a b : Int32} (hv : ¬ a < 1 ∧ ¬ 20 < a ∧ ¬ b < 0 ∧ ¬ a < b) : kM l yX5_chart (.code yX5_chart cX5_chart 3 none) (rmK 0 0 0 0) D cy ad [.ref (ad 53), .int a, .int b] I G J (qV D cy ad (u2 (u2 (u2 (u2 (u2 I 53 0 0) 53 16 a) 53 17 b) 53 19 0) 53 18 0) G J) := by
  refine start_M hadI (by decide +kernel) (Nat.le_of_ble_eq_true rfl) ?_
  intro p e s m below meth cd am hx hb hr hlk hst ls hl
  have hl : lv_has ls 3 [(0, .ref (ad 53)), (1, .int a), (2, .int b)] := hl
  refine lv_aload_n hx hb dX5_chart_0 rfl (lv_at hl 0 rfl) ?_
  refine lv_iload_n hx hb dX5_chart_1 rfl (lv_at hl 1 rfl) ?_
  refine lv_iconst (v := 1) hx hb dX5_chart_2 (by decide) ?_
  refine lv_icmp_lt (tgt := 25) hx hb dX5_chart_3 (by decide) (fun c_3 => absurd c_3 hv.1) (fun c_3 => ?_)
  refine lv_iload_n hx hb dX5_chart_6 rfl (lv_at hl 1 rfl) ?_
  refine lv_bipush (v := 20) hx hb dX5_chart_7 (by decide) ?_
  refine lv_icmp_gt (tgt := 25) hx hb dX5_chart_9 (by decide) (fun c_9 => absurd c_9 hv.2.1) (fun c_9 => ?_)
  refine lv_iload_n hx hb dX5_chart_12 rfl (lv_at hl 2 rfl) ?_
  refine lv_if_lt (tgt := 25) hx hb dX5_chart_13 (by decide) (fun c_13 => absurd c_13 hv.2.2.1) (fun c_13 => ?_)
  refine lv_iload_n hx hb dX5_chart_16 rfl (lv_at hl 2 rfl) ?_
  refine lv_iload_n hx hb dX5_chart_17 rfl (lv_at hl 1 rfl) ?_
  refine lv_icmp_gt (tgt := 25) hx hb dX5_chart_18 (by decide) (fun c_18 => absurd c_18 hv.2.2.2) (fun c_18 => ?_)
  refine lv_iconst (v := 0) hx hb dX5_chart_21 (by decide) ?_
  refine lv_goto (tgt := 26) hx hb dX5_chart_22 (by decide) ?_
  refine w_putI am hst (k := 0) (by decide) (fun _ _ _ => cE_M) rfl inT5 tyX5 tyX5_ok nmX5 (by decide) fRX5_73 (fun _ _ _ => rfl) (fun _ _ _ => Nat.le_of_ble_eq_true rfl) rfl rfl rfl rfl dX5_chart_26 (fun H locs hst => ?_)
  refine lv_aload_n hx hb dX5_chart_29 rfl (lv_at hl 0 rfl) ?_
  refine w_getI am hst (k := 0) (by decide) (fun _ _ _ => cE_M) rfl inT5 (by decide) (fun _ _ _ => rfl) fRX5_73 dX5_chart_30 ?_
  rw [show (u2 I 53 0 0) 53 0 = 0 from (u2_eq _ _ _ _)]
  refine lv_if_ne (tgt := 56) hx hb dX5_chart_33 (by decide) (fun c_33 => absurd ((show (0 : Int32) = 0 by decide)) c_33) (fun c_33 => ?_)
  refine lv_aload_n hx hb dX5_chart_36 rfl (lv_at hl 0 rfl) ?_
  refine lv_iload_n hx hb dX5_chart_37 rfl (lv_at hl 1 rfl) ?_
  refine w_putI am hst (k := 16) (by decide) (fun _ _ _ => cE_M) rfl inT5 tyX5 tyX5_ok nmX5 (by decide) fRX5_53 (fun _ _ _ => rfl) (fun _ _ _ => Nat.le_of_ble_eq_true rfl) rfl rfl rfl rfl dX5_chart_38 (fun H locs hst => ?_)
  refine lv_aload_n hx hb dX5_chart_41 rfl (lv_at hl 0 rfl) ?_
  refine lv_iload_n hx hb dX5_chart_42 rfl (lv_at hl 2 rfl) ?_
  refine w_putI am hst (k := 17) (by decide) (fun _ _ _ => cE_M) rfl inT5 tyX5 tyX5_ok nmX5 (by decide) fRX5_57 (fun _ _ _ => rfl) (fun _ _ _ => Nat.le_of_ble_eq_true rfl) rfl rfl rfl rfl dX5_chart_43 (fun H locs hst => ?_)
  refine lv_aload_n hx hb dX5_chart_46 rfl (lv_at hl 0 rfl) ?_
  refine lv_iconst (v := 0) hx hb dX5_chart_47 (by decide) ?_
  refine w_putI am hst (k := 19) (by decide) (fun _ _ _ => cE_M) rfl inT5 tyX5 tyX5_ok nmX5 (by decide) fRX5_122 (fun _ _ _ => rfl) (fun _ _ _ => Nat.le_of_ble_eq_true rfl) rfl rfl rfl rfl dX5_chart_48 (fun H locs hst => ?_)
  refine lv_aload_n hx hb dX5_chart_51 rfl (lv_at hl 0 rfl) ?_
  refine lv_iconst (v := 0) hx hb dX5_chart_52 (by decide) ?_
  refine w_putI am hst (k := 18) (by decide) (fun _ _ _ => cE_M) rfl inT5 tyX5 tyX5_ok nmX5 (by decide) fRX5_125 (fun _ _ _ => rfl) (fun _ _ _ => Nat.le_of_ble_eq_true rfl) rfl rfl rfl rfl dX5_chart_53 (fun H locs hst => ?_)
  exact e_v hx hb hr hlk hst dX5_chart_56

set_option maxHeartbeats 4000000 in
set_option maxRecDepth 100000 in
theorem x_X5_chart {l : Launch} {D : va_G} {cy ad : Nat → Nat} {I : Im} {G : Dm} {J : Jm} (hadI : adI ad) {a b : Int32} (hv : a < 1 ∨ 20 < a ∨ b < 0 ∨ a < b) : kM l yX5_chart (.code yX5_chart cX5_chart 3 none) (rmK 0 0 0 0) D cy ad [.ref (ad 53), .int a, .int b] I G J (qV D cy ad (u2 I 53 0 1) G J) := by
  refine start_M hadI (by decide +kernel) (Nat.le_of_ble_eq_true rfl) ?_
  intro p e s m below meth cd am hx hb hr hlk hst ls hl
  have hl : lv_has ls 3 [(0, .ref (ad 53)), (1, .int a), (2, .int b)] := hl
  refine lv_aload_n hx hb dX5_chart_0 rfl (lv_at hl 0 rfl) ?_
  refine lv_iload_n hx hb dX5_chart_1 rfl (lv_at hl 1 rfl) ?_
  refine lv_iconst (v := 1) hx hb dX5_chart_2 (by decide) ?_
  refine lv_icmp_lt (tgt := 25) hx hb dX5_chart_3 (by decide) (fun c_3 => ?_) (fun c_3 => ?_)
  · skip
    refine lv_iconst (v := 1) hx hb dX5_chart_25 (by decide) ?_
    refine w_putI am hst (k := 0) (by decide) (fun _ _ _ => cE_M) rfl inT5 tyX5 tyX5_ok nmX5 (by decide) fRX5_73 (fun _ _ _ => rfl) (fun _ _ _ => Nat.le_of_ble_eq_true rfl) rfl rfl rfl rfl dX5_chart_26 (fun H locs hst => ?_)
    refine lv_aload_n hx hb dX5_chart_29 rfl (lv_at hl 0 rfl) ?_
    refine w_getI am hst (k := 0) (by decide) (fun _ _ _ => cE_M) rfl inT5 (by decide) (fun _ _ _ => rfl) fRX5_73 dX5_chart_30 ?_
    rw [show (u2 I 53 0 1) 53 0 = 1 from (u2_eq _ _ _ _)]
    refine lv_if_ne (tgt := 56) hx hb dX5_chart_33 (by decide) (fun c_33 => ?_) (fun c_33 => absurd c_33 ((show ¬ (1 : Int32) = 0 by decide)))
    exact e_v hx hb hr hlk hst dX5_chart_56
  · skip
    refine lv_iload_n hx hb dX5_chart_6 rfl (lv_at hl 1 rfl) ?_
    refine lv_bipush (v := 20) hx hb dX5_chart_7 (by decide) ?_
    refine lv_icmp_gt (tgt := 25) hx hb dX5_chart_9 (by decide) (fun c_9 => ?_) (fun c_9 => ?_)
    · skip
      refine lv_iconst (v := 1) hx hb dX5_chart_25 (by decide) ?_
      refine w_putI am hst (k := 0) (by decide) (fun _ _ _ => cE_M) rfl inT5 tyX5 tyX5_ok nmX5 (by decide) fRX5_73 (fun _ _ _ => rfl) (fun _ _ _ => Nat.le_of_ble_eq_true rfl) rfl rfl rfl rfl dX5_chart_26 (fun H locs hst => ?_)
      refine lv_aload_n hx hb dX5_chart_29 rfl (lv_at hl 0 rfl) ?_
      refine w_getI am hst (k := 0) (by decide) (fun _ _ _ => cE_M) rfl inT5 (by decide) (fun _ _ _ => rfl) fRX5_73 dX5_chart_30 ?_
      rw [show (u2 I 53 0 1) 53 0 = 1 from (u2_eq _ _ _ _)]
      refine lv_if_ne (tgt := 56) hx hb dX5_chart_33 (by decide) (fun c_33 => ?_) (fun c_33 => absurd c_33 ((show ¬ (1 : Int32) = 0 by decide)))
      exact e_v hx hb hr hlk hst dX5_chart_56
    · skip
      refine lv_iload_n hx hb dX5_chart_12 rfl (lv_at hl 2 rfl) ?_
      refine lv_if_lt (tgt := 25) hx hb dX5_chart_13 (by decide) (fun c_13 => ?_) (fun c_13 => ?_)
      · skip
        refine lv_iconst (v := 1) hx hb dX5_chart_25 (by decide) ?_
        refine w_putI am hst (k := 0) (by decide) (fun _ _ _ => cE_M) rfl inT5 tyX5 tyX5_ok nmX5 (by decide) fRX5_73 (fun _ _ _ => rfl) (fun _ _ _ => Nat.le_of_ble_eq_true rfl) rfl rfl rfl rfl dX5_chart_26 (fun H locs hst => ?_)
        refine lv_aload_n hx hb dX5_chart_29 rfl (lv_at hl 0 rfl) ?_
        refine w_getI am hst (k := 0) (by decide) (fun _ _ _ => cE_M) rfl inT5 (by decide) (fun _ _ _ => rfl) fRX5_73 dX5_chart_30 ?_
        rw [show (u2 I 53 0 1) 53 0 = 1 from (u2_eq _ _ _ _)]
        refine lv_if_ne (tgt := 56) hx hb dX5_chart_33 (by decide) (fun c_33 => ?_) (fun c_33 => absurd c_33 ((show ¬ (1 : Int32) = 0 by decide)))
        exact e_v hx hb hr hlk hst dX5_chart_56
      · skip
        refine lv_iload_n hx hb dX5_chart_16 rfl (lv_at hl 2 rfl) ?_
        refine lv_iload_n hx hb dX5_chart_17 rfl (lv_at hl 1 rfl) ?_
        refine lv_icmp_gt (tgt := 25) hx hb dX5_chart_18 (by decide) (fun c_18 => ?_) (fun c_18 => absurd (((hv.resolve_left c_3).resolve_left c_9).resolve_left c_13) c_18)
        refine lv_iconst (v := 1) hx hb dX5_chart_25 (by decide) ?_
        refine w_putI am hst (k := 0) (by decide) (fun _ _ _ => cE_M) rfl inT5 tyX5 tyX5_ok nmX5 (by decide) fRX5_73 (fun _ _ _ => rfl) (fun _ _ _ => Nat.le_of_ble_eq_true rfl) rfl rfl rfl rfl dX5_chart_26 (fun H locs hst => ?_)
        refine lv_aload_n hx hb dX5_chart_29 rfl (lv_at hl 0 rfl) ?_
        refine w_getI am hst (k := 0) (by decide) (fun _ _ _ => cE_M) rfl inT5 (by decide) (fun _ _ _ => rfl) fRX5_73 dX5_chart_30 ?_
        rw [show (u2 I 53 0 1) 53 0 = 1 from (u2_eq _ _ _ _)]
        refine lv_if_ne (tgt := 56) hx hb dX5_chart_33 (by decide) (fun c_33 => ?_) (fun c_33 => absurd c_33 ((show ¬ (1 : Int32) = 0 by decide)))
        exact e_v hx hb hr hlk hst dX5_chart_56

