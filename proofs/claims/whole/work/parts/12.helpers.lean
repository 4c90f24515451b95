/-! the small helpers of the class: what they answer, and when they throw -/
def bIn (X : UInt64) (a b : Int32) : Bool := decide (¬ Op.cmpValue (FP.dcmp X (FP.i2d a)) CmpOp.l < 0) && decide (¬ 0 < Op.cmpValue (FP.dcmp X (FP.i2d b)) CmpOp.g)
def bDay (d : Int32) : Bool := decide (¬ d < 0) && decide (¬ 10000 < d)
def bShare (a b mb : Int32) : Bool := decide (¬ b < 1) && (decide (¬ mb < b) && (decide (¬ a < 0) && decide (¬ b < a)))
set_option maxHeartbeats 4000000 in
set_option maxRecDepth 100000 in
theorem k_X4_boardAt {l : Launch} {D : va_G} {cy ad : Nat → Nat} {I : Im} {G : Dm} {J : Jm} (hadI : adI ad) {n k : Nat} (hn : I 0 2 = nI n) (hk : k < n) (hn2 : n ≤ 32) : kM l yX4_boardAt (.code yX4_boardAt cX4_boardAt 2 (some (.object "StrengthRows$Board"))) (rmK 0 0 0 0) D cy ad [.ref (ad 0), .int (nI k)] I G J (qR D cy ad (2 + k) I G J) := by
  refine start_M hadI (by decide +kernel) (Nat.le_of_ble_eq_true rfl) ?_
  intro p e s m below meth cd am hx hb hr hlk hst ls hl
  have hl : lv_has ls 2 [(0, .ref (ad 0)), (1, .int (nI k))] := hl
  refine lv_iload_n hx hb dX4_boardAt_0 rfl (lv_at hl 1 rfl) ?_
  refine lv_if_lt (tgt := 12) hx hb dX4_boardAt_1 (by decide) (fun c_1 => absurd c_1 (nI_pos (by omega))) (fun c_1 => ?_)
  refine lv_iload_n hx hb dX4_boardAt_4 rfl (lv_at hl 1 rfl) ?_
  refine lv_aload_n hx hb dX4_boardAt_5 rfl (lv_at hl 0 rfl) ?_
  refine w_getI am hst (k := 2) (by decide) (fun _ _ _ => cE_S) rfl inT4 (by decide) (fun _ _ _ => rfl) fRX4_50 dX4_boardAt_6 ?_
  refine lv_icmp_lt (tgt := 22) hx hb dX4_boardAt_9 (by decide) (fun c_9 => ?_) (fun c_9 => absurd ((by rw [hn]; exact nI_lt hk (by omega))) c_9)
  refine lv_aload_n hx hb dX4_boardAt_22 rfl (lv_at hl 0 rfl) ?_
  refine w_getR am hst (k := 1) (b := ad 1) (by decide) (fun _ _ _ => cE_S) rfl inT4 (by decide) (fun _ _ _ => rfl) fRX4_15 dX4_boardAt_23 ?_
  refine lv_iload_n hx hb dX4_boardAt_26 rfl (lv_at hl 1 rfl) ?_
  refine w_aldR am hst (n := k) (nI_clamp (by omega)) (vp_in_nI (by omega) (by decide)) dX4_boardAt_27 ?_
  exact e_r hx hb hr hlk hst dX4_boardAt_28

set_option maxHeartbeats 4000000 in
set_option maxRecDepth 100000 in
theorem x_X4_boardAt {l : Launch} {D : va_G} {cy ad : Nat → Nat} {I : Im} {G : Dm} {J : Jm} (hadI : adI ad) (hno : l.stackTraces = false) {v : Int32} (hv : v < 0 ∨ ¬ v < I 0 2) : kX l yX4_boardAt (.code yX4_boardAt cX4_boardAt 2 (some (.object "StrengthRows$Board"))) (rmK 6 1 6 90) D cy ad [.ref (ad 0), .int v] I G J xIOOBE := by
  refine start_X hadI (by decide +kernel) (Nat.le_of_ble_eq_true rfl) ?_
  intro p e s m below meth cd am hx hb hout hlk hst ls hl
  have hl : lv_has ls 2 [(0, .ref (ad 0)), (1, .int v)] := hl
  refine lv_iload_n hx hb dX4_boardAt_0 rfl (lv_at hl 1 rfl) ?_
  refine lv_if_lt (tgt := 12) hx hb dX4_boardAt_1 (by decide) (fun c_1 => ?_) (fun c_1 => ?_)
  · skip
    exact x_throw (text := "no such board") hno am hst hout hlk hl tx_IOOBE tg_IOOBE rfl (by decide) dX4_boardAt_12 dX4_boardAt_15 dX4_boardAt_16 dX4_boardAt_18 dX4_boardAt_21 (Nat.le_of_ble_eq_true rfl) (Nat.le_of_ble_eq_true rfl) (Nat.le_of_ble_eq_true rfl) (Nat.le_of_ble_eq_true rfl) (Nat.le_of_ble_eq_true rfl) (Nat.le_of_ble_eq_true rfl)
  · skip
    refine lv_iload_n hx hb dX4_boardAt_4 rfl (lv_at hl 1 rfl) ?_
    refine lv_aload_n hx hb dX4_boardAt_5 rfl (lv_at hl 0 rfl) ?_
    refine w_getI am hst (k := 2) (by decide) (fun _ _ _ => cE_S) rfl inT4 (by decide) (fun _ _ _ => rfl) fRX4_50 dX4_boardAt_6 ?_
    refine lv_icmp_lt (tgt := 22) hx hb dX4_boardAt_9 (by decide) (fun c_9 => absurd c_9 (hv.resolve_left c_1)) (fun c_9 => ?_)
    exact x_throw (text := "no such board") hno am hst hout hlk hl tx_IOOBE tg_IOOBE rfl (by decide) dX4_boardAt_12 dX4_boardAt_15 dX4_boardAt_16 dX4_boardAt_18 dX4_boardAt_21 (Nat.le_of_ble_eq_true rfl) (Nat.le_of_ble_eq_true rfl) (Nat.le_of_ble_eq_true rfl) (Nat.le_of_ble_eq_true rfl) (Nat.le_of_ble_eq_true rfl) (Nat.le_of_ble_eq_true rfl)

set_option maxHeartbeats 4000000 in
set_option maxRecDepth 100000 in
theorem k_X4_completeBoardAt {l : Launch} {D : va_G} {cy ad : Nat → Nat} {I : Im} {G : Dm} {J : Jm} (hadI : adI ad) {n k : Nat} (hn : I 0 2 = nI n) (hk : k < n) (hn2 : n ≤ 32) (hcp : bCompl I G (2 + k) = true) : kM l yX4_completeBoardAt (.code yX4_completeBoardAt cX4_completeBoardAt 3 (some (.object "StrengthRows$Board"))) (rmK 1 0 0 21) D cy ad [.ref (ad 0), .int (nI k)] I G J (qR D cy ad (2 + k) I G J) := by
  refine start_M hadI (by decide +kernel) (Nat.le_of_ble_eq_true rfl) ?_
  intro p e s m below meth cd am hx hb hr hlk hst ls hl
  have hl : lv_has ls 3 [(0, .ref (ad 0)), (1, .int (nI k))] := hl
  refine lv_aload_n hx hb dX4_completeBoardAt_0 rfl (lv_at hl 0 rfl) ?_
  refine lv_iload_n hx hb dX4_completeBoardAt_1 rfl (lv_at hl 1 rfl) ?_
  refine c_r hst (r_V (As := [.int (nI k)]) (rest := []) am hst hl (k_X4_boardAt hadI hn hk hn2) kRX4_60 imX4_boardAt slX4_boardAt ⟨Nat.le_of_ble_eq_true rfl, Nat.le_of_ble_eq_true rfl⟩ (by decide) (fun _ _ _ => cE_S) rfl rfl rfl (Nat.le_of_ble_eq_true rfl) dX4_completeBoardAt_2 ⟨Nat.le_of_ble_eq_true rfl, Nat.le_of_ble_eq_true rfl⟩) (fun H locs hst => ?_)
  refine lv_astore_n (lv' := [(2, .ref (ad (2 + k))), (0, .ref (ad 0)), (1, .int (nI k))]) hx hb dX4_completeBoardAt_5 rfl hl (by decide) rfl (fun ls hl => ?_)
  refine lv_aload_n hx hb dX4_completeBoardAt_6 rfl (lv_at hl 0 rfl) ?_
  refine c_i hst (r_N (As := []) (rest := []) am hst hl (k_X0_isComplete hadI (show 2 ≤ 2 + k ∧ 2 + k < 34 by omega)) kRX4_157 imX0_isComplete slX0_isComplete ⟨Nat.le_of_ble_eq_true rfl, Nat.le_of_ble_eq_true rfl⟩ (by omega) (fun _ _ _ => cE_B (show 2 ≤ 2 + k ∧ 2 + k < 34 by omega)) rfl rfl rfl (Nat.le_of_ble_eq_true rfl) dX4_completeBoardAt_7 ⟨Nat.le_of_ble_eq_true rfl, Nat.le_of_ble_eq_true rfl⟩) (fun H locs hst => ?_)
  refine lv_if_ne (tgt := 23) hx hb dX4_completeBoardAt_10 (by decide) (fun c_10 => ?_) (fun c_10 => absurd c_10 (zB_n0.mpr hcp))
  refine lv_aload_n hx hb dX4_completeBoardAt_23 rfl (lv_at hl 0 rfl) ?_
  exact e_r hx hb hr hlk hst dX4_completeBoardAt_24

set_option maxHeartbeats 4000000 in
set_option maxRecDepth 100000 in
theorem x2_X4_completeBoardAt {l : Launch} {D : va_G} {cy ad : Nat → Nat} {I : Im} {G : Dm} {J : Jm} (hadI : adI ad) (hno : l.stackTraces = false) {n k : Nat} (hn : I 0 2 = nI n) (hk : k < n) (hn2 : n ≤ 32) (hcp : bCompl I G (2 + k) = false) : kX l yX4_completeBoardAt (.code yX4_completeBoardAt cX4_completeBoardAt 3 (some (.object "StrengthRows$Board"))) (rmK 7 1 6 111) D cy ad [.ref (ad 0), .int (nI k)] I G J xISE := by
  refine start_X hadI (by decide +kernel) (Nat.le_of_ble_eq_true rfl) ?_
  intro p e s m below meth cd am hx hb hout hlk hst ls hl
  have hl : lv_has ls 3 [(0, .ref (ad 0)), (1, .int (nI k))] := hl
  refine lv_aload_n hx hb dX4_completeBoardAt_0 rfl (lv_at hl 0 rfl) ?_
  refine lv_iload_n hx hb dX4_completeBoardAt_1 rfl (lv_at hl 1 rfl) ?_
  refine c_r hst (r_V (As := [.int (nI k)]) (rest := []) am hst hl (k_X4_boardAt hadI hn hk hn2) kRX4_60 imX4_boardAt slX4_boardAt ⟨Nat.le_of_ble_eq_true rfl, Nat.le_of_ble_eq_true rfl⟩ (by decide) (fun _ _ _ => cE_S) rfl rfl rfl (Nat.le_of_ble_eq_true rfl) dX4_completeBoardAt_2 ⟨Nat.le_of_ble_eq_true rfl, Nat.le_of_ble_eq_true rfl⟩) (fun H locs hst => ?_)
  refine lv_astore_n (lv' := [(2, .ref (ad (2 + k))), (0, .ref (ad 0)), (1, .int (nI k))]) hx hb dX4_completeBoardAt_5 rfl hl (by decide) rfl (fun ls hl => ?_)
  refine lv_aload_n hx hb dX4_completeBoardAt_6 rfl (lv_at hl 0 rfl) ?_
  refine c_i hst (r_N (As := []) (rest := []) am hst hl (k_X0_isComplete hadI (show 2 ≤ 2 + k ∧ 2 + k < 34 by omega)) kRX4_157 imX0_isComplete slX0_isComplete ⟨Nat.le_of_ble_eq_true rfl, Nat.le_of_ble_eq_true rfl⟩ (by omega) (fun _ _ _ => cE_B (show 2 ≤ 2 + k ∧ 2 + k < 34 by omega)) rfl rfl rfl (Nat.le_of_ble_eq_true rfl) dX4_completeBoardAt_7 ⟨Nat.le_of_ble_eq_true rfl, Nat.le_of_ble_eq_true rfl⟩) (fun H locs hst => ?_)
  refine lv_if_ne (tgt := 23) hx hb dX4_completeBoardAt_10 (by decide) (fun c_10 => absurd (zB_0.mpr hcp) c_10) (fun c_10 => ?_)
  exact x_throw (text := "the board is not complete") hno am hst hout hlk hl tx_ISE tg_ISE rfl (by decide) dX4_completeBoardAt_13 dX4_completeBoardAt_16 dX4_completeBoardAt_17 dX4_completeBoardAt_19 dX4_completeBoardAt_22 (Nat.le_of_ble_eq_true rfl) (Nat.le_of_ble_eq_true rfl) (Nat.le_of_ble_eq_true rfl) (Nat.le_of_ble_eq_true rfl) (Nat.le_of_ble_eq_true rfl) (Nat.le_of_ble_eq_true rfl)

set_option maxHeartbeats 4000000 in
set_option maxRecDepth 100000 in
theorem x1_X4_completeBoardAt {l : Launch} {D : va_G} {cy ad : Nat → Nat} {I : Im} {G : Dm} {J : Jm} (hadI : adI ad) (hno : l.stackTraces = false) {v : Int32} (hv : v < 0 ∨ ¬ v < I 0 2) : kX l yX4_completeBoardAt (.code yX4_completeBoardAt cX4_completeBoardAt 3 (some (.object "StrengthRows$Board"))) (rmK 7 1 6 111) D cy ad [.ref (ad 0), .int v] I G J xIOOBE := by
  refine start_X hadI (by decide +kernel) (Nat.le_of_ble_eq_true rfl) ?_
  intro p e s m below meth cd am hx hb hout hlk hst ls hl
  have hl : lv_has ls 3 [(0, .ref (ad 0)), (1, .int v)] := hl
  refine lv_aload_n hx hb dX4_completeBoardAt_0 rfl (lv_at hl 0 rfl) ?_
  refine lv_iload_n hx hb dX4_completeBoardAt_1 rfl (lv_at hl 1 rfl) ?_
  exact x_call hst hout hlk (Nat.le_of_ble_eq_true rfl) (Nat.le_of_ble_eq_true rfl) (r_VX (As := [.int v]) (rest := []) am hst hl (x_X4_boardAt hadI hno hv) kRX4_60 imX4_boardAt slX4_boardAt ⟨rfl, rfl⟩ ⟨Nat.le_of_ble_eq_true rfl, Nat.le_of_ble_eq_true rfl⟩ (by decide) (fun _ _ _ => cE_S) rfl rfl rfl (Nat.le_of_ble_eq_true rfl) dX4_completeBoardAt_2 ⟨Nat.le_of_ble_eq_true rfl, Nat.le_of_ble_eq_true rfl⟩)

set_option maxHeartbeats 4000000 in
set_option maxRecDepth 100000 in
theorem k_X4_checkClass {l : Launch} {D : va_G} {cy ad : Nat → Nat} {I : Im} {G : Dm} {J : Jm} (hadI : adI ad) {v : Int32} (hv : ¬ v < 0 ∧ v < 4) : kM l yX4_checkClass (.code yX4_checkClass cX4_checkClass 1 none) (rmK 0 0 0 0) D cy ad [.int v] I G J (qV D cy ad I G J) := by
  refine start_M hadI (by decide +kernel) (Nat.le_of_ble_eq_true rfl) ?_
  intro p e s m below meth cd am hx hb hr hlk hst ls hl
  have hl : lv_has ls 1 [(0, .int v)] := hl
  refine lv_iload_n hx hb dX4_checkClass_0 rfl (lv_at hl 0 rfl) ?_
  refine lv_if_lt (tgt := 9) hx hb dX4_checkClass_1 (by decide) (fun c_1 => absurd c_1 hv.1) (fun c_1 => ?_)
  refine lv_iload_n hx hb dX4_checkClass_4 rfl (lv_at hl 0 rfl) ?_
  refine lv_iconst (v := 4) hx hb dX4_checkClass_5 (by decide) ?_
  refine lv_icmp_lt (tgt := 19) hx hb dX4_checkClass_6 (by decide) (fun c_6 => ?_) (fun c_6 => absurd hv.2 c_6)
  exact e_v hx hb hr hlk hst dX4_checkClass_19

set_option maxHeartbeats 4000000 in
set_option maxRecDepth 100000 in
theorem x_X4_checkClass {l : Launch} {D : va_G} {cy ad : Nat → Nat} {I : Im} {G : Dm} {J : Jm} (hadI : adI ad) (hno : l.stackTraces = false) {v : Int32} (hv : v < 0 ∨ ¬ v < 4) : kX l yX4_checkClass (.code yX4_checkClass cX4_checkClass 1 none) (rmK 6 1 6 90) D cy ad [.int v] I G J xIOOBE := by
  refine start_X hadI (by decide +kernel) (Nat.le_of_ble_eq_true rfl) ?_
  intro p e s m below meth cd am hx hb hout hlk hst ls hl
  have hl : lv_has ls 1 [(0, .int v)] := hl
  refine lv_iload_n hx hb dX4_checkClass_0 rfl (lv_at hl 0 rfl) ?_
  refine lv_if_lt (tgt := 9) hx hb dX4_checkClass_1 (by decide) (fun c_1 => ?_) (fun c_1 => ?_)
  · skip
    exact x_throw (text := "no such class") hno am hst hout hlk hl tx_IOOBE tg_IOOBE rfl (by decide) dX4_checkClass_9 dX4_checkClass_12 dX4_checkClass_13 dX4_checkClass_15 dX4_checkClass_18 (Nat.le_of_ble_eq_true rfl) (Nat.le_of_ble_eq_true rfl) (Nat.le_of_ble_eq_true rfl) (Nat.le_of_ble_eq_true rfl) (Nat.le_of_ble_eq_true rfl) (Nat.le_of_ble_eq_true rfl)
  · skip
    refine lv_iload_n hx hb dX4_checkClass_4 rfl (lv_at hl 0 rfl) ?_
    refine lv_iconst (v := 4) hx hb dX4_checkClass_5 (by decide) ?_
    refine lv_icmp_lt (tgt := 19) hx hb dX4_checkClass_6 (by decide) (fun c_6 => absurd c_6 (hv.resolve_left c_1)) (fun c_6 => ?_)
    exact x_throw (text := "no such class") hno am hst hout hlk hl tx_IOOBE tg_IOOBE rfl (by decide) dX4_checkClass_9 dX4_checkClass_12 dX4_checkClass_13 dX4_checkClass_15 dX4_checkClass_18 (Nat.le_of_ble_eq_true rfl) (Nat.le_of_ble_eq_true rfl) (Nat.le_of_ble_eq_true rfl) (Nat.le_of_ble_eq_true rfl) (Nat.le_of_ble_eq_true rfl) (Nat.le_of_ble_eq_true rfl)

set_option maxHeartbeats 4000000 in
set_option maxRecDepth 100000 in
theorem k_X4_need {l : Launch} {D : va_G} {cy ad : Nat → Nat} {I : Im} {G : Dm} {J : Jm} (hadI : adI ad) {v : Int32} (hv : ¬ v = 0) : kM l yX4_need (.code yX4_need cX4_need 1 none) (rmK 0 0 0 0) D cy ad [.int v] I G J (qV D cy ad I G J) := by
  refine start_M hadI (by decide +kernel) (Nat.le_of_ble_eq_true rfl) ?_
  intro p e s m below meth cd am hx hb hr hlk hst ls hl
  have hl : lv_has ls 1 [(0, .int v)] := hl
  refine lv_iload_n hx hb dX4_need_0 rfl (lv_at hl 0 rfl) ?_
  refine lv_if_ne (tgt := 14) hx hb dX4_need_1 (by decide) (fun c_1 => ?_) (fun c_1 => absurd c_1 hv)
  exact e_v hx hb hr hlk hst dX4_need_14

set_option maxHeartbeats 4000000 in
set_option maxRecDepth 100000 in
theorem x_X4_need {l : Launch} {D : va_G} {cy ad : Nat → Nat} {I : Im} {G : Dm} {J : Jm} (hadI : adI ad) (hno : l.stackTraces = false) {v : Int32} (hv : v = 0) : kX l yX4_need (.code yX4_need cX4_need 1 none) (rmK 6 1 6 90) D cy ad [.int v] I G J xIAE := by
  refine start_X hadI (by decide +kernel) (Nat.le_of_ble_eq_true rfl) ?_
  intro p e s m below meth cd am hx hb hout hlk hst ls hl
  have hl : lv_has ls 1 [(0, .int v)] := hl
  refine lv_iload_n hx hb dX4_need_0 rfl (lv_at hl 0 rfl) ?_
  refine lv_if_ne (tgt := 14) hx hb dX4_need_1 (by decide) (fun c_1 => absurd hv c_1) (fun c_1 => ?_)
  exact x_throw (text := "a number is not as said") hno am hst hout hlk hl tx_IAE tg_IAE rfl (by decide) dX4_need_4 dX4_need_7 dX4_need_8 dX4_need_10 dX4_need_13 (Nat.le_of_ble_eq_true rfl) (Nat.le_of_ble_eq_true rfl) (Nat.le_of_ble_eq_true rfl) (Nat.le_of_ble_eq_true rfl) (Nat.le_of_ble_eq_true rfl) (Nat.le_of_ble_eq_true rfl)

set_option maxHeartbeats 4000000 in
set_option maxRecDepth 100000 in
theorem k_X4_isWithin {l : Launch} {D : va_G} {cy ad : Nat → Nat} {I : Im} {G : Dm} {J : Jm} (hadI : adI ad) {x X : UInt64} {a b : Int32} (hxX : cn x = X) : kM l yX4_isWithin (.code yX4_isWithin cX4_isWithin 4 (some .boolean)) (rmK 0 0 0 0) D cy ad [.double x, .int a, .int b] I G J (qI D cy ad (zB (bIn X a b)) I G J) := by
  refine start_M hadI (by decide +kernel) (Nat.le_of_ble_eq_true rfl) ?_
  intro p e s m below meth cd am hx hb hr hlk hst ls hl
  have hl : lv_has ls 4 [(0, .double x), (2, .int a), (3, .int b)] := hl
  refine lv_dload_n hx hb dX4_isWithin_0 rfl (lv_at hl 0 rfl) ?_
  refine lv_iload_n hx hb dX4_isWithin_1 rfl (lv_at hl 1 rfl) ?_
  refine w_i2d hx hb dX4_isWithin_2 (fun x1 hx1 => ?_)
  refine w_dcmp hx hb hxX hx1 dX4_isWithin_3 ?_
  refine lv_if_lt (tgt := 18) hx hb dX4_isWithin_4 (by decide) (fun c_4 => ?_) (fun c_4 => ?_)
  · skip
    refine lv_iconst (v := 0) hx hb dX4_isWithin_18 (by decide) ?_
    exact e_i hx hb hr hlk hst rfl (by simp only [bIn, zB, c_4, not_true_eq_false, not_false_eq_true, decide_true, decide_false, Bool.true_and, Bool.false_and, Bool.and_true, Bool.and_false, Bool.and_self, if_true, if_false, ite_true, ite_false, reduceIte, Bool.false_eq_true]) dX4_isWithin_19
  · skip
    refine lv_dload_n hx hb dX4_isWithin_7 rfl (lv_at hl 0 rfl) ?_
    refine lv_iload_n hx hb dX4_isWithin_8 rfl (lv_at hl 2 rfl) ?_
    refine w_i2d hx hb dX4_isWithin_9 (fun x2 hx2 => ?_)
    refine w_dcmp hx hb hxX hx2 dX4_isWithin_10 ?_
    refine lv_if_gt (tgt := 18) hx hb dX4_isWithin_11 (by decide) (fun c_11 => ?_) (fun c_11 => ?_)
    · skip
      refine lv_iconst (v := 0) hx hb dX4_isWithin_18 (by decide) ?_
      exact e_i hx hb hr hlk hst rfl (by simp only [bIn, zB, c_4, c_11, not_true_eq_false, not_false_eq_true, decide_true, decide_false, Bool.true_and, Bool.false_and, Bool.and_true, Bool.and_false, Bool.and_self, if_true, if_false, ite_true, ite_false, reduceIte, Bool.false_eq_true]) dX4_isWithin_19
    · skip
      refine lv_iconst (v := 1) hx hb dX4_isWithin_14 (by decide) ?_
      refine lv_goto (tgt := 19) hx hb dX4_isWithin_15 (by decide) ?_
      exact e_i hx hb hr hlk hst rfl (by simp only [bIn, zB, c_4, c_11, not_true_eq_false, not_false_eq_true, decide_true, decide_false, Bool.true_and, Bool.false_and, Bool.and_true, Bool.and_false, Bool.and_self, if_true, if_false, ite_true, ite_false, reduceIte, Bool.false_eq_true]) dX4_isWithin_19

set_option maxHeartbeats 4000000 in
set_option maxRecDepth 100000 in
theorem k_X4_isDay {l : Launch} {D : va_G} {cy ad : Nat → Nat} {I : Im} {G : Dm} {J : Jm} (hadI : adI ad) {v : Int32} : kM l yX4_isDay (.code yX4_isDay cX4_isDay 1 (some .boolean)) (rmK 0 0 0 0) D cy ad [.int v] I G J (qI D cy ad (zB (bDay v)) I G J) := by
  refine start_M hadI (by decide +kernel) (Nat.le_of_ble_eq_true rfl) ?_
  intro p e s m below meth cd am hx hb hr hlk hst ls hl
  have hl : lv_has ls 1 [(0, .int v)] := hl
  refine lv_iload_n hx hb dX4_isDay_0 rfl (lv_at hl 0 rfl) ?_
  refine lv_if_lt (tgt := 15) hx hb dX4_isDay_1 (by decide) (fun c_1 => ?_) (fun c_1 => ?_)
  · skip
    refine lv_iconst (v := 0) hx hb dX4_isDay_15 (by decide) ?_
    exact e_i hx hb hr hlk hst rfl (by simp only [bDay, zB, c_1, not_true_eq_false, not_false_eq_true, decide_true, decide_false, Bool.true_and, Bool.false_and, Bool.and_true, Bool.and_false, Bool.and_self, if_true, if_false, ite_true, ite_false, reduceIte, Bool.false_eq_true]) dX4_isDay_16
  · skip
    refine lv_iload_n hx hb dX4_isDay_4 rfl (lv_at hl 0 rfl) ?_
    refine lv_sipush (v := 10000) hx hb dX4_isDay_5 (by decide) ?_
    refine lv_icmp_gt (tgt := 15) hx hb dX4_isDay_8 (by decide) (fun c_8 => ?_) (fun c_8 => ?_)
    · skip
      refine lv_iconst (v := 0) hx hb dX4_isDay_15 (by decide) ?_
      exact e_i hx hb hr hlk hst rfl (by simp only [bDay, zB, c_1, c_8, not_true_eq_false, not_false_eq_true, decide_true, decide_false, Bool.true_and, Bool.false_and, Bool.and_true, Bool.and_false, Bool.and_self, if_true, if_false, ite_true, ite_false, reduceIte, Bool.false_eq_true]) dX4_isDay_16
    · skip
      refine lv_iconst (v := 1) hx hb dX4_isDay_11 (by decide) ?_
      refine lv_goto (tgt := 16) hx hb dX4_isDay_12 (by decide) ?_
      exact e_i hx hb hr hlk hst rfl (by simp only [bDay, zB, c_1, c_8, not_true_eq_false, not_false_eq_true, decide_true, decide_false, Bool.true_and, Bool.false_and, Bool.and_true, Bool.and_false, Bool.and_self, if_true, if_false, ite_true, ite_false, reduceIte, Bool.false_eq_true]) dX4_isDay_16

set_option maxHeartbeats 4000000 in
set_option maxRecDepth 100000 in
theorem k_X4_isShare {l : Launch} {D : va_G} {cy ad : Nat → Nat} {I : Im} {G : Dm} {J : Jm} (hadI : adI ad) {a b mb : Int32} : kM l yX4_isShare (.code yX4_isShare cX4_isShare 3 (some .boolean)) (rmK 0 0 0 0) D cy ad [.int a, .int b, .int mb] I G J (qI D cy ad (zB (bShare a b mb)) I G J) := by
  refine start_M hadI (by decide +kernel) (Nat.le_of_ble_eq_true rfl) ?_
  intro p e s m below meth cd am hx hb hr hlk hst ls hl
  have hl : lv_has ls 3 [(0, .int a), (1, .int b), (2, .int mb)] := hl
  refine lv_iload_n hx hb dX4_isShare_0 rfl (lv_at hl 1 rfl) ?_
  refine lv_iconst (v := 1) hx hb dX4_isShare_1 (by decide) ?_
  refine lv_icmp_lt (tgt := 23) hx hb dX4_isShare_2 (by decide) (fun c_2 => ?_) (fun c_2 => ?_)
  · skip
    refine lv_iconst (v := 0) hx hb dX4_isShare_23 (by decide) ?_
    exact e_i hx hb hr hlk hst rfl (by simp only [bShare, zB, c_2, not_true_eq_false, not_false_eq_true, decide_true, decide_false, Bool.true_and, Bool.false_and, Bool.and_true, Bool.and_false, Bool.and_self, if_true, if_false, ite_true, ite_false, reduceIte, Bool.false_eq_true]) dX4_isShare_24
  · skip
    refine lv_iload_n hx hb dX4_isShare_5 rfl (lv_at hl 1 rfl) ?_
    refine lv_iload_n hx hb dX4_isShare_6 rfl (lv_at hl 2 rfl) ?_
    refine lv_icmp_gt (tgt := 23) hx hb dX4_isShare_7 (by decide) (fun c_7 => ?_) (fun c_7 => ?_)
    · skip
      refine lv_iconst (v := 0) hx hb dX4_isShare_23 (by decide) ?_
      exact e_i hx hb hr hlk hst rfl (by simp only [bShare, zB, c_2, c_7, not_true_eq_false, not_false_eq_true, decide_true, decide_false, Bool.true_and, Bool.false_and, Bool.and_true, Bool.and_false, Bool.and_self, if_true, if_false, ite_true, ite_false, reduceIte, Bool.false_eq_true]) dX4_isShare_24
    · skip
      refine lv_iload_n hx hb dX4_isShare_10 rfl (lv_at hl 0 rfl) ?_
      refine lv_if_lt (tgt := 23) hx hb dX4_isShare_11 (by decide) (fun c_11 => ?_) (fun c_11 => ?_)
      · skip
        refine lv_iconst (v := 0) hx hb dX4_isShare_23 (by decide) ?_
        exact e_i hx hb hr hlk hst rfl (by simp only [bShare, zB, c_2, c_7, c_11, not_true_eq_false, not_false_eq_true, decide_true, decide_false, Bool.true_and, Bool.false_and, Bool.and_true, Bool.and_false, Bool.and_self, if_true, if_false, ite_true, ite_false, reduceIte, Bool.false_eq_true]) dX4_isShare_24
      · skip
        refine lv_iload_n hx hb dX4_isShare_14 rfl (lv_at hl 0 rfl) ?_
        refine lv_iload_n hx hb dX4_isShare_15 rfl (lv_at hl 1 rfl) ?_
        refine lv_icmp_gt (tgt := 23) hx hb dX4_isShare_16 (by decide) (fun c_16 => ?_) (fun c_16 => ?_)
        · skip
          refine lv_iconst (v := 0) hx hb dX4_isShare_23 (by decide) ?_
          exact e_i hx hb hr hlk hst rfl (by simp only [bShare, zB, c_2, c_7, c_11, c_16, not_true_eq_false, not_false_eq_true, decide_true, decide_false, Bool.true_and, Bool.false_and, Bool.and_true, Bool.and_false, Bool.and_self, if_true, if_false, ite_true, ite_false, reduceIte, Bool.false_eq_true]) dX4_isShare_24
        · skip
          refine lv_iconst (v := 1) hx hb dX4_isShare_19 (by decide) ?_
          refine lv_goto (tgt := 24) hx hb dX4_isShare_20 (by decide) ?_
          exact e_i hx hb hr hlk hst rfl (by simp only [bShare, zB, c_2, c_7, c_11, c_16, not_true_eq_false, not_false_eq_true, decide_true, decide_false, Bool.true_and, Bool.false_and, Bool.and_true, Bool.and_false, Bool.and_self, if_true, if_false, ite_true, ite_false, reduceIte, Bool.false_eq_true]) dX4_isShare_24

set_option maxHeartbeats 4000000 in
set_option maxRecDepth 100000 in
theorem k_X3_isBehindLast {l : Launch} {D : va_G} {cy ad : Nat → Nat} {I : Im} {G : Dm} {J : Jm} (hadI : adI ad) {v : Int32} : kM l yX3_isBehindLast (.code yX3_isBehindLast cX3_isBehindLast 2 (some .boolean)) (rmK 0 0 0 0) D cy ad [.ref (ad 50), .int v] I G J (qI D cy ad (zB (decide (¬ v ≤ I 50 3))) I G J) := by
  refine start_M hadI (by decide +kernel) (Nat.le_of_ble_eq_true rfl) ?_
  intro p e s m below meth cd am hx hb hr hlk hst ls hl
  have hl : lv_has ls 2 [(0, .ref (ad 50)), (1, .int v)] := hl
  refine lv_iload_n hx hb dX3_isBehindLast_0 rfl (lv_at hl 1 rfl) ?_
  refine lv_aload_n hx hb dX3_isBehindLast_1 rfl (lv_at hl 0 rfl) ?_
  refine w_getI am hst (k := 3) (by decide) (fun _ _ _ => cE_50) rfl inT3 (by decide) (fun _ _ _ => rfl) fRX3_19 dX3_isBehindLast_2 ?_
  refine lv_icmp_le (tgt := 12) hx hb dX3_isBehindLast_5 (by decide) (fun c_5 => ?_) (fun c_5 => ?_)
  · skip
    refine lv_iconst (v := 0) hx hb dX3_isBehindLast_12 (by decide) ?_
    exact e_i hx hb hr hlk hst rfl (by simp only [zB, c_5, not_true_eq_false, not_false_eq_true, decide_true, decide_false, Bool.true_and, Bool.false_and, Bool.and_true, Bool.and_false, Bool.and_self, if_true, if_false, ite_true, ite_false, reduceIte, Bool.false_eq_true]) dX3_isBehindLast_13
  · skip
    refine lv_iconst (v := 1) hx hb dX3_isBehindLast_8 (by decide) ?_
    refine lv_goto (tgt := 13) hx hb dX3_isBehindLast_9 (by decide) ?_
    exact e_i hx hb hr hlk hst rfl (by simp only [zB, c_5, not_true_eq_false, not_false_eq_true, decide_true, decide_false, Bool.true_and, Bool.false_and, Bool.and_true, Bool.and_false, Bool.and_self, if_true, if_false, ite_true, ite_false, reduceIte, Bool.false_eq_true]) dX3_isBehindLast_13

set_option maxHeartbeats 4000000 in
set_option maxRecDepth 100000 in
theorem k_X3_isFull {l : Launch} {D : va_G} {cy ad : Nat → Nat} {I : Im} {G : Dm} {J : Jm} (hadI : adI ad)  : kM l yX3_isFull (.code yX3_isFull cX3_isFull 1 (some .boolean)) (rmK 0 0 0 0) D cy ad [.ref (ad 50)] I G J (qI D cy ad (zB (decide (¬ I 50 2 < 16))) I G J) := by
  refine start_M hadI (by decide +kernel) (Nat.le_of_ble_eq_true rfl) ?_
  intro p e s m below meth cd am hx hb hr hlk hst ls hl
  have hl : lv_has ls 1 [(0, .ref (ad 50))] := hl
  refine lv_aload_n hx hb dX3_isFull_0 rfl (lv_at hl 0 rfl) ?_
  refine w_getI am hst (k := 2) (by decide) (fun _ _ _ => cE_50) rfl inT3 (by decide) (fun _ _ _ => rfl) fRX3_23 dX3_isFull_1 ?_
  refine lv_bipush (v := 16) hx hb dX3_isFull_4 (by decide) ?_
  refine lv_icmp_lt (tgt := 13) hx hb dX3_isFull_6 (by decide) (fun c_6 => ?_) (fun c_6 => ?_)
  · skip
    refine lv_iconst (v := 0) hx hb dX3_isFull_13 (by decide) ?_
    exact e_i hx hb hr hlk hst rfl (by simp only [zB, c_6, not_true_eq_false, not_false_eq_true, decide_true, decide_false, Bool.true_and, Bool.false_and, Bool.and_true, Bool.and_false, Bool.and_self, if_true, if_false, ite_true, ite_false, reduceIte, Bool.false_eq_true]) dX3_isFull_14
  · skip
    refine lv_iconst (v := 1) hx hb dX3_isFull_9 (by decide) ?_
    refine lv_goto (tgt := 14) hx hb dX3_isFull_10 (by decide) ?_
    exact e_i hx hb hr hlk hst rfl (by simp only [zB, c_6, not_true_eq_false, not_false_eq_true, decide_true, decide_false, Bool.true_and, Bool.false_and, Bool.and_true, Bool.and_false, Bool.and_self, if_true, if_false, ite_true, ite_false, reduceIte, Bool.false_eq_true]) dX3_isFull_14

set_option maxHeartbeats 4000000 in
set_option maxRecDepth 100000 in
theorem k_X3_append {l : Launch} {D : va_G} {cy ad : Nat → Nat} {I : Im} {G : Dm} {J : Jm} (hadI : adI ad) {v : Int32} {n : Nat} {x X : UInt64} (hn : I 50 2 = nI n) (hn2 : n < 16) (hxX : cn x = X) : kM l yX3_append (.code yX3_append cX3_append 4 (some .int)) (rmK 0 0 0 0) D cy ad [.ref (ad 50), .int v, .double x] I G J (qI D cy ad (nI (n + 1)) (u2 (u2 (u2 I 51 n v) 50 3 v) 50 2 (nI (n + 1))) (u2 G 52 n X) J) := by
  refine start_M hadI (by decide +kernel) (Nat.le_of_ble_eq_true rfl) ?_
  intro p e s m below meth cd am hx hb hr hlk hst ls hl
  have hl : lv_has ls 4 [(0, .ref (ad 50)), (1, .int v), (2, .double x)] := hl
  refine lv_aload_n hx hb dX3_append_0 rfl (lv_at hl 0 rfl) ?_
  refine w_getR am hst (k := 0) (b := ad 51) (by decide) (fun _ _ _ => cE_50) rfl inT3 (by decide) (fun _ _ _ => rfl) fRX3_9 dX3_append_1 ?_
  refine lv_aload_n hx hb dX3_append_4 rfl (lv_at hl 0 rfl) ?_
  refine w_getI am hst (k := 2) (by decide) (fun _ _ _ => cE_50) rfl inT3 (by decide) (fun _ _ _ => rfl) fRX3_23 dX3_append_5 ?_
  rw [hn]
  refine lv_iload_n hx hb dX3_append_8 rfl (lv_at hl 1 rfl) ?_
  refine w_iast am hst (by decide) (fun _ _ _ => cE_51) (n := n) (nI_clamp (by omega)) (vp_in_nI (by omega) (by decide)) dX3_append_9 (fun H locs hst => ?_)
  refine lv_aload_n hx hb dX3_append_10 rfl (lv_at hl 0 rfl) ?_
  refine w_getR am hst (k := 1) (b := ad 52) (by decide) (fun _ _ _ => cE_50) rfl inT3 (by decide) (fun _ _ _ => rfl) fRX3_15 dX3_append_11 ?_
  refine lv_aload_n hx hb dX3_append_14 rfl (lv_at hl 0 rfl) ?_
  refine w_getI am hst (k := 2) (by decide) (fun _ _ _ => cE_50) rfl inT3 (by decide) (fun _ _ _ => rfl) fRX3_23 dX3_append_15 ?_
  rw [show u2 I 51 n v 50 2 = nI n from (u2_ne (by omega)).trans hn]
  refine lv_dload_n hx hb dX3_append_18 rfl (lv_at hl 2 rfl) ?_
  refine w_dast am hst hxX (by decide) (fun _ _ _ => cE_52) (n := n) (nI_clamp (by omega)) (vp_in_nI (by omega) (by decide)) dX3_append_19 (fun H locs hst => ?_)
  refine lv_aload_n hx hb dX3_append_20 rfl (lv_at hl 0 rfl) ?_
  refine lv_iload_n hx hb dX3_append_21 rfl (lv_at hl 1 rfl) ?_
  refine w_putI am hst (k := 3) (by decide) (fun _ _ _ => cE_50) rfl inT3 tyX3 tyX3_ok nmX3 (by decide) fRX3_19 (fun _ _ _ => rfl) (fun _ _ _ => Nat.le_of_ble_eq_true rfl) rfl rfl rfl rfl dX3_append_22 (fun H locs hst => ?_)
  refine lv_aload_n hx hb dX3_append_25 rfl (lv_at hl 0 rfl) ?_
  refine lv_dup hx hb dX3_append_26 rfl ?_
  refine w_getI am hst (k := 2) (by decide) (fun _ _ _ => cE_50) rfl inT3 (by decide) (fun _ _ _ => rfl) fRX3_23 dX3_append_27 ?_
  rw [show u2 (u2 I 51 n v) 50 3 v 50 2 = nI n from (u2_ne (by omega)).trans ((u2_ne (by omega)).trans hn)]
  refine lv_iconst (v := 1) hx hb dX3_append_30 (by decide) ?_
  refine lv_iadd hx hb dX3_append_31 ?_
  rw [nI_1]
  refine w_putI am hst (k := 2) (by decide) (fun _ _ _ => cE_50) rfl inT3 tyX3 tyX3_ok nmX3 (by decide) fRX3_23 (fun _ _ _ => rfl) (fun _ _ _ => Nat.le_of_ble_eq_true rfl) rfl rfl rfl rfl dX3_append_32 (fun H locs hst => ?_)
  refine lv_aload_n hx hb dX3_append_35 rfl (lv_at hl 0 rfl) ?_
  refine w_getI am hst (k := 2) (by decide) (fun _ _ _ => cE_50) rfl inT3 (by decide) (fun _ _ _ => rfl) fRX3_23 dX3_append_36 ?_
  exact e_i hx hb hr hlk hst rfl (u2_eq _ _ _ _) dX3_append_39

