/-! the public methods of the class: what they answer and what they throw -/
def prC (I : Im) (G : Dm) (X : UInt64) (i : Nat) : Bool := decide (¬ I (2 + i) 5 = 0) && (decide (I (2 + i) 6 = 0) && decide (¬ 0 ≤ Op.cmpValue (FP.dcmp (G (2 + i) 4) X) CmpOp.g))
def prI (I : Im) (G : Dm) (X : UInt64) : Nat → Im | 0 => I | i + 1 => if prC (prI I G X i) G X i = true then u2 (prI I G X i) (2 + i) 6 1 else prI I G X i
def prN (I : Im) (G : Dm) (X : UInt64) : Nat → Nat | 0 => 0 | i + 1 => if prC (prI I G X i) G X i = true then prN I G X i + 1 else prN I G X i
def stF (I : Im) (G : Dm) (L : UInt64) (a b : Int32) : Nat → Nat → Int32 | 0, _ => -1 | n + 1, i => if enR I G (Dv (FP.i2d (nI i)) 4616189618054758400) L a b = true then nI i else stF I G L a b n (i + 1)
def l2dC (x : Int64) : UInt64 := cn (FP.l2d x)
theorem w_l2d {p : Program} {l : Launch} {e : Env} {R : Room} {s : State} {m : MethodId} {args : Array Value} {below : List Frame} {meth : Method} {c : Code} {H : Heap} {locs : List Loc} {cells slots : Nat} {Q : State → Prop} {cc : ByteArray} {d0 : Drawn} {pc : Nat} {ls : Array Slot} {rest : List Value} (hx : p.tables.exec = Jvm.exec) (hb : c.code = cc) {x : Int64} (hdg : decode cc pc = .ok (.l2d, 1))
    (kk : ∀ v : UInt64, cn v = l2dC x → W p l e R (s.setDrawn d0) m args below meth c H locs cells slots Q (F0 m (pc + 1) ls (.double v :: rest))) :
    W p l e R (s.setDrawn d0) m args below meth c H locs cells slots Q (F0 m pc ls (.long x :: rest)) := lv_l2d hx hb hdg (kk _ rfl)
set_option maxHeartbeats 4000000 in
set_option maxRecDepth 100000 in
theorem k_X4_board {l : Launch} {D : va_G} {cy ad : Nat → Nat} {I : Im} {G : Dm} {J : Jm} (hadI : adI ad) {n : Nat} (hn : I 0 2 = nI n) (hn2 : n < 32) : kM l yX4_board (.code yX4_board cX4_board 1 (some .int)) (rmK 0 0 0 0) D cy ad [.ref (ad 0)] I G J (qI D cy ad (nI n) (u2 I 0 2 (nI (n + 1))) G J) := by
  refine start_M hadI (by decide +kernel) (Nat.le_of_ble_eq_true rfl) ?_
  intro p e s m below meth cd am hx hb hr hlk hst ls hl
  have hl : lv_has ls 1 [(0, .ref (ad 0))] := hl
  refine lv_aload_n hx hb dX4_board_0 rfl (lv_at hl 0 rfl) ?_
  refine w_getI am hst (k := 2) (by decide) (fun _ _ _ => cE_S) rfl inT4 (by decide) (fun _ _ _ => rfl) fRX4_50 dX4_board_1 ?_
  rw [hn]
  refine lv_bipush (v := 32) hx hb dX4_board_4 (by decide) ?_
  refine lv_icmp_lt (tgt := 19) hx hb dX4_board_6 (by decide) (fun c_6 => ?_) (fun c_6 => absurd ((nI_lt (b := 32) hn2 (by omega))) c_6)
  refine lv_aload_n hx hb dX4_board_19 rfl (lv_at hl 0 rfl) ?_
  refine lv_dup hx hb dX4_board_20 rfl ?_
  refine w_getI am hst (k := 2) (by decide) (fun _ _ _ => cE_S) rfl inT4 (by decide) (fun _ _ _ => rfl) fRX4_50 dX4_board_21 ?_
  rw [hn]
  refine lv_iconst (v := 1) hx hb dX4_board_24 (by decide) ?_
  refine lv_iadd hx hb dX4_board_25 ?_
  rw [nI_1]
  refine w_putI am hst (k := 2) (by decide) (fun _ _ _ => cE_S) rfl inT4 tyX4 tyX4_ok nmX4 (by decide) fRX4_50 (fun _ _ _ => rfl) (fun _ _ _ => Nat.le_of_ble_eq_true rfl) rfl rfl rfl rfl dX4_board_26 (fun H locs hst => ?_)
  refine lv_aload_n hx hb dX4_board_29 rfl (lv_at hl 0 rfl) ?_
  refine w_getI am hst (k := 2) (by decide) (fun _ _ _ => cE_S) rfl inT4 (by decide) (fun _ _ _ => rfl) fRX4_50 dX4_board_30 ?_
  rw [u2_eq]
  refine lv_iconst (v := 1) hx hb dX4_board_33 (by decide) ?_
  refine lv_isub hx hb dX4_board_34 ?_
  rw [nI_pred]
  exact e_i hx hb hr hlk hst rfl rfl dX4_board_35

set_option maxHeartbeats 4000000 in
set_option maxRecDepth 100000 in
theorem x_X4_board {l : Launch} {D : va_G} {cy ad : Nat → Nat} {I : Im} {G : Dm} {J : Jm} (hadI : adI ad) (hno : l.stackTraces = false) (hv : ¬ I 0 2 < 32) : kX l yX4_board (.code yX4_board cX4_board 1 (some .int)) (rmK 6 1 6 90) D cy ad [.ref (ad 0)] I G J xISE := by
  refine start_X hadI (by decide +kernel) (Nat.le_of_ble_eq_true rfl) ?_
  intro p e s m below meth cd am hx hb hout hlk hst ls hl
  have hl : lv_has ls 1 [(0, .ref (ad 0))] := hl
  refine lv_aload_n hx hb dX4_board_0 rfl (lv_at hl 0 rfl) ?_
  refine w_getI am hst (k := 2) (by decide) (fun _ _ _ => cE_S) rfl inT4 (by decide) (fun _ _ _ => rfl) fRX4_50 dX4_board_1 ?_
  refine lv_bipush (v := 32) hx hb dX4_board_4 (by decide) ?_
  refine lv_icmp_lt (tgt := 19) hx hb dX4_board_6 (by decide) (fun c_6 => absurd c_6 hv) (fun c_6 => ?_)
  exact x_throw (text := "no room for a board") hno am hst hout hlk hl tx_ISE tg_ISE rfl (by decide) dX4_board_9 dX4_board_12 dX4_board_13 dX4_board_15 dX4_board_18 (Nat.le_of_ble_eq_true rfl) (Nat.le_of_ble_eq_true rfl) (Nat.le_of_ble_eq_true rfl) (Nat.le_of_ble_eq_true rfl) (Nat.le_of_ble_eq_true rfl) (Nat.le_of_ble_eq_true rfl)

set_option maxHeartbeats 4000000 in
set_option maxRecDepth 100000 in
theorem k_X4_row {l : Launch} {D : va_G} {cy ad : Nat → Nat} {I : Im} {G : Dm} {J : Jm} (hadI : adI ad) {n k : Nat} (hn : I 0 2 = nI n) (hk : k < n) (hn2 : n ≤ 32) {r : Nat} {x X : UInt64} (hxX : cn x = X) (hin : bIn X 0 1000 = true) (hrc : I (2 + k) 0 = nI r) (hr8 : r < 8) : kD l yX4_row (.code yX4_row cX4_row 5 (some .int)) (rmK 1 0 0 23) D cy ad [.ref (ad 0), .int (nI k), .double x] I G J (qI D cy ad (nI (r + 1)) (u2 I (2 + k) 0 (nI (r + 1))) (u2 G (2 + k) 1 (Ad (G (2 + k) 1) X)) J) := by
  refine start_D hadI (by decide +kernel) (Nat.le_of_ble_eq_true rfl) ?_
  intro p e s m below meth cd am hx hb hr hlk hst ls hl d0 hd
  have hl : lv_has ls 5 [(0, .ref (ad 0)), (1, .int (nI k)), (2, .double x)] := hl
  refine lv_aload_n hx hb dX4_row_0 rfl (lv_at hl 0 rfl) ?_
  refine lv_iload_n hx hb dX4_row_1 rfl (lv_at hl 1 rfl) ?_
  refine c_r hst (r_V (As := [.int (nI k)]) (rest := []) am hst hl (k_X4_boardAt hadI hn hk hn2) kRX4_60 imX4_boardAt slX4_boardAt ⟨Nat.le_of_ble_eq_true rfl, Nat.le_of_ble_eq_true rfl⟩ (by decide) (fun _ _ _ => cE_S) rfl rfl rfl (Nat.le_of_ble_eq_true rfl) dX4_row_2 ⟨Nat.le_of_ble_eq_true rfl, Nat.le_of_ble_eq_true rfl⟩) (fun H locs hst => ?_)
  refine lv_astore (lv' := [(4, .ref (ad (2 + k))), (0, .ref (ad 0)), (1, .int (nI k)), (2, .double x)]) hx hb dX4_row_5 hl (by decide) rfl (fun ls hl => ?_)
  refine lv_dload_n hx hb dX4_row_7 rfl (lv_at hl 3 rfl) ?_
  refine lv_iconst (v := 0) hx hb dX4_row_8 (by decide) ?_
  refine lv_sipush (v := 1000) hx hb dX4_row_9 (by decide) ?_
  refine c_i hst (r_S (As := [.double x, .int 0, .int 1000]) (rest := []) am hst hl (k_X4_isWithin hadI hxX) kRX4_64 smX4_isWithin ⟨Nat.le_of_ble_eq_true rfl, Nat.le_of_ble_eq_true rfl⟩ rfl rfl (Nat.le_of_ble_eq_true rfl) dX4_row_12 ⟨Nat.le_of_ble_eq_true rfl, Nat.le_of_ble_eq_true rfl⟩) (fun H locs hst => ?_)
  refine c_v hst (r_S (As := [.int (zB (bIn X 0 1000))]) (rest := []) am hst hl (k_X4_need hadI (zB_n0.mpr hin)) kRX4_68 smX4_need ⟨Nat.le_of_ble_eq_true rfl, Nat.le_of_ble_eq_true rfl⟩ rfl rfl (Nat.le_of_ble_eq_true rfl) dX4_row_15 ⟨Nat.le_of_ble_eq_true rfl, Nat.le_of_ble_eq_true rfl⟩) (fun H locs hst => ?_)
  refine lv_aload hx hb dX4_row_18 (lv_at hl 0 rfl) ?_
  refine w_getIN am hst (k := 0) (by omega) (fun _ _ _ => cE_B (show 2 ≤ 2 + k ∧ 2 + k < 34 by omega)) rfl inT0 (by decide) (fun _ _ _ => rfl) fRX4_72 dX4_row_20 ?_
  rw [hrc]
  refine lv_bipush (v := 8) hx hb dX4_row_23 (by decide) ?_
  refine lv_icmp_lt (tgt := 38) hx hb dX4_row_25 (by decide) (fun c_25 => ?_) (fun c_25 => absurd ((nI_lt (b := 8) hr8 (by omega))) c_25)
  refine lv_aload hx hb dX4_row_38 (lv_at hl 0 rfl) ?_
  refine lv_aload hx hb dX4_row_40 (lv_at hl 0 rfl) ?_
  refine w_getDN am hst (k := 1) (by omega) (fun _ _ _ => cE_B (show 2 ≤ 2 + k ∧ 2 + k < 34 by omega)) rfl inT0 (by decide) (fun _ _ _ => rfl) fRX4_77 dX4_row_42 (fun x1 hx1 => ?_)
  refine lv_dload_n hx hb dX4_row_45 rfl (lv_at hl 3 rfl) ?_
  refine w_dadd hd hx hb hx1 hxX dX4_row_46 (fun x2 d0 hx2 hd => ?_)
  refine w_putDN am hst (k := 1) hx2 (by omega) (fun _ _ _ => cE_B (show 2 ≤ 2 + k ∧ 2 + k < 34 by omega)) rfl inT0 tyX0 tyX0_ok nmX0 (by decide) fRX4_77 (fun _ _ _ => rfl) (fun _ _ _ => Nat.le_of_ble_eq_true rfl) rfl rfl dX4_row_47 (fun H locs hst => ?_)
  refine lv_aload hx hb dX4_row_50 (lv_at hl 0 rfl) ?_
  refine lv_dup hx hb dX4_row_52 rfl ?_
  refine w_getIN am hst (k := 0) (by omega) (fun _ _ _ => cE_B (show 2 ≤ 2 + k ∧ 2 + k < 34 by omega)) rfl inT0 (by decide) (fun _ _ _ => rfl) fRX4_72 dX4_row_53 ?_
  rw [hrc]
  refine lv_iconst (v := 1) hx hb dX4_row_56 (by decide) ?_
  refine lv_iadd hx hb dX4_row_57 ?_
  rw [nI_1]
  refine w_putIN am hst (k := 0) (by omega) (fun _ _ _ => cE_B (show 2 ≤ 2 + k ∧ 2 + k < 34 by omega)) rfl inT0 tyX0 tyX0_ok nmX0 (by decide) fRX4_72 (fun _ _ _ => rfl) (fun _ _ _ => Nat.le_of_ble_eq_true rfl) rfl rfl rfl rfl dX4_row_58 (fun H locs hst => ?_)
  refine lv_aload hx hb dX4_row_61 (lv_at hl 0 rfl) ?_
  refine w_getIN am hst (k := 0) (by omega) (fun _ _ _ => cE_B (show 2 ≤ 2 + k ∧ 2 + k < 34 by omega)) rfl inT0 (by decide) (fun _ _ _ => rfl) fRX4_72 dX4_row_63 ?_
  exact e_iD hd hx hb hr hlk hst rfl (u2_eq _ _ _ _) dX4_row_66

set_option maxHeartbeats 4000000 in
set_option maxRecDepth 100000 in
theorem x1_X4_row {l : Launch} {D : va_G} {cy ad : Nat → Nat} {I : Im} {G : Dm} {J : Jm} (hadI : adI ad) (hno : l.stackTraces = false) {v : Int32} (hv : v < 0 ∨ ¬ v < I 0 2) {x : UInt64} : kX l yX4_row (.code yX4_row cX4_row 5 (some .int)) (rmK 7 1 6 111) D cy ad [.ref (ad 0), .int v, .double x] I G J xIOOBE := by
  refine start_X hadI (by decide +kernel) (Nat.le_of_ble_eq_true rfl) ?_
  intro p e s m below meth cd am hx hb hout hlk hst ls hl
  have hl : lv_has ls 5 [(0, .ref (ad 0)), (1, .int v), (2, .double x)] := hl
  refine lv_aload_n hx hb dX4_row_0 rfl (lv_at hl 0 rfl) ?_
  refine lv_iload_n hx hb dX4_row_1 rfl (lv_at hl 1 rfl) ?_
  exact x_call hst hout hlk (Nat.le_of_ble_eq_true rfl) (Nat.le_of_ble_eq_true rfl) (r_VX (As := [.int v]) (rest := []) am hst hl (x_X4_boardAt hadI hno hv) kRX4_60 imX4_boardAt slX4_boardAt ⟨rfl, rfl⟩ ⟨Nat.le_of_ble_eq_true rfl, Nat.le_of_ble_eq_true rfl⟩ (by decide) (fun _ _ _ => cE_S) rfl rfl rfl (Nat.le_of_ble_eq_true rfl) dX4_row_2 ⟨Nat.le_of_ble_eq_true rfl, Nat.le_of_ble_eq_true rfl⟩)

set_option maxHeartbeats 4000000 in
set_option maxRecDepth 100000 in
theorem x2_X4_row {l : Launch} {D : va_G} {cy ad : Nat → Nat} {I : Im} {G : Dm} {J : Jm} (hadI : adI ad) (hno : l.stackTraces = false) {n k : Nat} (hn : I 0 2 = nI n) (hk : k < n) (hn2 : n ≤ 32) {x X : UInt64} (hxX : cn x = X) (hin : bIn X 0 1000 = false) : kX l yX4_row (.code yX4_row cX4_row 5 (some .int)) (rmK 7 1 6 111) D cy ad [.ref (ad 0), .int (nI k), .double x] I G J xIAE := by
  refine start_X hadI (by decide +kernel) (Nat.le_of_ble_eq_true rfl) ?_
  intro p e s m below meth cd am hx hb hout hlk hst ls hl
  have hl : lv_has ls 5 [(0, .ref (ad 0)), (1, .int (nI k)), (2, .double x)] := hl
  refine lv_aload_n hx hb dX4_row_0 rfl (lv_at hl 0 rfl) ?_
  refine lv_iload_n hx hb dX4_row_1 rfl (lv_at hl 1 rfl) ?_
  refine c_r hst (r_V (As := [.int (nI k)]) (rest := []) am hst hl (k_X4_boardAt hadI hn hk hn2) kRX4_60 imX4_boardAt slX4_boardAt ⟨Nat.le_of_ble_eq_true rfl, Nat.le_of_ble_eq_true rfl⟩ (by decide) (fun _ _ _ => cE_S) rfl rfl rfl (Nat.le_of_ble_eq_true rfl) dX4_row_2 ⟨Nat.le_of_ble_eq_true rfl, Nat.le_of_ble_eq_true rfl⟩) (fun H locs hst => ?_)
  refine lv_astore (lv' := [(4, .ref (ad (2 + k))), (0, .ref (ad 0)), (1, .int (nI k)), (2, .double x)]) hx hb dX4_row_5 hl (by decide) rfl (fun ls hl => ?_)
  refine lv_dload_n hx hb dX4_row_7 rfl (lv_at hl 3 rfl) ?_
  refine lv_iconst (v := 0) hx hb dX4_row_8 (by decide) ?_
  refine lv_sipush (v := 1000) hx hb dX4_row_9 (by decide) ?_
  refine c_i hst (r_S (As := [.double x, .int 0, .int 1000]) (rest := []) am hst hl (k_X4_isWithin hadI hxX) kRX4_64 smX4_isWithin ⟨Nat.le_of_ble_eq_true rfl, Nat.le_of_ble_eq_true rfl⟩ rfl rfl (Nat.le_of_ble_eq_true rfl) dX4_row_12 ⟨Nat.le_of_ble_eq_true rfl, Nat.le_of_ble_eq_true rfl⟩) (fun H locs hst => ?_)
  exact x_call hst hout hlk (Nat.le_of_ble_eq_true rfl) (Nat.le_of_ble_eq_true rfl) (r_SX (As := [.int (zB (bIn X 0 1000))]) (rest := []) am hst hl (x_X4_need hadI hno (zB_0.mpr hin)) kRX4_68 smX4_need ⟨rfl, rfl⟩ ⟨Nat.le_of_ble_eq_true rfl, Nat.le_of_ble_eq_true rfl⟩ rfl rfl (Nat.le_of_ble_eq_true rfl) dX4_row_15 ⟨Nat.le_of_ble_eq_true rfl, Nat.le_of_ble_eq_true rfl⟩)

set_option maxHeartbeats 4000000 in
set_option maxRecDepth 100000 in
theorem x3_X4_row {l : Launch} {D : va_G} {cy ad : Nat → Nat} {I : Im} {G : Dm} {J : Jm} (hadI : adI ad) (hno : l.stackTraces = false) {n k : Nat} (hn : I 0 2 = nI n) (hk : k < n) (hn2 : n ≤ 32) {x X : UInt64} (hxX : cn x = X) (hin : bIn X 0 1000 = true) (hr8 : ¬ I (2 + k) 0 < 8) : kX l yX4_row (.code yX4_row cX4_row 5 (some .int)) (rmK 7 1 6 111) D cy ad [.ref (ad 0), .int (nI k), .double x] I G J xISE := by
  refine start_X hadI (by decide +kernel) (Nat.le_of_ble_eq_true rfl) ?_
  intro p e s m below meth cd am hx hb hout hlk hst ls hl
  have hl : lv_has ls 5 [(0, .ref (ad 0)), (1, .int (nI k)), (2, .double x)] := hl
  refine lv_aload_n hx hb dX4_row_0 rfl (lv_at hl 0 rfl) ?_
  refine lv_iload_n hx hb dX4_row_1 rfl (lv_at hl 1 rfl) ?_
  refine c_r hst (r_V (As := [.int (nI k)]) (rest := []) am hst hl (k_X4_boardAt hadI hn hk hn2) kRX4_60 imX4_boardAt slX4_boardAt ⟨Nat.le_of_ble_eq_true rfl, Nat.le_of_ble_eq_true rfl⟩ (by decide) (fun _ _ _ => cE_S) rfl rfl rfl (Nat.le_of_ble_eq_true rfl) dX4_row_2 ⟨Nat.le_of_ble_eq_true rfl, Nat.le_of_ble_eq_true rfl⟩) (fun H locs hst => ?_)
  refine lv_astore (lv' := [(4, .ref (ad (2 + k))), (0, .ref (ad 0)), (1, .int (nI k)), (2, .double x)]) hx hb dX4_row_5 hl (by decide) rfl (fun ls hl => ?_)
  refine lv_dload_n hx hb dX4_row_7 rfl (lv_at hl 3 rfl) ?_
  refine lv_iconst (v := 0) hx hb dX4_row_8 (by decide) ?_
  refine lv_sipush (v := 1000) hx hb dX4_row_9 (by decide) ?_
  refine c_i hst (r_S (As := [.double x, .int 0, .int 1000]) (rest := []) am hst hl (k_X4_isWithin hadI hxX) kRX4_64 smX4_isWithin ⟨Nat.le_of_ble_eq_true rfl, Nat.le_of_ble_eq_true rfl⟩ rfl rfl (Nat.le_of_ble_eq_true rfl) dX4_row_12 ⟨Nat.le_of_ble_eq_true rfl, Nat.le_of_ble_eq_true rfl⟩) (fun H locs hst => ?_)
  refine c_v hst (r_S (As := [.int (zB (bIn X 0 1000))]) (rest := []) am hst hl (k_X4_need hadI (zB_n0.mpr hin)) kRX4_68 smX4_need ⟨Nat.le_of_ble_eq_true rfl, Nat.le_of_ble_eq_true rfl⟩ rfl rfl (Nat.le_of_ble_eq_true rfl) dX4_row_15 ⟨Nat.le_of_ble_eq_true rfl, Nat.le_of_ble_eq_true rfl⟩) (fun H locs hst => ?_)
  refine lv_aload hx hb dX4_row_18 (lv_at hl 0 rfl) ?_
  refine w_getIN am hst (k := 0) (by omega) (fun _ _ _ => cE_B (show 2 ≤ 2 + k ∧ 2 + k < 34 by omega)) rfl inT0 (by decide) (fun _ _ _ => rfl) fRX4_72 dX4_row_20 ?_
  refine lv_bipush (v := 8) hx hb dX4_row_23 (by decide) ?_
  refine lv_icmp_lt (tgt := 38) hx hb dX4_row_25 (by decide) (fun c_25 => absurd c_25 hr8) (fun c_25 => ?_)
  exact x_throw (text := "no room for a row") hno am hst hout hlk hl tx_ISE tg_ISE rfl (by decide) dX4_row_28 dX4_row_31 dX4_row_32 dX4_row_34 dX4_row_37 (Nat.le_of_ble_eq_true rfl) (Nat.le_of_ble_eq_true rfl) (Nat.le_of_ble_eq_true rfl) (Nat.le_of_ble_eq_true rfl) (Nat.le_of_ble_eq_true rfl) (Nat.le_of_ble_eq_true rfl)

set_option maxHeartbeats 4000000 in
set_option maxRecDepth 100000 in
theorem k_X4_echo {l : Launch} {D : va_G} {cy ad : Nat → Nat} {I : Im} {G : Dm} {J : Jm} (hadI : adI ad) {n k : Nat} (hn : I 0 2 = nI n) (hk : k < n) (hn2 : n ≤ 32) {x X y Y : UInt64} (hxX : cn x = X) (hyY : cn y = Y) (hin1 : bIn X 0 100 = true) (hin2 : bIn Y 0 10 = true) : kD l yX4_echo (.code yX4_echo cX4_echo 7 none) (rmK 1 0 0 23) D cy ad [.ref (ad 0), .int (nI k), .double x, .double y] I G J (qV D cy ad I (u2 G (2 + k) 2 (Mu (Mu Y X) X)) J) := by
  refine start_D hadI (by decide +kernel) (Nat.le_of_ble_eq_true rfl) ?_
  intro p e s m below meth cd am hx hb hr hlk hst ls hl d0 hd
  have hl : lv_has ls 7 [(0, .ref (ad 0)), (1, .int (nI k)), (2, .double x), (4, .double y)] := hl
  refine lv_aload_n hx hb dX4_echo_0 rfl (lv_at hl 0 rfl) ?_
  refine lv_iload_n hx hb dX4_echo_1 rfl (lv_at hl 1 rfl) ?_
  refine c_r hst (r_V (As := [.int (nI k)]) (rest := []) am hst hl (k_X4_boardAt hadI hn hk hn2) kRX4_60 imX4_boardAt slX4_boardAt ⟨Nat.le_of_ble_eq_true rfl, Nat.le_of_ble_eq_true rfl⟩ (by decide) (fun _ _ _ => cE_S) rfl rfl rfl (Nat.le_of_ble_eq_true rfl) dX4_echo_2 ⟨Nat.le_of_ble_eq_true rfl, Nat.le_of_ble_eq_true rfl⟩) (fun H locs hst => ?_)
  refine lv_astore (lv' := [(6, .ref (ad (2 + k))), (0, .ref (ad 0)), (1, .int (nI k)), (2, .double x), (4, .double y)]) hx hb dX4_echo_5 hl (by decide) rfl (fun ls hl => ?_)
  refine lv_dload_n hx hb dX4_echo_7 rfl (lv_at hl 3 rfl) ?_
  refine lv_iconst (v := 0) hx hb dX4_echo_8 (by decide) ?_
  refine lv_bipush (v := 100) hx hb dX4_echo_9 (by decide) ?_
  refine c_i hst (r_S (As := [.double x, .int 0, .int 100]) (rest := []) am hst hl (k_X4_isWithin hadI hxX) kRX4_64 smX4_isWithin ⟨Nat.le_of_ble_eq_true rfl, Nat.le_of_ble_eq_true rfl⟩ rfl rfl (Nat.le_of_ble_eq_true rfl) dX4_echo_11 ⟨Nat.le_of_ble_eq_true rfl, Nat.le_of_ble_eq_true rfl⟩) (fun H locs hst => ?_)
  refine lv_if_eq (tgt := 32) hx hb dX4_echo_14 (by decide) (fun c_14 => absurd c_14 (zB_n0.mpr hin1)) (fun c_14 => ?_)
  refine lv_dload hx hb dX4_echo_17 (lv_at hl 4 rfl) ?_
  refine lv_iconst (v := 0) hx hb dX4_echo_19 (by decide) ?_
  refine lv_bipush (v := 10) hx hb dX4_echo_20 (by decide) ?_
  refine c_i hst (r_S (As := [.double y, .int 0, .int 10]) (rest := []) am hst hl (k_X4_isWithin hadI hyY) kRX4_64 smX4_isWithin ⟨Nat.le_of_ble_eq_true rfl, Nat.le_of_ble_eq_true rfl⟩ rfl rfl (Nat.le_of_ble_eq_true rfl) dX4_echo_22 ⟨Nat.le_of_ble_eq_true rfl, Nat.le_of_ble_eq_true rfl⟩) (fun H locs hst => ?_)
  refine lv_if_eq (tgt := 32) hx hb dX4_echo_25 (by decide) (fun c_25 => absurd c_25 (zB_n0.mpr hin2)) (fun c_25 => ?_)
  refine lv_iconst (v := 1) hx hb dX4_echo_28 (by decide) ?_
  refine lv_goto (tgt := 33) hx hb dX4_echo_29 (by decide) ?_
  refine c_v hst (r_S (As := [.int 1]) (rest := []) am hst hl (k_X4_need hadI (by decide)) kRX4_68 smX4_need ⟨Nat.le_of_ble_eq_true rfl, Nat.le_of_ble_eq_true rfl⟩ rfl rfl (Nat.le_of_ble_eq_true rfl) dX4_echo_33 ⟨Nat.le_of_ble_eq_true rfl, Nat.le_of_ble_eq_true rfl⟩) (fun H locs hst => ?_)
  refine lv_aload hx hb dX4_echo_36 (lv_at hl 0 rfl) ?_
  refine lv_dload hx hb dX4_echo_38 (lv_at hl 4 rfl) ?_
  refine lv_dload_n hx hb dX4_echo_40 rfl (lv_at hl 3 rfl) ?_
  refine w_dmul hd hx hb hyY hxX dX4_echo_41 (fun x1 d0 hx1 hd => ?_)
  refine lv_dload_n hx hb dX4_echo_42 rfl (lv_at hl 3 rfl) ?_
  refine w_dmul hd hx hb hx1 hxX dX4_echo_43 (fun x2 d0 hx2 hd => ?_)
  refine w_putDN am hst (k := 2) hx2 (by omega) (fun _ _ _ => cE_B (show 2 ≤ 2 + k ∧ 2 + k < 34 by omega)) rfl inT0 tyX0 tyX0_ok nmX0 (by decide) fRX4_81 (fun _ _ _ => rfl) (fun _ _ _ => Nat.le_of_ble_eq_true rfl) rfl rfl dX4_echo_44 (fun H locs hst => ?_)
  exact e_vD hd hx hb hr hlk hst dX4_echo_47

set_option maxHeartbeats 4000000 in
set_option maxRecDepth 100000 in
theorem x1_X4_echo {l : Launch} {D : va_G} {cy ad : Nat → Nat} {I : Im} {G : Dm} {J : Jm} (hadI : adI ad) (hno : l.stackTraces = false) {v : Int32} (hv : v < 0 ∨ ¬ v < I 0 2) {x y : UInt64} : kX l yX4_echo (.code yX4_echo cX4_echo 7 none) (rmK 7 1 6 111) D cy ad [.ref (ad 0), .int v, .double x, .double y] I G J xIOOBE := by
  refine start_X hadI (by decide +kernel) (Nat.le_of_ble_eq_true rfl) ?_
  intro p e s m below meth cd am hx hb hout hlk hst ls hl
  have hl : lv_has ls 7 [(0, .ref (ad 0)), (1, .int v), (2, .double x), (4, .double y)] := hl
  refine lv_aload_n hx hb dX4_echo_0 rfl (lv_at hl 0 rfl) ?_
  refine lv_iload_n hx hb dX4_echo_1 rfl (lv_at hl 1 rfl) ?_
  exact x_call hst hout hlk (Nat.le_of_ble_eq_true rfl) (Nat.le_of_ble_eq_true rfl) (r_VX (As := [.int v]) (rest := []) am hst hl (x_X4_boardAt hadI hno hv) kRX4_60 imX4_boardAt slX4_boardAt ⟨rfl, rfl⟩ ⟨Nat.le_of_ble_eq_true rfl, Nat.le_of_ble_eq_true rfl⟩ (by decide) (fun _ _ _ => cE_S) rfl rfl rfl (Nat.le_of_ble_eq_true rfl) dX4_echo_2 ⟨Nat.le_of_ble_eq_true rfl, Nat.le_of_ble_eq_true rfl⟩)

set_option maxHeartbeats 4000000 in
set_option maxRecDepth 100000 in
theorem x2_X4_echo {l : Launch} {D : va_G} {cy ad : Nat → Nat} {I : Im} {G : Dm} {J : Jm} (hadI : adI ad) (hno : l.stackTraces = false) {n k : Nat} (hn : I 0 2 = nI n) (hk : k < n) (hn2 : n ≤ 32) {x X y Y : UInt64} (hxX : cn x = X) (hyY : cn y = Y) (hin : (bIn X 0 100 && bIn Y 0 10) = false) : kX l yX4_echo (.code yX4_echo cX4_echo 7 none) (rmK 7 1 6 111) D cy ad [.ref (ad 0), .int (nI k), .double x, .double y] I G J xIAE := by
  refine start_X hadI (by decide +kernel) (Nat.le_of_ble_eq_true rfl) ?_
  intro p e s m below meth cd am hx hb hout hlk hst ls hl
  have hl : lv_has ls 7 [(0, .ref (ad 0)), (1, .int (nI k)), (2, .double x), (4, .double y)] := hl
  refine lv_aload_n hx hb dX4_echo_0 rfl (lv_at hl 0 rfl) ?_
  refine lv_iload_n hx hb dX4_echo_1 rfl (lv_at hl 1 rfl) ?_
  refine c_r hst (r_V (As := [.int (nI k)]) (rest := []) am hst hl (k_X4_boardAt hadI hn hk hn2) kRX4_60 imX4_boardAt slX4_boardAt ⟨Nat.le_of_ble_eq_true rfl, Nat.le_of_ble_eq_true rfl⟩ (by decide) (fun _ _ _ => cE_S) rfl rfl rfl (Nat.le_of_ble_eq_true rfl) dX4_echo_2 ⟨Nat.le_of_ble_eq_true rfl, Nat.le_of_ble_eq_true rfl⟩) (fun H locs hst => ?_)
  refine lv_astore (lv' := [(6, .ref (ad (2 + k))), (0, .ref (ad 0)), (1, .int (nI k)), (2, .double x), (4, .double y)]) hx hb dX4_echo_5 hl (by decide) rfl (fun ls hl => ?_)
  refine lv_dload_n hx hb dX4_echo_7 rfl (lv_at hl 3 rfl) ?_
  refine lv_iconst (v := 0) hx hb dX4_echo_8 (by decide) ?_
  refine lv_bipush (v := 100) hx hb dX4_echo_9 (by decide) ?_
  refine c_i hst (r_S (As := [.double x, .int 0, .int 100]) (rest := []) am hst hl (k_X4_isWithin hadI hxX) kRX4_64 smX4_isWithin ⟨Nat.le_of_ble_eq_true rfl, Nat.le_of_ble_eq_true rfl⟩ rfl rfl (Nat.le_of_ble_eq_true rfl) dX4_echo_11 ⟨Nat.le_of_ble_eq_true rfl, Nat.le_of_ble_eq_true rfl⟩) (fun H locs hst => ?_)
  refine lv_if_eq (tgt := 32) hx hb dX4_echo_14 (by decide) (fun c_14 => ?_) (fun c_14 => ?_)
  · skip
    refine lv_iconst (v := 0) hx hb dX4_echo_32 (by decide) ?_
    exact x_call hst hout hlk (Nat.le_of_ble_eq_true rfl) (Nat.le_of_ble_eq_true rfl) (r_SX (As := [.int 0]) (rest := []) am hst hl (x_X4_need hadI hno (rfl)) kRX4_68 smX4_need ⟨rfl, rfl⟩ ⟨Nat.le_of_ble_eq_true rfl, Nat.le_of_ble_eq_true rfl⟩ rfl rfl (Nat.le_of_ble_eq_true rfl) dX4_echo_33 ⟨Nat.le_of_ble_eq_true rfl, Nat.le_of_ble_eq_true rfl⟩)
  · skip
    refine lv_dload hx hb dX4_echo_17 (lv_at hl 4 rfl) ?_
    refine lv_iconst (v := 0) hx hb dX4_echo_19 (by decide) ?_
    refine lv_bipush (v := 10) hx hb dX4_echo_20 (by decide) ?_
    refine c_i hst (r_S (As := [.double y, .int 0, .int 10]) (rest := []) am hst hl (k_X4_isWithin hadI hyY) kRX4_64 smX4_isWithin ⟨Nat.le_of_ble_eq_true rfl, Nat.le_of_ble_eq_true rfl⟩ rfl rfl (Nat.le_of_ble_eq_true rfl) dX4_echo_22 ⟨Nat.le_of_ble_eq_true rfl, Nat.le_of_ble_eq_true rfl⟩) (fun H locs hst => ?_)
    refine lv_if_eq (tgt := 32) hx hb dX4_echo_25 (by decide) (fun c_25 => ?_) (fun c_25 => absurd ((by rw [zB_n0.mp c_14, Bool.true_and] at hin; exact zB_0.mpr hin)) c_25)
    refine lv_iconst (v := 0) hx hb dX4_echo_32 (by decide) ?_
    exact x_call hst hout hlk (Nat.le_of_ble_eq_true rfl) (Nat.le_of_ble_eq_true rfl) (r_SX (As := [.int 0]) (rest := []) am hst hl (x_X4_need hadI hno (rfl)) kRX4_68 smX4_need ⟨rfl, rfl⟩ ⟨Nat.le_of_ble_eq_true rfl, Nat.le_of_ble_eq_true rfl⟩ rfl rfl (Nat.le_of_ble_eq_true rfl) dX4_echo_33 ⟨Nat.le_of_ble_eq_true rfl, Nat.le_of_ble_eq_true rfl⟩)

set_option maxHeartbeats 4000000 in
set_option maxRecDepth 100000 in
theorem k_X4_knots {l : Launch} {D : va_G} {cy ad : Nat → Nat} {I : Im} {G : Dm} {J : Jm} (hadI : adI ad) {n k : Nat} (hn : I 0 2 = nI n) (hk : k < n) (hn2 : n ≤ 32) {x X : UInt64} (hxX : cn x = X) (hin : bIn X 0 1 = true) : kM l yX4_knots (.code yX4_knots cX4_knots 5 none) (rmK 1 0 0 23) D cy ad [.ref (ad 0), .int (nI k), .double x] I G J (qV D cy ad I (u2 G (2 + k) 3 X) J) := by
  refine start_M hadI (by decide +kernel) (Nat.le_of_ble_eq_true rfl) ?_
  intro p e s m below meth cd am hx hb hr hlk hst ls hl
  have hl : lv_has ls 5 [(0, .ref (ad 0)), (1, .int (nI k)), (2, .double x)] := hl
  refine lv_aload_n hx hb dX4_knots_0 rfl (lv_at hl 0 rfl) ?_
  refine lv_iload_n hx hb dX4_knots_1 rfl (lv_at hl 1 rfl) ?_
  refine c_r hst (r_V (As := [.int (nI k)]) (rest := []) am hst hl (k_X4_boardAt hadI hn hk hn2) kRX4_60 imX4_boardAt slX4_boardAt ⟨Nat.le_of_ble_eq_true rfl, Nat.le_of_ble_eq_true rfl⟩ (by decide) (fun _ _ _ => cE_S) rfl rfl rfl (Nat.le_of_ble_eq_true rfl) dX4_knots_2 ⟨Nat.le_of_ble_eq_true rfl, Nat.le_of_ble_eq_true rfl⟩) (fun H locs hst => ?_)
  refine lv_astore (lv' := [(4, .ref (ad (2 + k))), (0, .ref (ad 0)), (1, .int (nI k)), (2, .double x)]) hx hb dX4_knots_5 hl (by decide) rfl (fun ls hl => ?_)
  refine lv_dload_n hx hb dX4_knots_7 rfl (lv_at hl 3 rfl) ?_
  refine lv_iconst (v := 0) hx hb dX4_knots_8 (by decide) ?_
  refine lv_iconst (v := 1) hx hb dX4_knots_9 (by decide) ?_
  refine c_i hst (r_S (As := [.double x, .int 0, .int 1]) (rest := []) am hst hl (k_X4_isWithin hadI hxX) kRX4_64 smX4_isWithin ⟨Nat.le_of_ble_eq_true rfl, Nat.le_of_ble_eq_true rfl⟩ rfl rfl (Nat.le_of_ble_eq_true rfl) dX4_knots_10 ⟨Nat.le_of_ble_eq_true rfl, Nat.le_of_ble_eq_true rfl⟩) (fun H locs hst => ?_)
  refine c_v hst (r_S (As := [.int (zB (bIn X 0 1))]) (rest := []) am hst hl (k_X4_need hadI (zB_n0.mpr hin)) kRX4_68 smX4_need ⟨Nat.le_of_ble_eq_true rfl, Nat.le_of_ble_eq_true rfl⟩ rfl rfl (Nat.le_of_ble_eq_true rfl) dX4_knots_13 ⟨Nat.le_of_ble_eq_true rfl, Nat.le_of_ble_eq_true rfl⟩) (fun H locs hst => ?_)
  refine lv_aload hx hb dX4_knots_16 (lv_at hl 0 rfl) ?_
  refine lv_dload_n hx hb dX4_knots_18 rfl (lv_at hl 3 rfl) ?_
  refine w_putDN am hst (k := 3) hxX (by omega) (fun _ _ _ => cE_B (show 2 ≤ 2 + k ∧ 2 + k < 34 by omega)) rfl inT0 tyX0 tyX0_ok nmX0 (by decide) fRX4_84 (fun _ _ _ => rfl) (fun _ _ _ => Nat.le_of_ble_eq_true rfl) rfl rfl dX4_knots_19 (fun H locs hst => ?_)
  exact e_v hx hb hr hlk hst dX4_knots_22

set_option maxHeartbeats 4000000 in
set_option maxRecDepth 100000 in
theorem x1_X4_knots {l : Launch} {D : va_G} {cy ad : Nat → Nat} {I : Im} {G : Dm} {J : Jm} (hadI : adI ad) (hno : l.stackTraces = false) {v : Int32} (hv : v < 0 ∨ ¬ v < I 0 2) {x : UInt64} : kX l yX4_knots (.code yX4_knots cX4_knots 5 none) (rmK 7 1 6 111) D cy ad [.ref (ad 0), .int v, .double x] I G J xIOOBE := by
  refine start_X hadI (by decide +kernel) (Nat.le_of_ble_eq_true rfl) ?_
  intro p e s m below meth cd am hx hb hout hlk hst ls hl
  have hl : lv_has ls 5 [(0, .ref (ad 0)), (1, .int v), (2, .double x)] := hl
  refine lv_aload_n hx hb dX4_knots_0 rfl (lv_at hl 0 rfl) ?_
  refine lv_iload_n hx hb dX4_knots_1 rfl (lv_at hl 1 rfl) ?_
  exact x_call hst hout hlk (Nat.le_of_ble_eq_true rfl) (Nat.le_of_ble_eq_true rfl) (r_VX (As := [.int v]) (rest := []) am hst hl (x_X4_boardAt hadI hno hv) kRX4_60 imX4_boardAt slX4_boardAt ⟨rfl, rfl⟩ ⟨Nat.le_of_ble_eq_true rfl, Nat.le_of_ble_eq_true rfl⟩ (by decide) (fun _ _ _ => cE_S) rfl rfl rfl (Nat.le_of_ble_eq_true rfl) dX4_knots_2 ⟨Nat.le_of_ble_eq_true rfl, Nat.le_of_ble_eq_true rfl⟩)

set_option maxHeartbeats 4000000 in
set_option maxRecDepth 100000 in
theorem x2_X4_knots {l : Launch} {D : va_G} {cy ad : Nat → Nat} {I : Im} {G : Dm} {J : Jm} (hadI : adI ad) (hno : l.stackTraces = false) {n k : Nat} (hn : I 0 2 = nI n) (hk : k < n) (hn2 : n ≤ 32) {x X : UInt64} (hxX : cn x = X) (hin : bIn X 0 1 = false) : kX l yX4_knots (.code yX4_knots cX4_knots 5 none) (rmK 7 1 6 111) D cy ad [.ref (ad 0), .int (nI k), .double x] I G J xIAE := by
  refine start_X hadI (by decide +kernel) (Nat.le_of_ble_eq_true rfl) ?_
  intro p e s m below meth cd am hx hb hout hlk hst ls hl
  have hl : lv_has ls 5 [(0, .ref (ad 0)), (1, .int (nI k)), (2, .double x)] := hl
  refine lv_aload_n hx hb dX4_knots_0 rfl (lv_at hl 0 rfl) ?_
  refine lv_iload_n hx hb dX4_knots_1 rfl (lv_at hl 1 rfl) ?_
  refine c_r hst (r_V (As := [.int (nI k)]) (rest := []) am hst hl (k_X4_boardAt hadI hn hk hn2) kRX4_60 imX4_boardAt slX4_boardAt ⟨Nat.le_of_ble_eq_true rfl, Nat.le_of_ble_eq_true rfl⟩ (by decide) (fun _ _ _ => cE_S) rfl rfl rfl (Nat.le_of_ble_eq_true rfl) dX4_knots_2 ⟨Nat.le_of_ble_eq_true rfl, Nat.le_of_ble_eq_true rfl⟩) (fun H locs hst => ?_)
  refine lv_astore (lv' := [(4, .ref (ad (2 + k))), (0, .ref (ad 0)), (1, .int (nI k)), (2, .double x)]) hx hb dX4_knots_5 hl (by decide) rfl (fun ls hl => ?_)
  refine lv_dload_n hx hb dX4_knots_7 rfl (lv_at hl 3 rfl) ?_
  refine lv_iconst (v := 0) hx hb dX4_knots_8 (by decide) ?_
  refine lv_iconst (v := 1) hx hb dX4_knots_9 (by decide) ?_
  refine c_i hst (r_S (As := [.double x, .int 0, .int 1]) (rest := []) am hst hl (k_X4_isWithin hadI hxX) kRX4_64 smX4_isWithin ⟨Nat.le_of_ble_eq_true rfl, Nat.le_of_ble_eq_true rfl⟩ rfl rfl (Nat.le_of_ble_eq_true rfl) dX4_knots_10 ⟨Nat.le_of_ble_eq_true rfl, Nat.le_of_ble_eq_true rfl⟩) (fun H locs hst => ?_)
  exact x_call hst hout hlk (Nat.le_of_ble_eq_true rfl) (Nat.le_of_ble_eq_true rfl) (r_SX (As := [.int (zB (bIn X 0 1))]) (rest := []) am hst hl (x_X4_need hadI hno (zB_0.mpr hin)) kRX4_68 smX4_need ⟨rfl, rfl⟩ ⟨Nat.le_of_ble_eq_true rfl, Nat.le_of_ble_eq_true rfl⟩ rfl rfl (Nat.le_of_ble_eq_true rfl) dX4_knots_13 ⟨Nat.le_of_ble_eq_true rfl, Nat.le_of_ble_eq_true rfl⟩)

set_option maxHeartbeats 4000000 in
set_option maxRecDepth 100000 in
theorem k_X4_broken {l : Launch} {D : va_G} {cy ad : Nat → Nat} {I : Im} {G : Dm} {J : Jm} (hadI : adI ad) {n k : Nat} (hn : I 0 2 = nI n) (hk : k < n) (hn2 : n ≤ 32) {x X : UInt64} (hxX : cn x = X) (hin : bIn X 0 1000 = true) (h5 : I (2 + k) 5 = 0) (h6 : I (2 + k) 6 = 0) : kM l yX4_broken (.code yX4_broken cX4_broken 5 none) (rmK 1 0 0 23) D cy ad [.ref (ad 0), .int (nI k), .double x] I G J (qV D cy ad (u2 I (2 + k) 5 1) (u2 G (2 + k) 4 X) J) := by
  refine start_M hadI (by decide +kernel) (Nat.le_of_ble_eq_true rfl) ?_
  intro p e s m below meth cd am hx hb hr hlk hst ls hl
  have hl : lv_has ls 5 [(0, .ref (ad 0)), (1, .int (nI k)), (2, .double x)] := hl
  refine lv_aload_n hx hb dX4_broken_0 rfl (lv_at hl 0 rfl) ?_
  refine lv_iload_n hx hb dX4_broken_1 rfl (lv_at hl 1 rfl) ?_
  refine c_r hst (r_V (As := [.int (nI k)]) (rest := []) am hst hl (k_X4_boardAt hadI hn hk hn2) kRX4_60 imX4_boardAt slX4_boardAt ⟨Nat.le_of_ble_eq_true rfl, Nat.le_of_ble_eq_true rfl⟩ (by decide) (fun _ _ _ => cE_S) rfl rfl rfl (Nat.le_of_ble_eq_true rfl) dX4_broken_2 ⟨Nat.le_of_ble_eq_true rfl, Nat.le_of_ble_eq_true rfl⟩) (fun H locs hst => ?_)
  refine lv_astore (lv' := [(4, .ref (ad (2 + k))), (0, .ref (ad 0)), (1, .int (nI k)), (2, .double x)]) hx hb dX4_broken_5 hl (by decide) rfl (fun ls hl => ?_)
  refine lv_dload_n hx hb dX4_broken_7 rfl (lv_at hl 3 rfl) ?_
  refine lv_iconst (v := 0) hx hb dX4_broken_8 (by decide) ?_
  refine lv_sipush (v := 1000) hx hb dX4_broken_9 (by decide) ?_
  refine c_i hst (r_S (As := [.double x, .int 0, .int 1000]) (rest := []) am hst hl (k_X4_isWithin hadI hxX) kRX4_64 smX4_isWithin ⟨Nat.le_of_ble_eq_true rfl, Nat.le_of_ble_eq_true rfl⟩ rfl rfl (Nat.le_of_ble_eq_true rfl) dX4_broken_12 ⟨Nat.le_of_ble_eq_true rfl, Nat.le_of_ble_eq_true rfl⟩) (fun H locs hst => ?_)
  refine c_v hst (r_S (As := [.int (zB (bIn X 0 1000))]) (rest := []) am hst hl (k_X4_need hadI (zB_n0.mpr hin)) kRX4_68 smX4_need ⟨Nat.le_of_ble_eq_true rfl, Nat.le_of_ble_eq_true rfl⟩ rfl rfl (Nat.le_of_ble_eq_true rfl) dX4_broken_15 ⟨Nat.le_of_ble_eq_true rfl, Nat.le_of_ble_eq_true rfl⟩) (fun H locs hst => ?_)
  refine lv_aload hx hb dX4_broken_18 (lv_at hl 0 rfl) ?_
  refine w_getIN am hst (k := 5) (by omega) (fun _ _ _ => cE_B (show 2 ≤ 2 + k ∧ 2 + k < 34 by omega)) rfl inT0 (by decide) (fun _ _ _ => rfl) fRX4_87 dX4_broken_20 ?_
  refine lv_if_ne (tgt := 34) hx hb dX4_broken_23 (by decide) (fun c_23 => absurd h5 c_23) (fun c_23 => ?_)
  refine lv_aload hx hb dX4_broken_26 (lv_at hl 0 rfl) ?_
  refine w_getIN am hst (k := 6) (by omega) (fun _ _ _ => cE_B (show 2 ≤ 2 + k ∧ 2 + k < 34 by omega)) rfl inT0 (by decide) (fun _ _ _ => rfl) fRX4_91 dX4_broken_28 ?_
  refine lv_if_eq (tgt := 44) hx hb dX4_broken_31 (by decide) (fun c_31 => ?_) (fun c_31 => absurd h6 c_31)
  refine lv_aload hx hb dX4_broken_44 (lv_at hl 0 rfl) ?_
  refine lv_dload_n hx hb dX4_broken_46 rfl (lv_at hl 3 rfl) ?_
  refine w_putDN am hst (k := 4) hxX (by omega) (fun _ _ _ => cE_B (show 2 ≤ 2 + k ∧ 2 + k < 34 by omega)) rfl inT0 tyX0 tyX0_ok nmX0 (by decide) fRX4_96 (fun _ _ _ => rfl) (fun _ _ _ => Nat.le_of_ble_eq_true rfl) rfl rfl dX4_broken_47 (fun H locs hst => ?_)
  refine lv_aload hx hb dX4_broken_50 (lv_at hl 0 rfl) ?_
  refine lv_iconst (v := 1) hx hb dX4_broken_52 (by decide) ?_
  refine w_putIN am hst (k := 5) (by omega) (fun _ _ _ => cE_B (show 2 ≤ 2 + k ∧ 2 + k < 34 by omega)) rfl inT0 tyX0 tyX0_ok nmX0 (by decide) fRX4_87 (fun _ _ _ => rfl) (fun _ _ _ => Nat.le_of_ble_eq_true rfl) rfl rfl rfl rfl dX4_broken_53 (fun H locs hst => ?_)
  exact e_v hx hb hr hlk hst dX4_broken_56

set_option maxHeartbeats 4000000 in
set_option maxRecDepth 100000 in
theorem x1_X4_broken {l : Launch} {D : va_G} {cy ad : Nat → Nat} {I : Im} {G : Dm} {J : Jm} (hadI : adI ad) (hno : l.stackTraces = false) {v : Int32} (hv : v < 0 ∨ ¬ v < I 0 2) {x : UInt64} : kX l yX4_broken (.code yX4_broken cX4_broken 5 none) (rmK 7 1 6 111) D cy ad [.ref (ad 0), .int v, .double x] I G J xIOOBE := by
  refine start_X hadI (by decide +kernel) (Nat.le_of_ble_eq_true rfl) ?_
  intro p e s m below meth cd am hx hb hout hlk hst ls hl
  have hl : lv_has ls 5 [(0, .ref (ad 0)), (1, .int v), (2, .double x)] := hl
  refine lv_aload_n hx hb dX4_broken_0 rfl (lv_at hl 0 rfl) ?_
  refine lv_iload_n hx hb dX4_broken_1 rfl (lv_at hl 1 rfl) ?_
  exact x_call hst hout hlk (Nat.le_of_ble_eq_true rfl) (Nat.le_of_ble_eq_true rfl) (r_VX (As := [.int v]) (rest := []) am hst hl (x_X4_boardAt hadI hno hv) kRX4_60 imX4_boardAt slX4_boardAt ⟨rfl, rfl⟩ ⟨Nat.le_of_ble_eq_true rfl, Nat.le_of_ble_eq_true rfl⟩ (by decide) (fun _ _ _ => cE_S) rfl rfl rfl (Nat.le_of_ble_eq_true rfl) dX4_broken_2 ⟨Nat.le_of_ble_eq_true rfl, Nat.le_of_ble_eq_true rfl⟩)

set_option maxHeartbeats 4000000 in
set_option maxRecDepth 100000 in
theorem x2_X4_broken {l : Launch} {D : va_G} {cy ad : Nat → Nat} {I : Im} {G : Dm} {J : Jm} (hadI : adI ad) (hno : l.stackTraces = false) {n k : Nat} (hn : I 0 2 = nI n) (hk : k < n) (hn2 : n ≤ 32) {x X : UInt64} (hxX : cn x = X) (hin : bIn X 0 1000 = false) : kX l yX4_broken (.code yX4_broken cX4_broken 5 none) (rmK 7 1 6 111) D cy ad [.ref (ad 0), .int (nI k), .double x] I G J xIAE := by
  refine start_X hadI (by decide +kernel) (Nat.le_of_ble_eq_true rfl) ?_
  intro p e s m below meth cd am hx hb hout hlk hst ls hl
  have hl : lv_has ls 5 [(0, .ref (ad 0)), (1, .int (nI k)), (2, .double x)] := hl
  refine lv_aload_n hx hb dX4_broken_0 rfl (lv_at hl 0 rfl) ?_
  refine lv_iload_n hx hb dX4_broken_1 rfl (lv_at hl 1 rfl) ?_
  refine c_r hst (r_V (As := [.int (nI k)]) (rest := []) am hst hl (k_X4_boardAt hadI hn hk hn2) kRX4_60 imX4_boardAt slX4_boardAt ⟨Nat.le_of_ble_eq_true rfl, Nat.le_of_ble_eq_true rfl⟩ (by decide) (fun _ _ _ => cE_S) rfl rfl rfl (Nat.le_of_ble_eq_true rfl) dX4_broken_2 ⟨Nat.le_of_ble_eq_true rfl, Nat.le_of_ble_eq_true rfl⟩) (fun H locs hst => ?_)
  refine lv_astore (lv' := [(4, .ref (ad (2 + k))), (0, .ref (ad 0)), (1, .int (nI k)), (2, .double x)]) hx hb dX4_broken_5 hl (by decide) rfl (fun ls hl => ?_)
  refine lv_dload_n hx hb dX4_broken_7 rfl (lv_at hl 3 rfl) ?_
  refine lv_iconst (v := 0) hx hb dX4_broken_8 (by decide) ?_
  refine lv_sipush (v := 1000) hx hb dX4_broken_9 (by decide) ?_
  refine c_i hst (r_S (As := [.double x, .int 0, .int 1000]) (rest := []) am hst hl (k_X4_isWithin hadI hxX) kRX4_64 smX4_isWithin ⟨Nat.le_of_ble_eq_true rfl, Nat.le_of_ble_eq_true rfl⟩ rfl rfl (Nat.le_of_ble_eq_true rfl) dX4_broken_12 ⟨Nat.le_of_ble_eq_true rfl, Nat.le_of_ble_eq_true rfl⟩) (fun H locs hst => ?_)
  exact x_call hst hout hlk (Nat.le_of_ble_eq_true rfl) (Nat.le_of_ble_eq_true rfl) (r_SX (As := [.int (zB (bIn X 0 1000))]) (rest := []) am hst hl (x_X4_need hadI hno (zB_0.mpr hin)) kRX4_68 smX4_need ⟨rfl, rfl⟩ ⟨Nat.le_of_ble_eq_true rfl, Nat.le_of_ble_eq_true rfl⟩ rfl rfl (Nat.le_of_ble_eq_true rfl) dX4_broken_15 ⟨Nat.le_of_ble_eq_true rfl, Nat.le_of_ble_eq_true rfl⟩)

set_option maxHeartbeats 4000000 in
set_option maxRecDepth 100000 in
theorem x3_X4_broken {l : Launch} {D : va_G} {cy ad : Nat → Nat} {I : Im} {G : Dm} {J : Jm} (hadI : adI ad) (hno : l.stackTraces = false) {n k : Nat} (hn : I 0 2 = nI n) (hk : k < n) (hn2 : n ≤ 32) {x X : UInt64} (hxX : cn x = X) (hin : bIn X 0 1000 = true) (hv : ¬ I (2 + k) 5 = 0 ∨ ¬ I (2 + k) 6 = 0) : kX l yX4_broken (.code yX4_broken cX4_broken 5 none) (rmK 7 1 6 111) D cy ad [.ref (ad 0), .int (nI k), .double x] I G J xISE := by
  refine start_X hadI (by decide +kernel) (Nat.le_of_ble_eq_true rfl) ?_
  intro p e s m below meth cd am hx hb hout hlk hst ls hl
  have hl : lv_has ls 5 [(0, .ref (ad 0)), (1, .int (nI k)), (2, .double x)] := hl
  refine lv_aload_n hx hb dX4_broken_0 rfl (lv_at hl 0 rfl) ?_
  refine lv_iload_n hx hb dX4_broken_1 rfl (lv_at hl 1 rfl) ?_
  refine c_r hst (r_V (As := [.int (nI k)]) (rest := []) am hst hl (k_X4_boardAt hadI hn hk hn2) kRX4_60 imX4_boardAt slX4_boardAt ⟨Nat.le_of_ble_eq_true rfl, Nat.le_of_ble_eq_true rfl⟩ (by decide) (fun _ _ _ => cE_S) rfl rfl rfl (Nat.le_of_ble_eq_true rfl) dX4_broken_2 ⟨Nat.le_of_ble_eq_true rfl, Nat.le_of_ble_eq_true rfl⟩) (fun H locs hst => ?_)
  refine lv_astore (lv' := [(4, .ref (ad (2 + k))), (0, .ref (ad 0)), (1, .int (nI k)), (2, .double x)]) hx hb dX4_broken_5 hl (by decide) rfl (fun ls hl => ?_)
  refine lv_dload_n hx hb dX4_broken_7 rfl (lv_at hl 3 rfl) ?_
  refine lv_iconst (v := 0) hx hb dX4_broken_8 (by decide) ?_
  refine lv_sipush (v := 1000) hx hb dX4_broken_9 (by decide) ?_
  refine c_i hst (r_S (As := [.double x, .int 0, .int 1000]) (rest := []) am hst hl (k_X4_isWithin hadI hxX) kRX4_64 smX4_isWithin ⟨Nat.le_of_ble_eq_true rfl, Nat.le_of_ble_eq_true rfl⟩ rfl rfl (Nat.le_of_ble_eq_true rfl) dX4_broken_12 ⟨Nat.le_of_ble_eq_true rfl, Nat.le_of_ble_eq_true rfl⟩) (fun H locs hst => ?_)
  refine c_v hst (r_S (As := [.int (zB (bIn X 0 1000))]) (rest := []) am hst hl (k_X4_need hadI (zB_n0.mpr hin)) kRX4_68 smX4_need ⟨Nat.le_of_ble_eq_true rfl, Nat.le_of_ble_eq_true rfl⟩ rfl rfl (Nat.le_of_ble_eq_true rfl) dX4_broken_15 ⟨Nat.le_of_ble_eq_true rfl, Nat.le_of_ble_eq_true rfl⟩) (fun H locs hst => ?_)
  refine lv_aload hx hb dX4_broken_18 (lv_at hl 0 rfl) ?_
  refine w_getIN am hst (k := 5) (by omega) (fun _ _ _ => cE_B (show 2 ≤ 2 + k ∧ 2 + k < 34 by omega)) rfl inT0 (by decide) (fun _ _ _ => rfl) fRX4_87 dX4_broken_20 ?_
  refine lv_if_ne (tgt := 34) hx hb dX4_broken_23 (by decide) (fun c_23 => ?_) (fun c_23 => ?_)
  · skip
    exact x_throw (text := "broken before, or out") hno am hst hout hlk hl tx_ISE tg_ISE rfl (by decide) dX4_broken_34 dX4_broken_37 dX4_broken_38 dX4_broken_40 dX4_broken_43 (Nat.le_of_ble_eq_true rfl) (Nat.le_of_ble_eq_true rfl) (Nat.le_of_ble_eq_true rfl) (Nat.le_of_ble_eq_true rfl) (Nat.le_of_ble_eq_true rfl) (Nat.le_of_ble_eq_true rfl)
  · skip
    refine lv_aload hx hb dX4_broken_26 (lv_at hl 0 rfl) ?_
    refine w_getIN am hst (k := 6) (by omega) (fun _ _ _ => cE_B (show 2 ≤ 2 + k ∧ 2 + k < 34 by omega)) rfl inT0 (by decide) (fun _ _ _ => rfl) fRX4_91 dX4_broken_28 ?_
    refine lv_if_eq (tgt := 44) hx hb dX4_broken_31 (by decide) (fun c_31 => absurd c_31 ((hv.resolve_left (fun h => h c_23)))) (fun c_31 => ?_)
    exact x_throw (text := "broken before, or out") hno am hst hout hlk hl tx_ISE tg_ISE rfl (by decide) dX4_broken_34 dX4_broken_37 dX4_broken_38 dX4_broken_40 dX4_broken_43 (Nat.le_of_ble_eq_true rfl) (Nat.le_of_ble_eq_true rfl) (Nat.le_of_ble_eq_true rfl) (Nat.le_of_ble_eq_true rfl) (Nat.le_of_ble_eq_true rfl) (Nat.le_of_ble_eq_true rfl)

set_option maxHeartbeats 4000000 in
set_option maxRecDepth 100000 in
theorem k_X4_fit {l : Launch} {D : va_G} {cy ad : Nat → Nat} {I : Im} {G : Dm} {J : Jm} (hadI : adI ad)  : kD l yX4_fit (.code yX4_fit cX4_fit 1 (some .int)) (rmK 4 0 0 90) D cy ad [.ref (ad 0)] I G J (qI D cy ad (nI (rkR 34 I sk0 G)) I (rkG 34 I sk0 G) J) := by
  refine start_D hadI (by decide +kernel) (Nat.le_of_ble_eq_true rfl) ?_
  intro p e s m below meth cd am hx hb hr hlk hst ls hl d0 hd
  have hl : lv_has ls 1 [(0, .ref (ad 0))] := hl
  refine lv_aload_n hx hb dX4_fit_0 rfl (lv_at hl 0 rfl) ?_
  refine w_getR am hst (k := 3) (b := ad 34) (by decide) (fun _ _ _ => cE_S) rfl inT4 (by decide) (fun _ _ _ => rfl) fRX4_23 dX4_fit_1 ?_
  refine lv_aload_n hx hb dX4_fit_4 rfl (lv_at hl 0 rfl) ?_
  refine w_getR am hst (k := 1) (b := ad 1) (by decide) (fun _ _ _ => cE_S) rfl inT4 (by decide) (fun _ _ _ => rfl) fRX4_15 dX4_fit_5 ?_
  refine lv_null hx hb dX4_fit_8 ?_
  refine c_iD hd hst (r_ND (As := [.ref (ad 1), .null]) (rest := []) am hst hl (k_X2_reckon_n hadI (Or.inl rfl)) kRX4_99 imX2_reckon slX2_reckon ⟨Nat.le_of_ble_eq_true rfl, Nat.le_of_ble_eq_true rfl⟩ (by omega) (fun _ _ _ => cE_F (Or.inl rfl)) rfl rfl rfl (Nat.le_of_ble_eq_true rfl) dX4_fit_9 ⟨Nat.le_of_ble_eq_true rfl, Nat.le_of_ble_eq_true rfl⟩) (fun d0 H locs hd hst => ?_)
  exact e_iD hd hx hb hr hlk hst rfl rfl dX4_fit_12

set_option maxHeartbeats 4000000 in
set_option maxRecDepth 100000 in
theorem k_X4_number {l : Launch} {D : va_G} {cy ad : Nat → Nat} {I : Im} {G : Dm} {J : Jm} (hadI : adI ad) {k : Nat} (hk : k < 3) : kM l yX4_number (.code yX4_number cX4_number 2 (some .double)) (rmK 0 0 0 0) D cy ad [.ref (ad 0), .int (nI k)] I G J (qD D cy ad (G 40 k) I G J) := by
  refine start_M hadI (by decide +kernel) (Nat.le_of_ble_eq_true rfl) ?_
  intro p e s m below meth cd am hx hb hr hlk hst ls hl
  have hl : lv_has ls 2 [(0, .ref (ad 0)), (1, .int (nI k))] := hl
  refine lv_iload_n hx hb dX4_number_0 rfl (lv_at hl 1 rfl) ?_
  refine lv_if_lt (tgt := 9) hx hb dX4_number_1 (by decide) (fun c_1 => absurd c_1 (nI_pos (by omega))) (fun c_1 => ?_)
  refine lv_iload_n hx hb dX4_number_4 rfl (lv_at hl 1 rfl) ?_
  refine lv_iconst (v := 3) hx hb dX4_number_5 (by decide) ?_
  refine lv_icmp_lt (tgt := 19) hx hb dX4_number_6 (by decide) (fun c_6 => ?_) (fun c_6 => absurd (nI_lt (b := 3) hk (by omega)) c_6)
  refine lv_aload_n hx hb dX4_number_19 rfl (lv_at hl 0 rfl) ?_
  refine w_getR am hst (k := 3) (b := ad 34) (by decide) (fun _ _ _ => cE_S) rfl inT4 (by decide) (fun _ _ _ => rfl) fRX4_23 dX4_number_20 ?_
  refine w_getRN am hst (k := 2) (b := ad (34 + 6)) (by omega) (fun _ _ _ => cE_F (Or.inl rfl)) rfl inT2 (by decide) (fun _ _ _ => rfl) fRX4_108 dX4_number_23 ?_
  refine lv_iload_n hx hb dX4_number_26 rfl (lv_at hl 1 rfl) ?_
  refine w_dald am hst (by omega) (fun _ _ _ => cE_F6 (Or.inl rfl)) (n := k) (nI_clamp (by omega)) (vp_in_nI (by omega) (by decide)) dX4_number_27 (fun x1 hx1 => ?_)
  exact e_d hx hb hr hlk hst hx1 dX4_number_28

set_option maxHeartbeats 4000000 in
set_option maxRecDepth 100000 in
theorem x_X4_number {l : Launch} {D : va_G} {cy ad : Nat → Nat} {I : Im} {G : Dm} {J : Jm} (hadI : adI ad) (hno : l.stackTraces = false) {v : Int32} (hv : v < 0 ∨ ¬ v < 3) : kX l yX4_number (.code yX4_number cX4_number 2 (some .double)) (rmK 6 1 6 90) D cy ad [.ref (ad 0), .int v] I G J xIOOBE := by
  refine start_X hadI (by decide +kernel) (Nat.le_of_ble_eq_true rfl) ?_
  intro p e s m below meth cd am hx hb hout hlk hst ls hl
  have hl : lv_has ls 2 [(0, .ref (ad 0)), (1, .int v)] := hl
  refine lv_iload_n hx hb dX4_number_0 rfl (lv_at hl 1 rfl) ?_
  refine lv_if_lt (tgt := 9) hx hb dX4_number_1 (by decide) (fun c_1 => ?_) (fun c_1 => ?_)
  · skip
    exact x_throw (text := "no such number") hno am hst hout hlk hl tx_IOOBE tg_IOOBE rfl (by decide) dX4_number_9 dX4_number_12 dX4_number_13 dX4_number_15 dX4_number_18 (Nat.le_of_ble_eq_true rfl) (Nat.le_of_ble_eq_true rfl) (Nat.le_of_ble_eq_true rfl) (Nat.le_of_ble_eq_true rfl) (Nat.le_of_ble_eq_true rfl) (Nat.le_of_ble_eq_true rfl)
  · skip
    refine lv_iload_n hx hb dX4_number_4 rfl (lv_at hl 1 rfl) ?_
    refine lv_iconst (v := 3) hx hb dX4_number_5 (by decide) ?_
    refine lv_icmp_lt (tgt := 19) hx hb dX4_number_6 (by decide) (fun c_6 => absurd c_6 (hv.resolve_left c_1)) (fun c_6 => ?_)
    exact x_throw (text := "no such number") hno am hst hout hlk hl tx_IOOBE tg_IOOBE rfl (by decide) dX4_number_9 dX4_number_12 dX4_number_13 dX4_number_15 dX4_number_18 (Nat.le_of_ble_eq_true rfl) (Nat.le_of_ble_eq_true rfl) (Nat.le_of_ble_eq_true rfl) (Nat.le_of_ble_eq_true rfl) (Nat.le_of_ble_eq_true rfl) (Nat.le_of_ble_eq_true rfl)

set_option maxHeartbeats 4000000 in
set_option maxRecDepth 100000 in
theorem k_X4_foretold {l : Launch} {D : va_G} {cy ad : Nat → Nat} {I : Im} {G : Dm} {J : Jm} (hadI : adI ad) {n k : Nat} (hn : I 0 2 = nI n) (hk : k < n) (hn2 : n ≤ 32) (hcp : bCompl I G (2 + k) = true) : kD l yX4_foretold (.code yX4_foretold cX4_foretold 2 (some .double)) (rmK 3 0 0 62) D cy ad [.ref (ad 0), .int (nI k)] I G J (qD D cy ad (fore 34 I G (2 + k)) I G J) := by
  refine start_D hadI (by decide +kernel) (Nat.le_of_ble_eq_true rfl) ?_
  intro p e s m below meth cd am hx hb hr hlk hst ls hl d0 hd
  have hl : lv_has ls 2 [(0, .ref (ad 0)), (1, .int (nI k))] := hl
  refine lv_aload_n hx hb dX4_foretold_0 rfl (lv_at hl 0 rfl) ?_
  refine w_getR am hst (k := 3) (b := ad 34) (by decide) (fun _ _ _ => cE_S) rfl inT4 (by decide) (fun _ _ _ => rfl) fRX4_23 dX4_foretold_1 ?_
  refine lv_aload_n hx hb dX4_foretold_4 rfl (lv_at hl 0 rfl) ?_
  refine lv_iload_n hx hb dX4_foretold_5 rfl (lv_at hl 1 rfl) ?_
  refine c_r hst (r_V (As := [.int (nI k)]) (rest := [.ref (ad 34)]) am hst hl (k_X4_completeBoardAt hadI hn hk hn2 hcp) kRX4_111 imX4_completeBoardAt slX4_completeBoardAt ⟨Nat.le_of_ble_eq_true rfl, Nat.le_of_ble_eq_true rfl⟩ (by decide) (fun _ _ _ => cE_S) rfl rfl rfl (Nat.le_of_ble_eq_true rfl) dX4_foretold_6 ⟨Nat.le_of_ble_eq_true rfl, Nat.le_of_ble_eq_true rfl⟩) (fun H locs hst => ?_)
  refine c_dD hd hst (r_ND (As := [.ref (ad (2 + k))]) (rest := []) am hst hl (k_X2_foretell hadI (Or.inl rfl) (show 2 ≤ 2 + k ∧ 2 + k < 34 by omega)) kRX4_114 imX2_foretell slX2_foretell ⟨Nat.le_of_ble_eq_true rfl, Nat.le_of_ble_eq_true rfl⟩ (by omega) (fun _ _ _ => cE_F (Or.inl rfl)) rfl rfl rfl (Nat.le_of_ble_eq_true rfl) dX4_foretold_9 ⟨Nat.le_of_ble_eq_true rfl, Nat.le_of_ble_eq_true rfl⟩) (fun x1 d0 H locs hx1 hd hst => ?_)
  exact e_dD hd hx hb hr hlk hst hx1 dX4_foretold_12

set_option maxHeartbeats 4000000 in
set_option maxRecDepth 100000 in
theorem x1_X4_foretold {l : Launch} {D : va_G} {cy ad : Nat → Nat} {I : Im} {G : Dm} {J : Jm} (hadI : adI ad) (hno : l.stackTraces = false) {v : Int32} (hv : v < 0 ∨ ¬ v < I 0 2) : kX l yX4_foretold (.code yX4_foretold cX4_foretold 2 (some .double)) (rmK 8 1 6 133) D cy ad [.ref (ad 0), .int v] I G J xIOOBE := by
  refine start_X hadI (by decide +kernel) (Nat.le_of_ble_eq_true rfl) ?_
  intro p e s m below meth cd am hx hb hout hlk hst ls hl
  have hl : lv_has ls 2 [(0, .ref (ad 0)), (1, .int v)] := hl
  refine lv_aload_n hx hb dX4_foretold_0 rfl (lv_at hl 0 rfl) ?_
  refine w_getR am hst (k := 3) (b := ad 34) (by decide) (fun _ _ _ => cE_S) rfl inT4 (by decide) (fun _ _ _ => rfl) fRX4_23 dX4_foretold_1 ?_
  refine lv_aload_n hx hb dX4_foretold_4 rfl (lv_at hl 0 rfl) ?_
  refine lv_iload_n hx hb dX4_foretold_5 rfl (lv_at hl 1 rfl) ?_
  exact x_call hst hout hlk (Nat.le_of_ble_eq_true rfl) (Nat.le_of_ble_eq_true rfl) (r_VX (As := [.int v]) (rest := [.ref (ad 34)]) am hst hl (x1_X4_completeBoardAt hadI hno hv) kRX4_111 imX4_completeBoardAt slX4_completeBoardAt ⟨rfl, rfl⟩ ⟨Nat.le_of_ble_eq_true rfl, Nat.le_of_ble_eq_true rfl⟩ (by decide) (fun _ _ _ => cE_S) rfl rfl rfl (Nat.le_of_ble_eq_true rfl) dX4_foretold_6 ⟨Nat.le_of_ble_eq_true rfl, Nat.le_of_ble_eq_true rfl⟩)

set_option maxHeartbeats 4000000 in
set_option maxRecDepth 100000 in
theorem x2_X4_foretold {l : Launch} {D : va_G} {cy ad : Nat → Nat} {I : Im} {G : Dm} {J : Jm} (hadI : adI ad) (hno : l.stackTraces = false) {n k : Nat} (hn : I 0 2 = nI n) (hk : k < n) (hn2 : n ≤ 32) (hcp : bCompl I G (2 + k) = false) : kX l yX4_foretold (.code yX4_foretold cX4_foretold 2 (some .double)) (rmK 8 1 6 133) D cy ad [.ref (ad 0), .int (nI k)] I G J xISE := by
  refine start_X hadI (by decide +kernel) (Nat.le_of_ble_eq_true rfl) ?_
  intro p e s m below meth cd am hx hb hout hlk hst ls hl
  have hl : lv_has ls 2 [(0, .ref (ad 0)), (1, .int (nI k))] := hl
  refine lv_aload_n hx hb dX4_foretold_0 rfl (lv_at hl 0 rfl) ?_
  refine w_getR am hst (k := 3) (b := ad 34) (by decide) (fun _ _ _ => cE_S) rfl inT4 (by decide) (fun _ _ _ => rfl) fRX4_23 dX4_foretold_1 ?_
  refine lv_aload_n hx hb dX4_foretold_4 rfl (lv_at hl 0 rfl) ?_
  refine lv_iload_n hx hb dX4_foretold_5 rfl (lv_at hl 1 rfl) ?_
  exact x_call hst hout hlk (Nat.le_of_ble_eq_true rfl) (Nat.le_of_ble_eq_true rfl) (r_VX (As := [.int (nI k)]) (rest := [.ref (ad 34)]) am hst hl (x2_X4_completeBoardAt hadI hno hn hk hn2 hcp) kRX4_111 imX4_completeBoardAt slX4_completeBoardAt ⟨rfl, rfl⟩ ⟨Nat.le_of_ble_eq_true rfl, Nat.le_of_ble_eq_true rfl⟩ (by decide) (fun _ _ _ => cE_S) rfl rfl rfl (Nat.le_of_ble_eq_true rfl) dX4_foretold_6 ⟨Nat.le_of_ble_eq_true rfl, Nat.le_of_ble_eq_true rfl⟩)

set_option maxHeartbeats 4000000 in
set_option maxRecDepth 100000 in
theorem k_X4_leftOut {l : Launch} {D : va_G} {cy ad : Nat → Nat} {I : Im} {G : Dm} {J : Jm} (hadI : adI ad) {n k : Nat} (hn : I 0 2 = nI n) (hk : k < n) (hn2 : n ≤ 32) (hcp : bCompl I G (2 + k) = true) : kD l yX4_leftOut (.code yX4_leftOut cX4_leftOut 3 (some .double)) (rmK 4 0 0 90) D cy ad [.ref (ad 0), .int (nI k)] I G J (qD D cy ad (fore 41 I (rkG 41 I (sk1 k) G) (2 + k)) I (rkG 41 I (sk1 k) G) J) := by
  refine start_D hadI (by decide +kernel) (Nat.le_of_ble_eq_true rfl) ?_
  intro p e s m below meth cd am hx hb hr hlk hst ls hl d0 hd
  have hl : lv_has ls 3 [(0, .ref (ad 0)), (1, .int (nI k))] := hl
  refine lv_aload_n hx hb dX4_leftOut_0 rfl (lv_at hl 0 rfl) ?_
  refine lv_iload_n hx hb dX4_leftOut_1 rfl (lv_at hl 1 rfl) ?_
  refine c_r hst (r_V (As := [.int (nI k)]) (rest := []) am hst hl (k_X4_completeBoardAt hadI hn hk hn2 hcp) kRX4_111 imX4_completeBoardAt slX4_completeBoardAt ⟨Nat.le_of_ble_eq_true rfl, Nat.le_of_ble_eq_true rfl⟩ (by decide) (fun _ _ _ => cE_S) rfl rfl rfl (Nat.le_of_ble_eq_true rfl) dX4_leftOut_2 ⟨Nat.le_of_ble_eq_true rfl, Nat.le_of_ble_eq_true rfl⟩) (fun H locs hst => ?_)
  refine lv_astore_n (lv' := [(2, .ref (ad (2 + k))), (0, .ref (ad 0)), (1, .int (nI k))]) hx hb dX4_leftOut_5 rfl hl (by decide) rfl (fun ls hl => ?_)
  refine lv_aload_n hx hb dX4_leftOut_6 rfl (lv_at hl 1 rfl) ?_
  refine w_getR am hst (k := 4) (b := ad 41) (by decide) (fun _ _ _ => cE_S) rfl inT4 (by decide) (fun _ _ _ => rfl) fRX4_27 dX4_leftOut_7 ?_
  refine lv_aload_n hx hb dX4_leftOut_10 rfl (lv_at hl 1 rfl) ?_
  refine w_getR am hst (k := 1) (b := ad 1) (by decide) (fun _ _ _ => cE_S) rfl inT4 (by decide) (fun _ _ _ => rfl) fRX4_15 dX4_leftOut_11 ?_
  refine lv_aload_n hx hb dX4_leftOut_14 rfl (lv_at hl 0 rfl) ?_
  refine c_iD hd hst (r_ND (As := [.ref (ad 1), .ref (ad (2 + k))]) (rest := []) am hst hl (k_X2_reckon_w hadI (Or.inr rfl) (w := k) (by omega)) kRX4_99 imX2_reckon slX2_reckon ⟨Nat.le_of_ble_eq_true rfl, Nat.le_of_ble_eq_true rfl⟩ (by omega) (fun _ _ _ => cE_F (Or.inr rfl)) rfl rfl rfl (Nat.le_of_ble_eq_true rfl) dX4_leftOut_15 ⟨Nat.le_of_ble_eq_true rfl, Nat.le_of_ble_eq_true rfl⟩) (fun d0 H locs hd hst => ?_)
  refine lv_pop hx hb dX4_leftOut_18 rfl ?_
  refine lv_aload_n hx hb dX4_leftOut_19 rfl (lv_at hl 1 rfl) ?_
  refine w_getR am hst (k := 4) (b := ad 41) (by decide) (fun _ _ _ => cE_S) rfl inT4 (by decide) (fun _ _ _ => rfl) fRX4_27 dX4_leftOut_20 ?_
  refine lv_aload_n hx hb dX4_leftOut_23 rfl (lv_at hl 0 rfl) ?_
  refine c_dD hd hst (r_ND (As := [.ref (ad (2 + k))]) (rest := []) am hst hl (k_X2_foretell hadI (Or.inr rfl) (show 2 ≤ 2 + k ∧ 2 + k < 34 by omega)) kRX4_114 imX2_foretell slX2_foretell ⟨Nat.le_of_ble_eq_true rfl, Nat.le_of_ble_eq_true rfl⟩ (by omega) (fun _ _ _ => cE_F (Or.inr rfl)) rfl rfl rfl (Nat.le_of_ble_eq_true rfl) dX4_leftOut_24 ⟨Nat.le_of_ble_eq_true rfl, Nat.le_of_ble_eq_true rfl⟩) (fun x1 d0 H locs hx1 hd hst => ?_)
  exact e_dD hd hx hb hr hlk hst hx1 dX4_leftOut_27

set_option maxHeartbeats 4000000 in
set_option maxRecDepth 100000 in
theorem x1_X4_leftOut {l : Launch} {D : va_G} {cy ad : Nat → Nat} {I : Im} {G : Dm} {J : Jm} (hadI : adI ad) (hno : l.stackTraces = false) {v : Int32} (hv : v < 0 ∨ ¬ v < I 0 2) : kX l yX4_leftOut (.code yX4_leftOut cX4_leftOut 3 (some .double)) (rmK 8 1 6 133) D cy ad [.ref (ad 0), .int v] I G J xIOOBE := by
  refine start_X hadI (by decide +kernel) (Nat.le_of_ble_eq_true rfl) ?_
  intro p e s m below meth cd am hx hb hout hlk hst ls hl
  have hl : lv_has ls 3 [(0, .ref (ad 0)), (1, .int v)] := hl
  refine lv_aload_n hx hb dX4_leftOut_0 rfl (lv_at hl 0 rfl) ?_
  refine lv_iload_n hx hb dX4_leftOut_1 rfl (lv_at hl 1 rfl) ?_
  exact x_call hst hout hlk (Nat.le_of_ble_eq_true rfl) (Nat.le_of_ble_eq_true rfl) (r_VX (As := [.int v]) (rest := []) am hst hl (x1_X4_completeBoardAt hadI hno hv) kRX4_111 imX4_completeBoardAt slX4_completeBoardAt ⟨rfl, rfl⟩ ⟨Nat.le_of_ble_eq_true rfl, Nat.le_of_ble_eq_true rfl⟩ (by decide) (fun _ _ _ => cE_S) rfl rfl rfl (Nat.le_of_ble_eq_true rfl) dX4_leftOut_2 ⟨Nat.le_of_ble_eq_true rfl, Nat.le_of_ble_eq_true rfl⟩)

set_option maxHeartbeats 4000000 in
set_option maxRecDepth 100000 in
theorem x2_X4_leftOut {l : Launch} {D : va_G} {cy ad : Nat → Nat} {I : Im} {G : Dm} {J : Jm} (hadI : adI ad) (hno : l.stackTraces = false) {n k : Nat} (hn : I 0 2 = nI n) (hk : k < n) (hn2 : n ≤ 32) (hcp : bCompl I G (2 + k) = false) : kX l yX4_leftOut (.code yX4_leftOut cX4_leftOut 3 (some .double)) (rmK 8 1 6 133) D cy ad [.ref (ad 0), .int (nI k)] I G J xISE := by
  refine start_X hadI (by decide +kernel) (Nat.le_of_ble_eq_true rfl) ?_
  intro p e s m below meth cd am hx hb hout hlk hst ls hl
  have hl : lv_has ls 3 [(0, .ref (ad 0)), (1, .int (nI k))] := hl
  refine lv_aload_n hx hb dX4_leftOut_0 rfl (lv_at hl 0 rfl) ?_
  refine lv_iload_n hx hb dX4_leftOut_1 rfl (lv_at hl 1 rfl) ?_
  exact x_call hst hout hlk (Nat.le_of_ble_eq_true rfl) (Nat.le_of_ble_eq_true rfl) (r_VX (As := [.int (nI k)]) (rest := []) am hst hl (x2_X4_completeBoardAt hadI hno hn hk hn2 hcp) kRX4_111 imX4_completeBoardAt slX4_completeBoardAt ⟨rfl, rfl⟩ ⟨Nat.le_of_ble_eq_true rfl, Nat.le_of_ble_eq_true rfl⟩ (by decide) (fun _ _ _ => cE_S) rfl rfl rfl (Nat.le_of_ble_eq_true rfl) dX4_leftOut_2 ⟨Nat.le_of_ble_eq_true rfl, Nat.le_of_ble_eq_true rfl⟩)

set_option maxHeartbeats 4000000 in
set_option maxRecDepth 100000 in
theorem k_X4_limit {l : Launch} {D : va_G} {cy ad : Nat → Nat} {I : Im} {G : Dm} {J : Jm} (hadI : adI ad) {k : Nat} (hk : k < 4) {x X : UInt64} (hxX : cn x = X) (hin : bIn X 0 1000 = true) : kM l yX4_limit (.code yX4_limit cX4_limit 4 none) (rmK 1 0 0 23) D cy ad [.ref (ad 0), .int (nI k), .double x] I G J (qV D cy ad I (u2 G 48 k X) J) := by
  refine start_M hadI (by decide +kernel) (Nat.le_of_ble_eq_true rfl) ?_
  intro p e s m below meth cd am hx hb hr hlk hst ls hl
  have hl : lv_has ls 4 [(0, .ref (ad 0)), (1, .int (nI k)), (2, .double x)] := hl
  refine lv_iload_n hx hb dX4_limit_0 rfl (lv_at hl 1 rfl) ?_
  refine c_v hst (r_S (As := [.int (nI k)]) (rest := []) am hst hl (k_X4_checkClass hadI ⟨nI_pos (by omega), nI_lt (b := 4) (by omega) (by omega)⟩) kRX4_118 smX4_checkClass ⟨Nat.le_of_ble_eq_true rfl, Nat.le_of_ble_eq_true rfl⟩ rfl rfl (Nat.le_of_ble_eq_true rfl) dX4_limit_1 ⟨Nat.le_of_ble_eq_true rfl, Nat.le_of_ble_eq_true rfl⟩) (fun H locs hst => ?_)
  refine lv_dload_n hx hb dX4_limit_4 rfl (lv_at hl 2 rfl) ?_
  refine lv_iconst (v := 0) hx hb dX4_limit_5 (by decide) ?_
  refine lv_sipush (v := 1000) hx hb dX4_limit_6 (by decide) ?_
  refine c_i hst (r_S (As := [.double x, .int 0, .int 1000]) (rest := []) am hst hl (k_X4_isWithin hadI hxX) kRX4_64 smX4_isWithin ⟨Nat.le_of_ble_eq_true rfl, Nat.le_of_ble_eq_true rfl⟩ rfl rfl (Nat.le_of_ble_eq_true rfl) dX4_limit_9 ⟨Nat.le_of_ble_eq_true rfl, Nat.le_of_ble_eq_true rfl⟩) (fun H locs hst => ?_)
  refine c_v hst (r_S (As := [.int (zB (bIn X 0 1000))]) (rest := []) am hst hl (k_X4_need hadI (zB_n0.mpr hin)) kRX4_68 smX4_need ⟨Nat.le_of_ble_eq_true rfl, Nat.le_of_ble_eq_true rfl⟩ rfl rfl (Nat.le_of_ble_eq_true rfl) dX4_limit_12 ⟨Nat.le_of_ble_eq_true rfl, Nat.le_of_ble_eq_true rfl⟩) (fun H locs hst => ?_)
  refine lv_aload_n hx hb dX4_limit_15 rfl (lv_at hl 0 rfl) ?_
  refine w_getR am hst (k := 5) (b := ad 48) (by decide) (fun _ _ _ => cE_S) rfl inT4 (by decide) (fun _ _ _ => rfl) fRX4_30 dX4_limit_16 ?_
  refine lv_iload_n hx hb dX4_limit_19 rfl (lv_at hl 1 rfl) ?_
  refine lv_dload_n hx hb dX4_limit_20 rfl (lv_at hl 2 rfl) ?_
  refine w_dast am hst hxX (by decide) (fun _ _ _ => cE_48) (n := k) (nI_clamp (by omega)) (vp_in_nI (by omega) (by decide)) dX4_limit_21 (fun H locs hst => ?_)
  exact e_v hx hb hr hlk hst dX4_limit_22

set_option maxHeartbeats 4000000 in
set_option maxRecDepth 100000 in
theorem x1_X4_limit {l : Launch} {D : va_G} {cy ad : Nat → Nat} {I : Im} {G : Dm} {J : Jm} (hadI : adI ad) (hno : l.stackTraces = false) {v : Int32} (hv : v < 0 ∨ ¬ v < 4) {x : UInt64} : kX l yX4_limit (.code yX4_limit cX4_limit 4 none) (rmK 7 1 6 110) D cy ad [.ref (ad 0), .int v, .double x] I G J xIOOBE := by
  refine start_X hadI (by decide +kernel) (Nat.le_of_ble_eq_true rfl) ?_
  intro p e s m below meth cd am hx hb hout hlk hst ls hl
  have hl : lv_has ls 4 [(0, .ref (ad 0)), (1, .int v), (2, .double x)] := hl
  refine lv_iload_n hx hb dX4_limit_0 rfl (lv_at hl 1 rfl) ?_
  exact x_call hst hout hlk (Nat.le_of_ble_eq_true rfl) (Nat.le_of_ble_eq_true rfl) (r_SX (As := [.int v]) (rest := []) am hst hl (x_X4_checkClass hadI hno hv) kRX4_118 smX4_checkClass ⟨rfl, rfl⟩ ⟨Nat.le_of_ble_eq_true rfl, Nat.le_of_ble_eq_true rfl⟩ rfl rfl (Nat.le_of_ble_eq_true rfl) dX4_limit_1 ⟨Nat.le_of_ble_eq_true rfl, Nat.le_of_ble_eq_true rfl⟩)

set_option maxHeartbeats 4000000 in
set_option maxRecDepth 100000 in
theorem x2_X4_limit {l : Launch} {D : va_G} {cy ad : Nat → Nat} {I : Im} {G : Dm} {J : Jm} (hadI : adI ad) (hno : l.stackTraces = false) {k : Nat} (hk : k < 4) {x X : UInt64} (hxX : cn x = X) (hin : bIn X 0 1000 = false) : kX l yX4_limit (.code yX4_limit cX4_limit 4 none) (rmK 7 1 6 110) D cy ad [.ref (ad 0), .int (nI k), .double x] I G J xIAE := by
  refine start_X hadI (by decide +kernel) (Nat.le_of_ble_eq_true rfl) ?_
  intro p e s m below meth cd am hx hb hout hlk hst ls hl
  have hl : lv_has ls 4 [(0, .ref (ad 0)), (1, .int (nI k)), (2, .double x)] := hl
  refine lv_iload_n hx hb dX4_limit_0 rfl (lv_at hl 1 rfl) ?_
  refine c_v hst (r_S (As := [.int (nI k)]) (rest := []) am hst hl (k_X4_checkClass hadI ⟨nI_pos (by omega), nI_lt (b := 4) (by omega) (by omega)⟩) kRX4_118 smX4_checkClass ⟨Nat.le_of_ble_eq_true rfl, Nat.le_of_ble_eq_true rfl⟩ rfl rfl (Nat.le_of_ble_eq_true rfl) dX4_limit_1 ⟨Nat.le_of_ble_eq_true rfl, Nat.le_of_ble_eq_true rfl⟩) (fun H locs hst => ?_)
  refine lv_dload_n hx hb dX4_limit_4 rfl (lv_at hl 2 rfl) ?_
  refine lv_iconst (v := 0) hx hb dX4_limit_5 (by decide) ?_
  refine lv_sipush (v := 1000) hx hb dX4_limit_6 (by decide) ?_
  refine c_i hst (r_S (As := [.double x, .int 0, .int 1000]) (rest := []) am hst hl (k_X4_isWithin hadI hxX) kRX4_64 smX4_isWithin ⟨Nat.le_of_ble_eq_true rfl, Nat.le_of_ble_eq_true rfl⟩ rfl rfl (Nat.le_of_ble_eq_true rfl) dX4_limit_9 ⟨Nat.le_of_ble_eq_true rfl, Nat.le_of_ble_eq_true rfl⟩) (fun H locs hst => ?_)
  exact x_call hst hout hlk (Nat.le_of_ble_eq_true rfl) (Nat.le_of_ble_eq_true rfl) (r_SX (As := [.int (zB (bIn X 0 1000))]) (rest := []) am hst hl (x_X4_need hadI hno (zB_0.mpr hin)) kRX4_68 smX4_need ⟨rfl, rfl⟩ ⟨Nat.le_of_ble_eq_true rfl, Nat.le_of_ble_eq_true rfl⟩ rfl rfl (Nat.le_of_ble_eq_true rfl) dX4_limit_12 ⟨Nat.le_of_ble_eq_true rfl, Nat.le_of_ble_eq_true rfl⟩)

set_option maxHeartbeats 4000000 in
set_option maxRecDepth 100000 in
theorem k_X4_setting {l : Launch} {D : va_G} {cy ad : Nat → Nat} {I : Im} {G : Dm} {J : Jm} (hadI : adI ad) {k : Nat} (hk : k < 4) {a b : Int32} (hin : bShare a b 1000 = true) : kD l yX4_setting (.code yX4_setting cX4_setting 5 (some .int)) (rmK 4 0 0 86) D cy ad [.ref (ad 0), .int (nI k), .int a, .int b] I G J (qI D cy ad (stF I (kf1 I G 32) ((kf1 I G 32) 48 k) a b 201 0) I (kf1 I G 32) J) := by
  refine start_D hadI (by decide +kernel) (Nat.le_of_ble_eq_true rfl) ?_
  intro p e s m below meth cd am hx hb hr hlk hst ls hl d0 hd
  have hl : lv_has ls 5 [(0, .ref (ad 0)), (1, .int (nI k)), (2, .int a), (3, .int b)] := hl
  refine lv_iload_n hx hb dX4_setting_0 rfl (lv_at hl 1 rfl) ?_
  refine c_v hst (r_S (As := [.int (nI k)]) (rest := []) am hst hl (k_X4_checkClass hadI ⟨nI_pos (by omega), nI_lt (b := 4) (by omega) (by omega)⟩) kRX4_118 smX4_checkClass ⟨Nat.le_of_ble_eq_true rfl, Nat.le_of_ble_eq_true rfl⟩ rfl rfl (Nat.le_of_ble_eq_true rfl) dX4_setting_1 ⟨Nat.le_of_ble_eq_true rfl, Nat.le_of_ble_eq_true rfl⟩) (fun H locs hst => ?_)
  refine lv_iload_n hx hb dX4_setting_4 rfl (lv_at hl 2 rfl) ?_
  refine lv_iload_n hx hb dX4_setting_5 rfl (lv_at hl 3 rfl) ?_
  refine lv_sipush (v := 1000) hx hb dX4_setting_6 (by decide) ?_
  refine c_i hst (r_S (As := [.int a, .int b, .int 1000]) (rest := []) am hst hl (k_X4_isShare hadI) kRX4_122 smX4_isShare ⟨Nat.le_of_ble_eq_true rfl, Nat.le_of_ble_eq_true rfl⟩ rfl rfl (Nat.le_of_ble_eq_true rfl) dX4_setting_9 ⟨Nat.le_of_ble_eq_true rfl, Nat.le_of_ble_eq_true rfl⟩) (fun H locs hst => ?_)
  refine c_v hst (r_S (As := [.int (zB (bShare a b 1000))]) (rest := []) am hst hl (k_X4_need hadI (zB_n0.mpr hin)) kRX4_68 smX4_need ⟨Nat.le_of_ble_eq_true rfl, Nat.le_of_ble_eq_true rfl⟩ rfl rfl (Nat.le_of_ble_eq_true rfl) dX4_setting_12 ⟨Nat.le_of_ble_eq_true rfl, Nat.le_of_ble_eq_true rfl⟩) (fun H locs hst => ?_)
  refine lv_aload_n hx hb dX4_setting_15 rfl (lv_at hl 0 rfl) ?_
  refine c_vD hd hst (r_VD (As := []) (rest := []) am hst hl (k_X4_keepForetold hadI) kRX4_126 imX4_keepForetold slX4_keepForetold ⟨Nat.le_of_ble_eq_true rfl, Nat.le_of_ble_eq_true rfl⟩ (by decide) (fun _ _ _ => cE_S) rfl rfl rfl (Nat.le_of_ble_eq_true rfl) dX4_setting_16 ⟨Nat.le_of_ble_eq_true rfl, Nat.le_of_ble_eq_true rfl⟩) (fun d0 H locs hd hst => ?_)
  refine lv_iconst (v := 0) hx hb dX4_setting_19 (by decide) ?_
  refine lv_istore (lv' := [(4, .int 0), (0, .ref (ad 0)), (1, .int (nI k)), (2, .int a), (3, .int b)]) hx hb dX4_setting_20 hl (by decide) rfl (fun ls hl => ?_)
  have lp0 : ∀ (n i : Nat), n + i = 201 → stF I (kf1 I G 32) ((kf1 I G 32) 48 k) a b n i = stF I (kf1 I G 32) ((kf1 I G 32) 48 k) a b 201 0 → ∀ d0 : Drawn, s.drawn.sameBut d0 lw_cs → ∀ (H : Heap) (locs : List Loc), St D cy ad s.heap I ((kf1 I G 32)) J H locs → ∀ ls, lv_has ls 5 [(0, .ref (ad 0)), (1, .int (nI k)), (2, .int a), (3, .int b), (4, .int (nI i))] → W p l e (rmK 4 0 0 86) (s.setDrawn d0) m [.ref (ad 0), .int (nI k), .int a, .int b].toArray below meth cd H locs 0 0 (MQD lw_cs below (qI D cy ad (stF I (kf1 I G 32) ((kf1 I G 32) 48 k) a b 201 0) I (kf1 I G 32) J s.heap.size) [.ref (ad 0), .int (nI k), .int a, .int b].toArray s ((rmK 4 0 0 86)).cells ((rmK 4 0 0 86)).slots (aA ad s.heap.size)) (F0 m 22 ls []) := by
    intro n
    induction n with
    | zero =>
      intro i hi hR d0 hd H locs hst ls hl
      obtain rfl : 201 = i := by omega
      refine lv_iload hx hb dX4_setting_22 (lv_at hl 4 rfl) ?_
      refine lv_sipush (v := 200) hx hb dX4_setting_24 (by decide) ?_
      refine lv_icmp_gt (tgt := 61) hx hb dX4_setting_27 (by decide) (fun c_27 => ?_) (fun c_27 => absurd ((show (200 : Int32) < nI 201 by decide)) c_27)
      refine lv_iconst (v := (-1)) hx hb dX4_setting_61 (by decide) ?_
      exact e_iD hd hx hb hr hlk hst rfl (by rw [← hR]; rfl) dX4_setting_62
    | succ n ih_lp0 =>
      intro i hi hR d0 hd H locs hst ls hl
      refine lv_iload hx hb dX4_setting_22 (lv_at hl 4 rfl) ?_
      refine lv_sipush (v := 200) hx hb dX4_setting_24 (by decide) ?_
      refine lv_icmp_gt (tgt := 61) hx hb dX4_setting_27 (by decide) (fun c_27 => absurd c_27 ((nI_nlt (a := 200) (by omega) (by omega)))) (fun c_27 => ?_)
      refine lv_aload_n hx hb dX4_setting_30 rfl (lv_at hl 0 rfl) ?_
      refine lv_iload hx hb dX4_setting_31 (lv_at hl 4 rfl) ?_
      refine w_i2d hx hb dX4_setting_33 (fun x1 hx1 => ?_)
      refine lv_ldc2d hx hb am.2.2.2.1 (amT am _ wRX4_129) dX4_setting_34 ?_
      refine w_ddiv hd hx hb hx1 cn_k4616189618054758400 dX4_setting_37 (fun x2 d0 hx2 hd => ?_)
      refine lv_aload_n hx hb dX4_setting_38 rfl (lv_at hl 0 rfl) ?_
      refine w_getR am hst (k := 5) (b := ad 48) (by decide) (fun _ _ _ => cE_S) rfl inT4 (by decide) (fun _ _ _ => rfl) fRX4_30 dX4_setting_39 ?_
      refine lv_iload_n hx hb dX4_setting_42 rfl (lv_at hl 1 rfl) ?_
      refine w_dald am hst (by decide) (fun _ _ _ => cE_48) (n := k) (nI_clamp (by omega)) (vp_in_nI (by omega) (by decide)) dX4_setting_43 (fun x3 hx3 => ?_)
      refine lv_iload_n hx hb dX4_setting_44 rfl (lv_at hl 2 rfl) ?_
      refine lv_iload_n hx hb dX4_setting_45 rfl (lv_at hl 3 rfl) ?_
      refine c_i hst (r_V (As := [.double x2, .double x3, .int a, .int b]) (rest := []) am hst hl (k_X4_isEnough hadI hx2 hx3) kRX4_131 imX4_isEnough slX4_isEnough ⟨Nat.le_of_ble_eq_true rfl, Nat.le_of_ble_eq_true rfl⟩ (by decide) (fun _ _ _ => cE_S) rfl rfl rfl (Nat.le_of_ble_eq_true rfl) dX4_setting_46 ⟨Nat.le_of_ble_eq_true rfl, Nat.le_of_ble_eq_true rfl⟩) (fun H locs hst => ?_)
      refine lv_if_eq (tgt := 55) hx hb dX4_setting_49 (by decide) (fun c_49 => ?_) (fun c_49 => ?_)
      · skip
        refine lv_iinc (v := nI (i + 1)) (lv' := [(4, .int (nI (i + 1))), (0, .ref (ad 0)), (1, .int (nI k)), (2, .int a), (3, .int b)]) hx hb dX4_setting_55 hl (k := 4) rfl (nI_1 i) (by decide) rfl (fun ls hl => ?_)
        refine lv_goto (tgt := 22) hx hb dX4_setting_58 (by decide) ?_
        exact ih_lp0 (i + 1) (by omega) (by rw [← hR, stF, if_neg (fun h => by rw [zB_0.mp c_49] at h; cases h)]) d0 hd _ _ hst ls (lv_sub hl [1, 2, 3, 4, 0] rfl)
      · skip
        refine lv_iload hx hb dX4_setting_52 (lv_at hl 4 rfl) ?_
        exact e_iD hd hx hb hr hlk hst rfl (by rw [← hR, stF, if_pos (zB_n0.mp c_49)]) dX4_setting_54
  exact lp0 201 0 (by omega) rfl d0 hd _ _ hst ls (lv_sub hl [1, 2, 3, 4, 0] rfl)

set_option maxHeartbeats 4000000 in
set_option maxRecDepth 100000 in
theorem x1_X4_setting {l : Launch} {D : va_G} {cy ad : Nat → Nat} {I : Im} {G : Dm} {J : Jm} (hadI : adI ad) (hno : l.stackTraces = false) {v a b : Int32} (hv : v < 0 ∨ ¬ v < 4) : kX l yX4_setting (.code yX4_setting cX4_setting 5 (some .int)) (rmK 7 1 6 110) D cy ad [.ref (ad 0), .int v, .int a, .int b] I G J xIOOBE := by
  refine start_X hadI (by decide +kernel) (Nat.le_of_ble_eq_true rfl) ?_
  intro p e s m below meth cd am hx hb hout hlk hst ls hl
  have hl : lv_has ls 5 [(0, .ref (ad 0)), (1, .int v), (2, .int a), (3, .int b)] := hl
  refine lv_iload_n hx hb dX4_setting_0 rfl (lv_at hl 1 rfl) ?_
  exact x_call hst hout hlk (Nat.le_of_ble_eq_true rfl) (Nat.le_of_ble_eq_true rfl) (r_SX (As := [.int v]) (rest := []) am hst hl (x_X4_checkClass hadI hno hv) kRX4_118 smX4_checkClass ⟨rfl, rfl⟩ ⟨Nat.le_of_ble_eq_true rfl, Nat.le_of_ble_eq_true rfl⟩ rfl rfl (Nat.le_of_ble_eq_true rfl) dX4_setting_1 ⟨Nat.le_of_ble_eq_true rfl, Nat.le_of_ble_eq_true rfl⟩)

set_option maxHeartbeats 4000000 in
set_option maxRecDepth 100000 in
theorem x2_X4_setting {l : Launch} {D : va_G} {cy ad : Nat → Nat} {I : Im} {G : Dm} {J : Jm} (hadI : adI ad) (hno : l.stackTraces = false) {k : Nat} (hk : k < 4) {a b : Int32} (hin : bShare a b 1000 = false) : kX l yX4_setting (.code yX4_setting cX4_setting 5 (some .int)) (rmK 7 1 6 110) D cy ad [.ref (ad 0), .int (nI k), .int a, .int b] I G J xIAE := by
  refine start_X hadI (by decide +kernel) (Nat.le_of_ble_eq_true rfl) ?_
  intro p e s m below meth cd am hx hb hout hlk hst ls hl
  have hl : lv_has ls 5 [(0, .ref (ad 0)), (1, .int (nI k)), (2, .int a), (3, .int b)] := hl
  refine lv_iload_n hx hb dX4_setting_0 rfl (lv_at hl 1 rfl) ?_
  refine c_v hst (r_S (As := [.int (nI k)]) (rest := []) am hst hl (k_X4_checkClass hadI ⟨nI_pos (by omega), nI_lt (b := 4) (by omega) (by omega)⟩) kRX4_118 smX4_checkClass ⟨Nat.le_of_ble_eq_true rfl, Nat.le_of_ble_eq_true rfl⟩ rfl rfl (Nat.le_of_ble_eq_true rfl) dX4_setting_1 ⟨Nat.le_of_ble_eq_true rfl, Nat.le_of_ble_eq_true rfl⟩) (fun H locs hst => ?_)
  refine lv_iload_n hx hb dX4_setting_4 rfl (lv_at hl 2 rfl) ?_
  refine lv_iload_n hx hb dX4_setting_5 rfl (lv_at hl 3 rfl) ?_
  refine lv_sipush (v := 1000) hx hb dX4_setting_6 (by decide) ?_
  refine c_i hst (r_S (As := [.int a, .int b, .int 1000]) (rest := []) am hst hl (k_X4_isShare hadI) kRX4_122 smX4_isShare ⟨Nat.le_of_ble_eq_true rfl, Nat.le_of_ble_eq_true rfl⟩ rfl rfl (Nat.le_of_ble_eq_true rfl) dX4_setting_9 ⟨Nat.le_of_ble_eq_true rfl, Nat.le_of_ble_eq_true rfl⟩) (fun H locs hst => ?_)
  exact x_call hst hout hlk (Nat.le_of_ble_eq_true rfl) (Nat.le_of_ble_eq_true rfl) (r_SX (As := [.int (zB (bShare a b 1000))]) (rest := []) am hst hl (x_X4_need hadI hno (zB_0.mpr hin)) kRX4_68 smX4_need ⟨rfl, rfl⟩ ⟨Nat.le_of_ble_eq_true rfl, Nat.le_of_ble_eq_true rfl⟩ rfl rfl (Nat.le_of_ble_eq_true rfl) dX4_setting_12 ⟨Nat.le_of_ble_eq_true rfl, Nat.le_of_ble_eq_true rfl⟩)

