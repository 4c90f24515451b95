/-! the chart; how many bits of an int are set, as java.lang.Integer reckons it -/
def bcU (x y : Int32) : Int32 := (x.toUInt32 >>> (y.toUInt32 &&& Int32.toUInt32 31)).toInt32
def bc1 (x : Int32) : Int32 := x - (bcU x 1 &&& 1431655765)
def bc2 (x : Int32) : Int32 := (x &&& 858993459) + (bcU x 2 &&& 858993459)
def bc3 (x : Int32) : Int32 := (x + bcU x 4) &&& 252645135
def bc4 (x : Int32) : Int32 := x + bcU x 8
def bc5 (x : Int32) : Int32 := x + bcU x 16
def bcF (x : Int32) : Int32 := bc5 (bc4 (bc3 (bc2 (bc1 x)))) &&& 63
def chB (I : Im) (b : Bool) : Int32 := ((I 49 2 <<< ((1 : Int32) &&& 31)) ||| zB b) &&& (((1 : Int32) <<< (I 49 0 &&& 31)) - 1)
def chM (I : Im) (b : Bool) : Im := u2 I 49 2 (chB I b)
def chR (I : Im) (b : Bool) : Bool := decide (chM I b 49 3 ≤ 0) && decide (chM I b 49 1 < bcF (chM I b 49 2))
def chI (I : Im) (b : Bool) : Im := if chM I b 49 3 ≤ 0 then (if chM I b 49 1 < bcF (chM I b 49 2) then u2 (chM I b) 49 3 (chM I b 49 0) else chM I b) else u2 (chM I b) 49 3 (chM I b 49 3 - 1)
set_option maxHeartbeats 4000000 in
set_option maxRecDepth 100000 in
theorem k_J6_bitCount {l : Launch} {D : va_G} {cy ad : Nat → Nat} {I : Im} {G : Dm} {J : Jm} (hadI : adI ad) {v : Int32} : kM l yJ6_bitCount_0f7a4 (.code yJ6_bitCount_0f7a4 cJ6_bitCount_0f7a4 1 (some .int)) (rmK 0 0 0 0) D cy ad [.int v] I G J (qI D cy ad (bcF v) I G J) := by
  refine start_M hadI (by decide +kernel) (Nat.le_of_ble_eq_true rfl) ?_
  intro p e s m below meth cd am hx hb hr hlk hst ls hl
  have hl : lv_has ls 1 [(0, .int v)] := hl
  refine lv_iload_n hx hb dJ6_bitCount_0f7a4_0 rfl (lv_at hl 0 rfl) ?_
  refine lv_iload_n hx hb dJ6_bitCount_0f7a4_1 rfl (lv_at hl 0 rfl) ?_
  refine lv_iconst (v := 1) hx hb dJ6_bitCount_0f7a4_2 (by decide) ?_
  refine lv_iushr hx hb dJ6_bitCount_0f7a4_3 rfl ?_
  refine lv_ldcw hx hb am.2.2.2.1 (amT am _ wRJ6_265) dJ6_bitCount_0f7a4_4 ?_
  refine lv_iand hx hb dJ6_bitCount_0f7a4_7 ?_
  refine lv_isub hx hb dJ6_bitCount_0f7a4_8 ?_
  refine lv_istore_n (lv' := [(0, .int (bc1 v))]) hx hb dJ6_bitCount_0f7a4_9 rfl hl (by decide) rfl (fun ls hl => ?_)
  refine lv_iload_n hx hb dJ6_bitCount_0f7a4_10 rfl (lv_at hl 0 rfl) ?_
  refine lv_ldcw hx hb am.2.2.2.1 (amT am _ wRJ6_266) dJ6_bitCount_0f7a4_11 ?_
  refine lv_iand hx hb dJ6_bitCount_0f7a4_14 ?_
  refine lv_iload_n hx hb dJ6_bitCount_0f7a4_15 rfl (lv_at hl 0 rfl) ?_
  refine lv_iconst (v := 2) hx hb dJ6_bitCount_0f7a4_16 (by decide) ?_
  refine lv_iushr hx hb dJ6_bitCount_0f7a4_17 rfl ?_
  refine lv_ldcw hx hb am.2.2.2.1 (amT am _ wRJ6_266) dJ6_bitCount_0f7a4_18 ?_
  refine lv_iand hx hb dJ6_bitCount_0f7a4_21 ?_
  refine lv_iadd hx hb dJ6_bitCount_0f7a4_22 ?_
  refine lv_istore_n (lv' := [(0, .int (bc2 (bc1 v)))]) hx hb dJ6_bitCount_0f7a4_23 rfl hl (by decide) rfl (fun ls hl => ?_)
  refine lv_iload_n hx hb dJ6_bitCount_0f7a4_24 rfl (lv_at hl 0 rfl) ?_
  refine lv_iload_n hx hb dJ6_bitCount_0f7a4_25 rfl (lv_at hl 0 rfl) ?_
  refine lv_iconst (v := 4) hx hb dJ6_bitCount_0f7a4_26 (by decide) ?_
  refine lv_iushr hx hb dJ6_bitCount_0f7a4_27 rfl ?_
  refine lv_iadd hx hb dJ6_bitCount_0f7a4_28 ?_
  refine lv_ldcw hx hb am.2.2.2.1 (amT am _ wRJ6_267) dJ6_bitCount_0f7a4_29 ?_
  refine lv_iand hx hb dJ6_bitCount_0f7a4_32 ?_
  refine lv_istore_n (lv' := [(0, .int (bc3 (bc2 (bc1 v))))]) hx hb dJ6_bitCount_0f7a4_33 rfl hl (by decide) rfl (fun ls hl => ?_)
  refine lv_iload_n hx hb dJ6_bitCount_0f7a4_34 rfl (lv_at hl 0 rfl) ?_
  refine lv_iload_n hx hb dJ6_bitCount_0f7a4_35 rfl (lv_at hl 0 rfl) ?_
  refine lv_bipush (v := 8) hx hb dJ6_bitCount_0f7a4_36 (by decide) ?_
  refine lv_iushr hx hb dJ6_bitCount_0f7a4_38 rfl ?_
  refine lv_iadd hx hb dJ6_bitCount_0f7a4_39 ?_
  refine lv_istore_n (lv' := [(0, .int (bc4 (bc3 (bc2 (bc1 v)))))]) hx hb dJ6_bitCount_0f7a4_40 rfl hl (by decide) rfl (fun ls hl => ?_)
  refine lv_iload_n hx hb dJ6_bitCount_0f7a4_41 rfl (lv_at hl 0 rfl) ?_
  refine lv_iload_n hx hb dJ6_bitCount_0f7a4_42 rfl (lv_at hl 0 rfl) ?_
  refine lv_bipush (v := 16) hx hb dJ6_bitCount_0f7a4_43 (by decide) ?_
  refine lv_iushr hx hb dJ6_bitCount_0f7a4_45 rfl ?_
  refine lv_iadd hx hb dJ6_bitCount_0f7a4_46 ?_
  refine lv_istore_n (lv' := [(0, .int (bc5 (bc4 (bc3 (bc2 (bc1 v))))))]) hx hb dJ6_bitCount_0f7a4_47 rfl hl (by decide) rfl (fun ls hl => ?_)
  refine lv_iload_n hx hb dJ6_bitCount_0f7a4_48 rfl (lv_at hl 0 rfl) ?_
  refine lv_bipush (v := 63) hx hb dJ6_bitCount_0f7a4_49 (by decide) ?_
  refine lv_iand hx hb dJ6_bitCount_0f7a4_51 ?_
  exact e_i hx hb hr hlk hst rfl rfl dJ6_bitCount_0f7a4_52

set_option maxHeartbeats 4000000 in
set_option maxRecDepth 100000 in
theorem k_X1_begin {l : Launch} {D : va_G} {cy ad : Nat → Nat} {I : Im} {G : Dm} {J : Jm} (hadI : adI ad) {a b : Int32} : kM l yX1_begin (.code yX1_begin cX1_begin 3 none) (rmK 0 0 0 0) D cy ad [.ref (ad 49), .int a, .int b] I G J (qV D cy ad (u2 (u2 (u2 (u2 I 49 0 a) 49 1 b) 49 2 0) 49 3 0) G J) := by
  refine start_M hadI (by decide +kernel) (Nat.le_of_ble_eq_true rfl) ?_
  intro p e s m below meth cd am hx hb hr hlk hst ls hl
  have hl : lv_has ls 3 [(0, .ref (ad 49)), (1, .int a), (2, .int b)] := hl
  refine lv_aload_n hx hb dX1_begin_0 rfl (lv_at hl 0 rfl) ?_
  refine lv_iload_n hx hb dX1_begin_1 rfl (lv_at hl 1 rfl) ?_
  refine w_putI am hst (k := 0) (by decide) (fun _ _ _ => cE_49) rfl inT1 tyX1 tyX1_ok nmX1 (by decide) fRX1_9 (fun _ _ _ => rfl) (fun _ _ _ => Nat.le_of_ble_eq_true rfl) rfl rfl rfl rfl dX1_begin_2 (fun H locs hst => ?_)
  refine lv_aload_n hx hb dX1_begin_5 rfl (lv_at hl 0 rfl) ?_
  refine lv_iload_n hx hb dX1_begin_6 rfl (lv_at hl 2 rfl) ?_
  refine w_putI am hst (k := 1) (by decide) (fun _ _ _ => cE_49) rfl inT1 tyX1 tyX1_ok nmX1 (by decide) fRX1_15 (fun _ _ _ => rfl) (fun _ _ _ => Nat.le_of_ble_eq_true rfl) rfl rfl rfl rfl dX1_begin_7 (fun H locs hst => ?_)
  refine lv_aload_n hx hb dX1_begin_10 rfl (lv_at hl 0 rfl) ?_
  refine lv_iconst (v := 0) hx hb dX1_begin_11 (by decide) ?_
  refine w_putI am hst (k := 2) (by decide) (fun _ _ _ => cE_49) rfl inT1 tyX1 tyX1_ok nmX1 (by decide) fRX1_18 (fun _ _ _ => rfl) (fun _ _ _ => Nat.le_of_ble_eq_true rfl) rfl rfl rfl rfl dX1_begin_12 (fun H locs hst => ?_)
  refine lv_aload_n hx hb dX1_begin_15 rfl (lv_at hl 0 rfl) ?_
  refine lv_iconst (v := 0) hx hb dX1_begin_16 (by decide) ?_
  refine w_putI am hst (k := 3) (by decide) (fun _ _ _ => cE_49) rfl inT1 tyX1 tyX1_ok nmX1 (by decide) fRX1_21 (fun _ _ _ => rfl) (fun _ _ _ => Nat.le_of_ble_eq_true rfl) rfl rfl rfl rfl dX1_begin_17 (fun H locs hst => ?_)
  exact e_v hx hb hr hlk hst dX1_begin_20

set_option maxHeartbeats 4000000 in
set_option maxRecDepth 100000 in
theorem k_X1_actsAt {l : Launch} {D : va_G} {cy ad : Nat → Nat} {I : Im} {G : Dm} {J : Jm} (hadI : adI ad) {b : Bool} : kM l yX1_actsAt (.code yX1_actsAt cX1_actsAt 2 (some .boolean)) (rmK 1 0 0 20) D cy ad [.ref (ad 49), .int (zB b)] I G J (qI D cy ad (zB (chR I b)) (chI I b) G J) := by
  refine start_M hadI (by decide +kernel) (Nat.le_of_ble_eq_true rfl) ?_
  intro p e s m below meth cd am hx hb hr hlk hst ls hl
  have hl : lv_has ls 2 [(0, .ref (ad 49)), (1, .int (zB b))] := hl
  cases b
  · have hl : lv_has ls 2 [(0, .ref (ad 49)), (1, .int (zB false))] := hl
    refine lv_aload_n hx hb dX1_actsAt_0 rfl (lv_at hl 0 rfl) ?_
    refine lv_aload_n hx hb dX1_actsAt_1 rfl (lv_at hl 0 rfl) ?_
    refine w_getI am hst (k := 2) (by decide) (fun _ _ _ => cE_49) rfl inT1 (by decide) (fun _ _ _ => rfl) fRX1_18 dX1_actsAt_2 ?_
    refine lv_iconst (v := 1) hx hb dX1_actsAt_5 (by decide) ?_
    refine lv_ishl hx hb dX1_actsAt_6 ?_
    refine lv_iload_n hx hb dX1_actsAt_7 rfl (lv_at hl 1 rfl) ?_
    refine lv_if_eq (tgt := 15) hx hb dX1_actsAt_8 (by decide) (fun c_8 => ?_) (fun c_8 => absurd rfl c_8)
    refine lv_iconst (v := 0) hx hb dX1_actsAt_15 (by decide) ?_
    refine lv_ior hx hb dX1_actsAt_16 ?_
    refine lv_iconst (v := 1) hx hb dX1_actsAt_17 (by decide) ?_
    refine lv_aload_n hx hb dX1_actsAt_18 rfl (lv_at hl 0 rfl) ?_
    refine w_getI am hst (k := 0) (by decide) (fun _ _ _ => cE_49) rfl inT1 (by decide) (fun _ _ _ => rfl) fRX1_9 dX1_actsAt_19 ?_
    refine lv_ishl hx hb dX1_actsAt_22 ?_
    refine lv_iconst (v := 1) hx hb dX1_actsAt_23 (by decide) ?_
    refine lv_isub hx hb dX1_actsAt_24 ?_
    refine lv_iand hx hb dX1_actsAt_25 ?_
    refine w_putI am hst (k := 2) (by decide) (fun _ _ _ => cE_49) rfl inT1 tyX1 tyX1_ok nmX1 (by decide) fRX1_18 (fun _ _ _ => rfl) (fun _ _ _ => Nat.le_of_ble_eq_true rfl) rfl rfl rfl rfl dX1_actsAt_26 (fun H locs hst => ?_)
    have hst : St D cy ad s.heap (chM I false) G J H locs := hst
    refine lv_aload_n hx hb dX1_actsAt_29 rfl (lv_at hl 0 rfl) ?_
    refine w_getI am hst (k := 3) (by decide) (fun _ _ _ => cE_49) rfl inT1 (by decide) (fun _ _ _ => rfl) fRX1_21 dX1_actsAt_30 ?_
    refine lv_if_le (tgt := 48) hx hb dX1_actsAt_33 (by decide) (fun c_33 => ?_) (fun c_33 => ?_)
    · skip
      refine lv_aload_n hx hb dX1_actsAt_48 rfl (lv_at hl 0 rfl) ?_
      refine w_getI am hst (k := 2) (by decide) (fun _ _ _ => cE_49) rfl inT1 (by decide) (fun _ _ _ => rfl) fRX1_18 dX1_actsAt_49 ?_
      refine c_i hst (r_S (As := [.int ((chM I false) 49 2)]) (rest := []) am hst hl (k_J6_bitCount hadI) kRX1_24 smJ6_bitCount_0f7a4 ⟨Nat.le_of_ble_eq_true rfl, Nat.le_of_ble_eq_true rfl⟩ rfl rfl (Nat.le_of_ble_eq_true rfl) dX1_actsAt_52 ⟨Nat.le_of_ble_eq_true rfl, Nat.le_of_ble_eq_true rfl⟩) (fun H locs hst => ?_)
      refine lv_aload_n hx hb dX1_actsAt_55 rfl (lv_at hl 0 rfl) ?_
      refine w_getI am hst (k := 1) (by decide) (fun _ _ _ => cE_49) rfl inT1 (by decide) (fun _ _ _ => rfl) fRX1_15 dX1_actsAt_56 ?_
      refine lv_icmp_gt (tgt := 64) hx hb dX1_actsAt_59 (by decide) (fun c_59 => ?_) (fun c_59 => ?_)
      · skip
        refine lv_aload_n hx hb dX1_actsAt_64 rfl (lv_at hl 0 rfl) ?_
        refine lv_aload_n hx hb dX1_actsAt_65 rfl (lv_at hl 0 rfl) ?_
        refine w_getI am hst (k := 0) (by decide) (fun _ _ _ => cE_49) rfl inT1 (by decide) (fun _ _ _ => rfl) fRX1_9 dX1_actsAt_66 ?_
        refine w_putI am hst (k := 3) (by decide) (fun _ _ _ => cE_49) rfl inT1 tyX1 tyX1_ok nmX1 (by decide) fRX1_21 (fun _ _ _ => rfl) (fun _ _ _ => Nat.le_of_ble_eq_true rfl) rfl rfl rfl rfl dX1_actsAt_69 (fun H locs hst => ?_)
        refine lv_iconst (v := 1) hx hb dX1_actsAt_72 (by decide) ?_
        have hst : St D cy ad s.heap (chI I false) G J H locs := by rw [chI, if_pos c_33, if_pos c_59]; exact hst
        exact e_i hx hb hr hlk hst rfl (by simp only [chR, zB, c_33, c_59, not_true_eq_false, not_false_eq_true, decide_true, decide_false, Bool.true_and, Bool.false_and, Bool.and_true, Bool.and_false, Bool.and_self, if_true, if_false, ite_true, ite_false, reduceIte, Bool.false_eq_true]) dX1_actsAt_73
      · skip
        refine lv_iconst (v := 0) hx hb dX1_actsAt_62 (by decide) ?_
        have hst : St D cy ad s.heap (chI I false) G J H locs := by rw [chI, if_pos c_33, if_neg c_59]; exact hst
        exact e_i hx hb hr hlk hst rfl (by simp only [chR, zB, c_33, c_59, not_true_eq_false, not_false_eq_true, decide_true, decide_false, Bool.true_and, Bool.false_and, Bool.and_true, Bool.and_false, Bool.and_self, if_true, if_false, ite_true, ite_false, reduceIte, Bool.false_eq_true]) dX1_actsAt_63
    · skip
      refine lv_aload_n hx hb dX1_actsAt_36 rfl (lv_at hl 0 rfl) ?_
      refine lv_dup hx hb dX1_actsAt_37 rfl ?_
      refine w_getI am hst (k := 3) (by decide) (fun _ _ _ => cE_49) rfl inT1 (by decide) (fun _ _ _ => rfl) fRX1_21 dX1_actsAt_38 ?_
      refine lv_iconst (v := 1) hx hb dX1_actsAt_41 (by decide) ?_
      refine lv_isub hx hb dX1_actsAt_42 ?_
      refine w_putI am hst (k := 3) (by decide) (fun _ _ _ => cE_49) rfl inT1 tyX1 tyX1_ok nmX1 (by decide) fRX1_21 (fun _ _ _ => rfl) (fun _ _ _ => Nat.le_of_ble_eq_true rfl) rfl rfl rfl rfl dX1_actsAt_43 (fun H locs hst => ?_)
      refine lv_iconst (v := 0) hx hb dX1_actsAt_46 (by decide) ?_
      have hst : St D cy ad s.heap (chI I false) G J H locs := by rw [chI, if_neg c_33]; exact hst
      exact e_i hx hb hr hlk hst rfl (by simp only [chR, zB, c_33, not_true_eq_false, not_false_eq_true, decide_true, decide_false, Bool.true_and, Bool.false_and, Bool.and_true, Bool.and_false, Bool.and_self, if_true, if_false, ite_true, ite_false, reduceIte, Bool.false_eq_true]) dX1_actsAt_47
  · have hl : lv_has ls 2 [(0, .ref (ad 49)), (1, .int (zB true))] := hl
    refine lv_aload_n hx hb dX1_actsAt_0 rfl (lv_at hl 0 rfl) ?_
    refine lv_aload_n hx hb dX1_actsAt_1 rfl (lv_at hl 0 rfl) ?_
    refine w_getI am hst (k := 2) (by decide) (fun _ _ _ => cE_49) rfl inT1 (by decide) (fun _ _ _ => rfl) fRX1_18 dX1_actsAt_2 ?_
    refine lv_iconst (v := 1) hx hb dX1_actsAt_5 (by decide) ?_
    refine lv_ishl hx hb dX1_actsAt_6 ?_
    refine lv_iload_n hx hb dX1_actsAt_7 rfl (lv_at hl 1 rfl) ?_
    refine lv_if_eq (tgt := 15) hx hb dX1_actsAt_8 (by decide) (fun c_8 => absurd c_8 ((show ¬ zB true = 0 by decide))) (fun c_8 => ?_)
    refine lv_iconst (v := 1) hx hb dX1_actsAt_11 (by decide) ?_
    refine lv_goto (tgt := 16) hx hb dX1_actsAt_12 (by decide) ?_
    refine lv_ior hx hb dX1_actsAt_16 ?_
    refine lv_iconst (v := 1) hx hb dX1_actsAt_17 (by decide) ?_
    refine lv_aload_n hx hb dX1_actsAt_18 rfl (lv_at hl 0 rfl) ?_
    refine w_getI am hst (k := 0) (by decide) (fun _ _ _ => cE_49) rfl inT1 (by decide) (fun _ _ _ => rfl) fRX1_9 dX1_actsAt_19 ?_
    refine lv_ishl hx hb dX1_actsAt_22 ?_
    refine lv_iconst (v := 1) hx hb dX1_actsAt_23 (by decide) ?_
    refine lv_isub hx hb dX1_actsAt_24 ?_
    refine lv_iand hx hb dX1_actsAt_25 ?_
    refine w_putI am hst (k := 2) (by decide) (fun _ _ _ => cE_49) rfl inT1 tyX1 tyX1_ok nmX1 (by decide) fRX1_18 (fun _ _ _ => rfl) (fun _ _ _ => Nat.le_of_ble_eq_true rfl) rfl rfl rfl rfl dX1_actsAt_26 (fun H locs hst => ?_)
    have hst : St D cy ad s.heap (chM I true) G J H locs := hst
    refine lv_aload_n hx hb dX1_actsAt_29 rfl (lv_at hl 0 rfl) ?_
    refine w_getI am hst (k := 3) (by decide) (fun _ _ _ => cE_49) rfl inT1 (by decide) (fun _ _ _ => rfl) fRX1_21 dX1_actsAt_30 ?_
    refine lv_if_le (tgt := 48) hx hb dX1_actsAt_33 (by decide) (fun c_33 => ?_) (fun c_33 => ?_)
    · skip
      refine lv_aload_n hx hb dX1_actsAt_48 rfl (lv_at hl 0 rfl) ?_
      refine w_getI am hst (k := 2) (by decide) (fun _ _ _ => cE_49) rfl inT1 (by decide) (fun _ _ _ => rfl) fRX1_18 dX1_actsAt_49 ?_
      refine c_i hst (r_S (As := [.int ((chM I true) 49 2)]) (rest := []) am hst hl (k_J6_bitCount hadI) kRX1_24 smJ6_bitCount_0f7a4 ⟨Nat.le_of_ble_eq_true rfl, Nat.le_of_ble_eq_true rfl⟩ rfl rfl (Nat.le_of_ble_eq_true rfl) dX1_actsAt_52 ⟨Nat.le_of_ble_eq_true rfl, Nat.le_of_ble_eq_true rfl⟩) (fun H locs hst => ?_)
      refine lv_aload_n hx hb dX1_actsAt_55 rfl (lv_at hl 0 rfl) ?_
      refine w_getI am hst (k := 1) (by decide) (fun _ _ _ => cE_49) rfl inT1 (by decide) (fun _ _ _ => rfl) fRX1_15 dX1_actsAt_56 ?_
      refine lv_icmp_gt (tgt := 64) hx hb dX1_actsAt_59 (by decide) (fun c_59 => ?_) (fun c_59 => ?_)
      · skip
        refine lv_aload_n hx hb dX1_actsAt_64 rfl (lv_at hl 0 rfl) ?_
        refine lv_aload_n hx hb dX1_actsAt_65 rfl (lv_at hl 0 rfl) ?_
        refine w_getI am hst (k := 0) (by decide) (fun _ _ _ => cE_49) rfl inT1 (by decide) (fun _ _ _ => rfl) fRX1_9 dX1_actsAt_66 ?_
        refine w_putI am hst (k := 3) (by decide) (fun _ _ _ => cE_49) rfl inT1 tyX1 tyX1_ok nmX1 (by decide) fRX1_21 (fun _ _ _ => rfl) (fun _ _ _ => Nat.le_of_ble_eq_true rfl) rfl rfl rfl rfl dX1_actsAt_69 (fun H locs hst => ?_)
        refine lv_iconst (v := 1) hx hb dX1_actsAt_72 (by decide) ?_
        have hst : St D cy ad s.heap (chI I true) G J H locs := by rw [chI, if_pos c_33, if_pos c_59]; exact hst
        exact e_i hx hb hr hlk hst rfl (by simp only [chR, zB, c_33, c_59, not_true_eq_false, not_false_eq_true, decide_true, decide_false, Bool.true_and, Bool.false_and, Bool.and_true, Bool.and_false, Bool.and_self, if_true, if_false, ite_true, ite_false, reduceIte, Bool.false_eq_true]) dX1_actsAt_73
      · skip
        refine lv_iconst (v := 0) hx hb dX1_actsAt_62 (by decide) ?_
        have hst : St D cy ad s.heap (chI I true) G J H locs := by rw [chI, if_pos c_33, if_neg c_59]; exact hst
        exact e_i hx hb hr hlk hst rfl (by simp only [chR, zB, c_33, c_59, not_true_eq_false, not_false_eq_true, decide_true, decide_false, Bool.true_and, Bool.false_and, Bool.and_true, Bool.and_false, Bool.and_self, if_true, if_false, ite_true, ite_false, reduceIte, Bool.false_eq_true]) dX1_actsAt_63
    · skip
      refine lv_aload_n hx hb dX1_actsAt_36 rfl (lv_at hl 0 rfl) ?_
      refine lv_dup hx hb dX1_actsAt_37 rfl ?_
      refine w_getI am hst (k := 3) (by decide) (fun _ _ _ => cE_49) rfl inT1 (by decide) (fun _ _ _ => rfl) fRX1_21 dX1_actsAt_38 ?_
      refine lv_iconst (v := 1) hx hb dX1_actsAt_41 (by decide) ?_
      refine lv_isub hx hb dX1_actsAt_42 ?_
      refine w_putI am hst (k := 3) (by decide) (fun _ _ _ => cE_49) rfl inT1 tyX1 tyX1_ok nmX1 (by decide) fRX1_21 (fun _ _ _ => rfl) (fun _ _ _ => Nat.le_of_ble_eq_true rfl) rfl rfl rfl rfl dX1_actsAt_43 (fun H locs hst => ?_)
      refine lv_iconst (v := 0) hx hb dX1_actsAt_46 (by decide) ?_
      have hst : St D cy ad s.heap (chI I true) G J H locs := by rw [chI, if_neg c_33]; exact hst
      exact e_i hx hb hr hlk hst rfl (by simp only [chR, zB, c_33, not_true_eq_false, not_false_eq_true, decide_true, decide_false, Bool.true_and, Bool.false_and, Bool.and_true, Bool.and_false, Bool.and_self, if_true, if_false, ite_true, ite_false, reduceIte, Bool.false_eq_true]) dX1_actsAt_47

