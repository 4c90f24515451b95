/-! the reference: its public methods, second half -/
def mt3 (I : Im) (t : Nat) (b : Bool) : Im := u2 (u2 (u2 I 53 0 0) 67 t (zB b)) 53 19 (nI (t + 1))
def mtN (A : Im) (t : Nat) : Nat → Nat | 0 => 0 | c + 1 => if A 67 (t - c) = 0 then mtN A t c else mtN A t c + 1
def mtC (I : Im) (t z : Nat) (b : Bool) : Nat := mtN (mt3 I t b) t (min (t + 1) z)
def mtR (I : Im) (t z : Nat) (b : Bool) : Bool := decide (I 53 18 ≤ 0) && decide (¬ nI (mtC I t z b) ≤ I 53 17)
def mtI (I : Im) (t z : Nat) (b : Bool) : Im := if I 53 18 ≤ 0 then (if nI (mtC I t z b) ≤ I 53 17 then u2 (mt3 I t b) 53 18 0 else u2 (mt3 I t b) 53 18 (nI z)) else u2 (mt3 I t b) 53 18 (I 53 18 - 1)
theorem sub_lt3 {a b c : Nat} (ha : a < 2 ^ 30) (hb : b < 2 ^ 30) (hc : c < 2 ^ 30) : nI a < nI b - nI c ↔ (a : Int) < (b : Int) - c := by
  rw [Int32.lt_iff_toInt_lt, pk_sub_toInt hb hc, nI_toInt (by omega)]
def mpC (A : Im) (G : Dm) (X : UInt64) (i : Nat) : Bool := decide (¬ A 59 i = 0) && (decide (A 60 i = 0) && decide (¬ 0 ≤ Op.cmpValue (FP.dcmp (G 58 i) X) CmpOp.g))
def mpI (I : Im) (G : Dm) (X : UInt64) : Nat → Im | 0 => u2 I 53 0 0 | i + 1 => if mpC (mpI I G X i) G X i = true then u2 (mpI I G X i) 60 i 1 else mpI I G X i
def mpN (I : Im) (G : Dm) (X : UInt64) : Nat → Nat | 0 => 0 | i + 1 => if mpC (mpI I G X i) G X i = true then mpN I G X i + 1 else mpN I G X i
theorem mpI_0 (I : Im) (G : Dm) (X : UInt64) : ∀ i, mpI I G X i 53 0 = 0
  | 0 => u2_eq _ _ _ _
  | i + 1 => by
    unfold mpI
    split
    · exact (u2_ne (by omega)).trans (mpI_0 I G X i)
    · exact mpI_0 I G X i
theorem mpI_2 (I : Im) (G : Dm) (X : UInt64) : ∀ i, mpI I G X i 53 2 = I 53 2
  | 0 => u2_ne (by omega)
  | i + 1 => by
    unfold mpI
    split
    · exact (u2_ne (by omega)).trans (mpI_2 I G X i)
    · exact mpI_2 I G X i
def mdF (I : Im) (v : Int32) (c : Nat) : Nat → Nat → Nat | 0, k => k | n + 1, k => if I 68 (k + 1) ≤ v then mdF I v c n (k + 1) else k
def mdB (I : Im) (G : Dm) (v : Int32) (K : Nat) : UInt64 := Ad (G 69 K) (Dv (Mu (FP.i2d (v - I 68 K)) (Sb (G 69 (K + 1)) (G 69 K))) (FP.i2d (I 68 (K + 1) - I 68 K)))
def mdW (I : Im) (G : Dm) (v : Int32) (c K : Nat) : UInt64 := if K + 1 = c then G 69 K else mdB I G v K
def mdV (I : Im) (G : Dm) (v : Int32) (c : Nat) : UInt64 := if c = 0 then 0 else if v ≤ I 68 0 then G 69 0 else mdW I G v c (mdF I v c (c - 1) 0)
set_option maxHeartbeats 4000000 in
set_option maxRecDepth 100000 in
theorem k_X5_test {l : Launch} {D : va_G} {cy ad : Nat → Nat} {I : Im} {G : Dm} {J : Jm} (hadI : adI ad) {t z : Nat} {b : Bool} (ht : I 53 19 = nI t) (ht2 : t < 8192) (hz : I 53 16 = nI z) (hz2 : 1 ≤ z ∧ z ≤ 20) : kM l yX5_test (.code yX5_test cX5_test 4 (some .boolean)) (rmK 0 0 0 0) D cy ad [.ref (ad 53), .int (zB b)] I G J (qI D cy ad (zB (mtR I t z b)) (mtI I t z b) G J) := by
  refine start_M hadI (by decide +kernel) (Nat.le_of_ble_eq_true rfl) ?_
  intro p e s m below meth cd am hx hb hr hlk hst ls hl
  have hl : lv_has ls 4 [(0, .ref (ad 53)), (1, .int (zB b))] := hl
  refine lv_aload_n hx hb dX5_test_0 rfl (lv_at hl 0 rfl) ?_
  refine lv_iconst (v := 0) hx hb dX5_test_1 (by decide) ?_
  refine w_putI am hst (k := 0) (by decide) (fun _ _ _ => cE_M) rfl inT5 tyX5 tyX5_ok nmX5 (by decide) fRX5_73 (fun _ _ _ => rfl) (fun _ _ _ => Nat.le_of_ble_eq_true rfl) rfl rfl rfl rfl dX5_test_2 (fun H locs hst => ?_)
  refine lv_aload_n hx hb dX5_test_5 rfl (lv_at hl 0 rfl) ?_
  refine w_getR am hst (k := 20) (b := ad 67) (by decide) (fun _ _ _ => cE_M) rfl inT5 (by decide) (fun _ _ _ => rfl) fRX5_60 dX5_test_6 ?_
  refine lv_aload_n hx hb dX5_test_9 rfl (lv_at hl 0 rfl) ?_
  refine w_getI am hst (k := 19) (by decide) (fun _ _ _ => cE_M) rfl inT5 (by decide) (fun _ _ _ => rfl) fRX5_122 dX5_test_10 ?_
  rw [show (u2 I 53 0 0) 53 19 = I 53 19 from (u2_ne (by omega))]
  rw [ht]
  refine lv_iload_n hx hb dX5_test_13 rfl (lv_at hl 1 rfl) ?_
  refine w_zast am hst (zB_fit b) (by decide) (fun _ _ _ => cE_67) (n := t) (nI_clamp (by omega)) (vp_in_nI (by omega) (by decide)) dX5_test_14 (fun H locs hst => ?_)
  refine lv_aload_n hx hb dX5_test_15 rfl (lv_at hl 0 rfl) ?_
  refine lv_dup hx hb dX5_test_16 rfl ?_
  refine w_getI am hst (k := 19) (by decide) (fun _ _ _ => cE_M) rfl inT5 (by decide) (fun _ _ _ => rfl) fRX5_122 dX5_test_17 ?_
  rw [show (u2 (u2 I 53 0 0) 67 t (zB b)) 53 19 = I 53 19 from ((u2_ne (by omega)).trans (u2_ne (by omega)))]
  rw [ht]
  refine lv_iconst (v := 1) hx hb dX5_test_20 (by decide) ?_
  refine lv_iadd hx hb dX5_test_21 ?_
  rw [nI_1]
  refine w_putI am hst (k := 19) (by decide) (fun _ _ _ => cE_M) rfl inT5 tyX5 tyX5_ok nmX5 (by decide) fRX5_122 (fun _ _ _ => rfl) (fun _ _ _ => Nat.le_of_ble_eq_true rfl) rfl rfl rfl rfl dX5_test_22 (fun H locs hst => ?_)
  refine lv_iconst (v := 0) hx hb dX5_test_25 (by decide) ?_
  refine lv_istore_n (lv' := [(2, .int 0), (0, .ref (ad 53)), (1, .int (zB b))]) hx hb dX5_test_26 rfl hl (by decide) rfl (fun ls hl => ?_)
  refine lv_aload_n hx hb dX5_test_27 rfl (lv_at hl 1 rfl) ?_
  refine w_getI am hst (k := 19) (by decide) (fun _ _ _ => cE_M) rfl inT5 (by decide) (fun _ _ _ => rfl) fRX5_122 dX5_test_28 ?_
  rw [show (u2 (u2 (u2 I 53 0 0) 67 t (zB b)) 53 19 (nI (t + 1))) 53 19 = nI (t + 1) from (u2_eq _ _ _ _)]
  refine lv_iconst (v := 1) hx hb dX5_test_31 (by decide) ?_
  refine lv_isub hx hb dX5_test_32 ?_
  rw [show nI (t + 1) - 1 = nI (t + 1 - 0) + (-1) from (nI_pred t).trans (pk_m1 t).symm]
  refine lv_istore_n (lv' := [(3, .int (nI (t + 1 - 0) + (-1))), (2, .int 0), (0, .ref (ad 53)), (1, .int (zB b))]) hx hb dX5_test_33 rfl hl (by decide) rfl (fun ls hl => ?_)
  have lp0 : ∀ (q9 c : Nat), q9 + c = (min (t + 1) z) → ∀ (H : Heap) (locs : List Loc), St D cy ad s.heap (u2 (u2 (u2 I 53 0 0) 67 t (zB b)) 53 19 (nI (t + 1))) G J H locs → ∀ ls, lv_has ls 4 [(0, .ref (ad 53)), (1, .int (zB b)), (2, .int (nI (mtN (mt3 I t b) t c))), (3, .int (nI (t + 1 - c) + (-1)))] → W p l e (rmK 0 0 0 0) (s.setDrawn s.drawn) m [.ref (ad 53), .int (zB b)].toArray below meth cd H locs 0 0 (MQ below (qI D cy ad (zB (mtR I t z b)) (mtI I t z b) G J s.heap.size) [.ref (ad 53), .int (zB b)].toArray s ((rmK 0 0 0 0)).cells ((rmK 0 0 0 0)).slots (aA ad s.heap.size)) (F0 m 34 ls []) := by
    intro q9
    induction q9 with
    | zero =>
      intro c hi H locs hst ls hl
      obtain rfl : (min (t + 1) z) = c := by omega
      rcases Nat.lt_or_ge t z with q | q
      · rw [show nI (t + 1 - min (t + 1) z) + (-1) = (-1 : Int32) from by rw [show t + 1 - min (t + 1) z = 0 by omega]; rfl] at hl
        refine lv_iload_n hx hb dX5_test_34 rfl (lv_at hl 3 rfl) ?_
        refine lv_if_lt (tgt := 74) hx hb dX5_test_35 (by decide) (fun c_35 => ?_) (fun c_35 => absurd ((show (-1 : Int32) < 0 by decide)) c_35)
        refine lv_aload_n hx hb dX5_test_74 rfl (lv_at hl 0 rfl) ?_
        refine w_getI am hst (k := 18) (by decide) (fun _ _ _ => cE_M) rfl inT5 (by decide) (fun _ _ _ => rfl) fRX5_125 dX5_test_75 ?_
        rw [show (u2 (u2 (u2 I 53 0 0) 67 t (zB b)) 53 19 (nI (t + 1))) 53 18 = I 53 18 from ((u2_ne (by omega)).trans ((u2_ne (by omega)).trans (u2_ne (by omega))))]
        refine lv_if_le (tgt := 93) hx hb dX5_test_78 (by decide) (fun c_78 => ?_) (fun c_78 => ?_)
        · skip
          refine lv_iload_n hx hb dX5_test_93 rfl (lv_at hl 2 rfl) ?_
          refine lv_aload_n hx hb dX5_test_94 rfl (lv_at hl 0 rfl) ?_
          refine w_getI am hst (k := 17) (by decide) (fun _ _ _ => cE_M) rfl inT5 (by decide) (fun _ _ _ => rfl) fRX5_57 dX5_test_95 ?_
          rw [show (u2 (u2 (u2 I 53 0 0) 67 t (zB b)) 53 19 (nI (t + 1))) 53 17 = I 53 17 from ((u2_ne (by omega)).trans ((u2_ne (by omega)).trans (u2_ne (by omega))))]
          refine lv_icmp_le (tgt := 105) hx hb dX5_test_98 (by decide) (fun c_98 => ?_) (fun c_98 => ?_)
          · skip
            refine lv_iconst (v := 0) hx hb dX5_test_105 (by decide) ?_
            refine lv_istore_n (lv' := [(3, .int 0), (0, .ref (ad 53)), (1, .int (zB b)), (2, .int (nI (mtN (mt3 I t b) t ((min (t + 1) z)))))]) hx hb dX5_test_106 rfl hl (by decide) rfl (fun ls hl => ?_)
            refine lv_aload_n hx hb dX5_test_107 rfl (lv_at hl 1 rfl) ?_
            refine lv_iload_n hx hb dX5_test_108 rfl (lv_at hl 0 rfl) ?_
            refine lv_if_eq (tgt := 119) hx hb dX5_test_109 (by decide) (fun c_109 => ?_) (fun c_109 => absurd ((show (0 : Int32) = 0 by decide)) c_109)
            refine lv_iconst (v := 0) hx hb dX5_test_119 (by decide) ?_
            refine w_putI am hst (k := 18) (by decide) (fun _ _ _ => cE_M) rfl inT5 tyX5 tyX5_ok nmX5 (by decide) fRX5_125 (fun _ _ _ => rfl) (fun _ _ _ => Nat.le_of_ble_eq_true rfl) rfl rfl rfl rfl dX5_test_120 (fun H locs hst => ?_)
            refine lv_iload_n hx hb dX5_test_123 rfl (lv_at hl 0 rfl) ?_
            have hst : St D cy ad s.heap (mtI I t z b) G J H locs := by unfold mtI mtC; rw [if_pos c_78, if_pos c_98]; exact hst
            exact e_i hx hb hr hlk hst rfl (by unfold mtR; rw [show decide (I 53 18 ≤ 0) = true from decide_eq_true c_78, show decide (¬ nI (mtC I t z b) ≤ I 53 17) = false from decide_eq_false (fun h => h c_98)]; rfl) dX5_test_124
          · skip
            refine lv_iconst (v := 1) hx hb dX5_test_101 (by decide) ?_
            refine lv_goto (tgt := 106) hx hb dX5_test_102 (by decide) ?_
            refine lv_istore_n (lv' := [(3, .int 1), (0, .ref (ad 53)), (1, .int (zB b)), (2, .int (nI (mtN (mt3 I t b) t ((min (t + 1) z)))))]) hx hb dX5_test_106 rfl hl (by decide) rfl (fun ls hl => ?_)
            refine lv_aload_n hx hb dX5_test_107 rfl (lv_at hl 1 rfl) ?_
            refine lv_iload_n hx hb dX5_test_108 rfl (lv_at hl 0 rfl) ?_
            refine lv_if_eq (tgt := 119) hx hb dX5_test_109 (by decide) (fun c_109 => absurd c_109 ((show ¬ (1 : Int32) = 0 by decide))) (fun c_109 => ?_)
            refine lv_aload_n hx hb dX5_test_112 rfl (lv_at hl 1 rfl) ?_
            refine w_getI am hst (k := 16) (by decide) (fun _ _ _ => cE_M) rfl inT5 (by decide) (fun _ _ _ => rfl) fRX5_53 dX5_test_113 ?_
            rw [show (u2 (u2 (u2 I 53 0 0) 67 t (zB b)) 53 19 (nI (t + 1))) 53 16 = I 53 16 from ((u2_ne (by omega)).trans ((u2_ne (by omega)).trans (u2_ne (by omega))))]
            rw [hz]
            refine lv_goto (tgt := 120) hx hb dX5_test_116 (by decide) ?_
            refine w_putI am hst (k := 18) (by decide) (fun _ _ _ => cE_M) rfl inT5 tyX5 tyX5_ok nmX5 (by decide) fRX5_125 (fun _ _ _ => rfl) (fun _ _ _ => Nat.le_of_ble_eq_true rfl) rfl rfl rfl rfl dX5_test_120 (fun H locs hst => ?_)
            refine lv_iload_n hx hb dX5_test_123 rfl (lv_at hl 0 rfl) ?_
            have hst : St D cy ad s.heap (mtI I t z b) G J H locs := by unfold mtI mtC; rw [if_pos c_78, if_neg c_98]; exact hst
            exact e_i hx hb hr hlk hst rfl (by unfold mtR; rw [show decide (I 53 18 ≤ 0) = true from decide_eq_true c_78, show decide (¬ nI (mtC I t z b) ≤ I 53 17) = true from decide_eq_true c_98]; rfl) dX5_test_124
        · skip
          refine lv_aload_n hx hb dX5_test_81 rfl (lv_at hl 0 rfl) ?_
          refine lv_dup hx hb dX5_test_82 rfl ?_
          refine w_getI am hst (k := 18) (by decide) (fun _ _ _ => cE_M) rfl inT5 (by decide) (fun _ _ _ => rfl) fRX5_125 dX5_test_83 ?_
          rw [show (u2 (u2 (u2 I 53 0 0) 67 t (zB b)) 53 19 (nI (t + 1))) 53 18 = I 53 18 from ((u2_ne (by omega)).trans ((u2_ne (by omega)).trans (u2_ne (by omega))))]
          refine lv_iconst (v := 1) hx hb dX5_test_86 (by decide) ?_
          refine lv_isub hx hb dX5_test_87 ?_
          refine w_putI am hst (k := 18) (by decide) (fun _ _ _ => cE_M) rfl inT5 tyX5 tyX5_ok nmX5 (by decide) fRX5_125 (fun _ _ _ => rfl) (fun _ _ _ => Nat.le_of_ble_eq_true rfl) rfl rfl rfl rfl dX5_test_88 (fun H locs hst => ?_)
          refine lv_iconst (v := 0) hx hb dX5_test_91 (by decide) ?_
          have hst : St D cy ad s.heap (mtI I t z b) G J H locs := by unfold mtI; rw [if_neg c_78]; exact hst
          exact e_i hx hb hr hlk hst rfl (by simp only [mtR, zB, c_78, not_true_eq_false, not_false_eq_true, decide_true, decide_false, Bool.true_and, Bool.false_and, Bool.and_true, Bool.and_false, Bool.and_self, if_true, if_false, ite_true, ite_false, reduceIte, Bool.false_eq_true]) dX5_test_92
      · rw [show nI (t + 1 - min (t + 1) z) + (-1) = nI (t - z) from by rw [show t + 1 - min (t + 1) z = (t - z) + 1 by omega]; exact pk_m1 _] at hl
        refine lv_iload_n hx hb dX5_test_34 rfl (lv_at hl 3 rfl) ?_
        refine lv_if_lt (tgt := 74) hx hb dX5_test_35 (by decide) (fun c_35 => absurd c_35 ((nI_pos (by omega)))) (fun c_35 => ?_)
        refine lv_iload_n hx hb dX5_test_38 rfl (lv_at hl 3 rfl) ?_
        refine lv_aload_n hx hb dX5_test_39 rfl (lv_at hl 0 rfl) ?_
        refine w_getI am hst (k := 19) (by decide) (fun _ _ _ => cE_M) rfl inT5 (by decide) (fun _ _ _ => rfl) fRX5_122 dX5_test_40 ?_
        rw [show (u2 (u2 (u2 I 53 0 0) 67 t (zB b)) 53 19 (nI (t + 1))) 53 19 = nI (t + 1) from (u2_eq _ _ _ _)]
        refine lv_aload_n hx hb dX5_test_43 rfl (lv_at hl 0 rfl) ?_
        refine w_getI am hst (k := 16) (by decide) (fun _ _ _ => cE_M) rfl inT5 (by decide) (fun _ _ _ => rfl) fRX5_53 dX5_test_44 ?_
        rw [show (u2 (u2 (u2 I 53 0 0) 67 t (zB b)) 53 19 (nI (t + 1))) 53 16 = I 53 16 from ((u2_ne (by omega)).trans ((u2_ne (by omega)).trans (u2_ne (by omega))))]
        rw [hz]
        refine lv_isub hx hb dX5_test_47 ?_
        refine lv_icmp_lt (tgt := 74) hx hb dX5_test_48 (by decide) (fun c_48 => ?_) (fun c_48 => absurd (((sub_lt3 (by omega) (by omega) (by omega)).mpr (by omega))) c_48)
        refine lv_aload_n hx hb dX5_test_74 rfl (lv_at hl 0 rfl) ?_
        refine w_getI am hst (k := 18) (by decide) (fun _ _ _ => cE_M) rfl inT5 (by decide) (fun _ _ _ => rfl) fRX5_125 dX5_test_75 ?_
        rw [show (u2 (u2 (u2 I 53 0 0) 67 t (zB b)) 53 19 (nI (t + 1))) 53 18 = I 53 18 from ((u2_ne (by omega)).trans ((u2_ne (by omega)).trans (u2_ne (by omega))))]
        refine lv_if_le (tgt := 93) hx hb dX5_test_78 (by decide) (fun c_78 => ?_) (fun c_78 => ?_)
        · skip
          refine lv_iload_n hx hb dX5_test_93 rfl (lv_at hl 2 rfl) ?_
          refine lv_aload_n hx hb dX5_test_94 rfl (lv_at hl 0 rfl) ?_
          refine w_getI am hst (k := 17) (by decide) (fun _ _ _ => cE_M) rfl inT5 (by decide) (fun _ _ _ => rfl) fRX5_57 dX5_test_95 ?_
          rw [show (u2 (u2 (u2 I 53 0 0) 67 t (zB b)) 53 19 (nI (t + 1))) 53 17 = I 53 17 from ((u2_ne (by omega)).trans ((u2_ne (by omega)).trans (u2_ne (by omega))))]
          refine lv_icmp_le (tgt := 105) hx hb dX5_test_98 (by decide) (fun c_98 => ?_) (fun c_98 => ?_)
          · skip
            refine lv_iconst (v := 0) hx hb dX5_test_105 (by decide) ?_
            refine lv_istore_n (lv' := [(3, .int 0), (0, .ref (ad 53)), (1, .int (zB b)), (2, .int (nI (mtN (mt3 I t b) t ((min (t + 1) z)))))]) hx hb dX5_test_106 rfl hl (by decide) rfl (fun ls hl => ?_)
            refine lv_aload_n hx hb dX5_test_107 rfl (lv_at hl 1 rfl) ?_
            refine lv_iload_n hx hb dX5_test_108 rfl (lv_at hl 0 rfl) ?_
            refine lv_if_eq (tgt := 119) hx hb dX5_test_109 (by decide) (fun c_109 => ?_) (fun c_109 => absurd ((show (0 : Int32) = 0 by decide)) c_109)
            refine lv_iconst (v := 0) hx hb dX5_test_119 (by decide) ?_
            refine w_putI am hst (k := 18) (by decide) (fun _ _ _ => cE_M) rfl inT5 tyX5 tyX5_ok nmX5 (by decide) fRX5_125 (fun _ _ _ => rfl) (fun _ _ _ => Nat.le_of_ble_eq_true rfl) rfl rfl rfl rfl dX5_test_120 (fun H locs hst => ?_)
            refine lv_iload_n hx hb dX5_test_123 rfl (lv_at hl 0 rfl) ?_
            have hst : St D cy ad s.heap (mtI I t z b) G J H locs := by unfold mtI mtC; rw [if_pos c_78, if_pos c_98]; exact hst
            exact e_i hx hb hr hlk hst rfl (by unfold mtR; rw [show decide (I 53 18 ≤ 0) = true from decide_eq_true c_78, show decide (¬ nI (mtC I t z b) ≤ I 53 17) = false from decide_eq_false (fun h => h c_98)]; rfl) dX5_test_124
          · skip
            refine lv_iconst (v := 1) hx hb dX5_test_101 (by decide) ?_
            refine lv_goto (tgt := 106) hx hb dX5_test_102 (by decide) ?_
            refine lv_istore_n (lv' := [(3, .int 1), (0, .ref (ad 53)), (1, .int (zB b)), (2, .int (nI (mtN (mt3 I t b) t ((min (t + 1) z)))))]) hx hb dX5_test_106 rfl hl (by decide) rfl (fun ls hl => ?_)
            refine lv_aload_n hx hb dX5_test_107 rfl (lv_at hl 1 rfl) ?_
            refine lv_iload_n hx hb dX5_test_108 rfl (lv_at hl 0 rfl) ?_
            refine lv_if_eq (tgt := 119) hx hb dX5_test_109 (by decide) (fun c_109 => absurd c_109 ((show ¬ (1 : Int32) = 0 by decide))) (fun c_109 => ?_)
            refine lv_aload_n hx hb dX5_test_112 rfl (lv_at hl 1 rfl) ?_
            refine w_getI am hst (k := 16) (by decide) (fun _ _ _ => cE_M) rfl inT5 (by decide) (fun _ _ _ => rfl) fRX5_53 dX5_test_113 ?_
            rw [show (u2 (u2 (u2 I 53 0 0) 67 t (zB b)) 53 19 (nI (t + 1))) 53 16 = I 53 16 from ((u2_ne (by omega)).trans ((u2_ne (by omega)).trans (u2_ne (by omega))))]
            rw [hz]
            refine lv_goto (tgt := 120) hx hb dX5_test_116 (by decide) ?_
            refine w_putI am hst (k := 18) (by decide) (fun _ _ _ => cE_M) rfl inT5 tyX5 tyX5_ok nmX5 (by decide) fRX5_125 (fun _ _ _ => rfl) (fun _ _ _ => Nat.le_of_ble_eq_true rfl) rfl rfl rfl rfl dX5_test_120 (fun H locs hst => ?_)
            refine lv_iload_n hx hb dX5_test_123 rfl (lv_at hl 0 rfl) ?_
            have hst : St D cy ad s.heap (mtI I t z b) G J H locs := by unfold mtI mtC; rw [if_pos c_78, if_neg c_98]; exact hst
            exact e_i hx hb hr hlk hst rfl (by unfold mtR; rw [show decide (I 53 18 ≤ 0) = true from decide_eq_true c_78, show decide (¬ nI (mtC I t z b) ≤ I 53 17) = true from decide_eq_true c_98]; rfl) dX5_test_124
        · skip
          refine lv_aload_n hx hb dX5_test_81 rfl (lv_at hl 0 rfl) ?_
          refine lv_dup hx hb dX5_test_82 rfl ?_
          refine w_getI am hst (k := 18) (by decide) (fun _ _ _ => cE_M) rfl inT5 (by decide) (fun _ _ _ => rfl) fRX5_125 dX5_test_83 ?_
          rw [show (u2 (u2 (u2 I 53 0 0) 67 t (zB b)) 53 19 (nI (t + 1))) 53 18 = I 53 18 from ((u2_ne (by omega)).trans ((u2_ne (by omega)).trans (u2_ne (by omega))))]
          refine lv_iconst (v := 1) hx hb dX5_test_86 (by decide) ?_
          refine lv_isub hx hb dX5_test_87 ?_
          refine w_putI am hst (k := 18) (by decide) (fun _ _ _ => cE_M) rfl inT5 tyX5 tyX5_ok nmX5 (by decide) fRX5_125 (fun _ _ _ => rfl) (fun _ _ _ => Nat.le_of_ble_eq_true rfl) rfl rfl rfl rfl dX5_test_88 (fun H locs hst => ?_)
          refine lv_iconst (v := 0) hx hb dX5_test_91 (by decide) ?_
          have hst : St D cy ad s.heap (mtI I t z b) G J H locs := by unfold mtI; rw [if_neg c_78]; exact hst
          exact e_i hx hb hr hlk hst rfl (by simp only [mtR, zB, c_78, not_true_eq_false, not_false_eq_true, decide_true, decide_false, Bool.true_and, Bool.false_and, Bool.and_true, Bool.and_false, Bool.and_self, if_true, if_false, ite_true, ite_false, reduceIte, Bool.false_eq_true]) dX5_test_92
    | succ q9 ih_lp0 =>
      intro c hi H locs hst ls hl
      rw [show nI (t + 1 - c) + (-1) = nI (t - c) from by rw [show t + 1 - c = (t - c) + 1 by omega]; exact pk_m1 _] at hl
      refine lv_iload_n hx hb dX5_test_34 rfl (lv_at hl 3 rfl) ?_
      refine lv_if_lt (tgt := 74) hx hb dX5_test_35 (by decide) (fun c_35 => absurd c_35 ((nI_pos (by omega)))) (fun c_35 => ?_)
      refine lv_iload_n hx hb dX5_test_38 rfl (lv_at hl 3 rfl) ?_
      refine lv_aload_n hx hb dX5_test_39 rfl (lv_at hl 0 rfl) ?_
      refine w_getI am hst (k := 19) (by decide) (fun _ _ _ => cE_M) rfl inT5 (by decide) (fun _ _ _ => rfl) fRX5_122 dX5_test_40 ?_
      rw [show (u2 (u2 (u2 I 53 0 0) 67 t (zB b)) 53 19 (nI (t + 1))) 53 19 = nI (t + 1) from (u2_eq _ _ _ _)]
      refine lv_aload_n hx hb dX5_test_43 rfl (lv_at hl 0 rfl) ?_
      refine w_getI am hst (k := 16) (by decide) (fun _ _ _ => cE_M) rfl inT5 (by decide) (fun _ _ _ => rfl) fRX5_53 dX5_test_44 ?_
      rw [show (u2 (u2 (u2 I 53 0 0) 67 t (zB b)) 53 19 (nI (t + 1))) 53 16 = I 53 16 from ((u2_ne (by omega)).trans ((u2_ne (by omega)).trans (u2_ne (by omega))))]
      rw [hz]
      refine lv_isub hx hb dX5_test_47 ?_
      refine lv_icmp_lt (tgt := 74) hx hb dX5_test_48 (by decide) (fun c_48 => absurd c_48 ((fun h => absurd ((sub_lt3 (by omega) (by omega) (by omega)).mp h) (by omega)))) (fun c_48 => ?_)
      refine lv_aload_n hx hb dX5_test_51 rfl (lv_at hl 0 rfl) ?_
      refine w_getR am hst (k := 20) (b := ad 67) (by decide) (fun _ _ _ => cE_M) rfl inT5 (by decide) (fun _ _ _ => rfl) fRX5_60 dX5_test_52 ?_
      refine lv_iload_n hx hb dX5_test_55 rfl (lv_at hl 3 rfl) ?_
      refine w_zald am hst (by decide) (fun _ _ _ => cE_67) (n := t - c) (nI_clamp (by omega)) (vp_in_nI (by omega) (by decide)) dX5_test_56 ?_
      rw [show (u2 (u2 (u2 I 53 0 0) 67 t (zB b)) 53 19 (nI (t + 1))) 67 (t - c) = (u2 (u2 I 53 0 0) 67 t (zB b)) 67 (t - c) from (u2_ne (by omega))]
      refine lv_if_eq (tgt := 66) hx hb dX5_test_57 (by decide) (fun c_57 => ?_) (fun c_57 => ?_)
      · skip
        refine lv_iload_n hx hb dX5_test_66 rfl (lv_at hl 2 rfl) ?_
        refine lv_istore_n (lv' := [(2, .int (nI (mtN (mt3 I t b) t c))), (0, .ref (ad 53)), (1, .int (zB b)), (3, .int (nI (t - c)))]) hx hb dX5_test_67 rfl hl (by decide) rfl (fun ls hl => ?_)
        refine lv_iinc (v := nI (t + 1 - (c + 1)) + (-1)) (lv' := [(3, .int (nI (t + 1 - (c + 1)) + (-1))), (2, .int (nI (mtN (mt3 I t b) t c))), (0, .ref (ad 53)), (1, .int (zB b))]) hx hb dX5_test_68 hl (k := 3) rfl (by rw [show t + 1 - (c + 1) = t - c by omega]; rfl) (by decide) rfl (fun ls hl => ?_)
        refine lv_goto (tgt := 34) hx hb dX5_test_71 (by decide) ?_
        have ih2 := ih_lp0 (c + 1) (by omega) 
        rw [show mtN (mt3 I t b) t (c + 1) = mtN (mt3 I t b) t c from if_pos c_57] at ih2
        exact ih2 _ _ hst ls (lv_sub hl [2, 3, 1, 0] rfl)
      · skip
        refine lv_iload_n hx hb dX5_test_60 rfl (lv_at hl 2 rfl) ?_
        refine lv_iconst (v := 1) hx hb dX5_test_61 (by decide) ?_
        refine lv_iadd hx hb dX5_test_62 ?_
        rw [nI_1]
        refine lv_goto (tgt := 67) hx hb dX5_test_63 (by decide) ?_
        refine lv_istore_n (lv' := [(2, .int (nI (mtN (mt3 I t b) t c + 1))), (0, .ref (ad 53)), (1, .int (zB b)), (3, .int (nI (t - c)))]) hx hb dX5_test_67 rfl hl (by decide) rfl (fun ls hl => ?_)
        refine lv_iinc (v := nI (t + 1 - (c + 1)) + (-1)) (lv' := [(3, .int (nI (t + 1 - (c + 1)) + (-1))), (2, .int (nI (mtN (mt3 I t b) t c + 1))), (0, .ref (ad 53)), (1, .int (zB b))]) hx hb dX5_test_68 hl (k := 3) rfl (by rw [show t + 1 - (c + 1) = t - c by omega]; rfl) (by decide) rfl (fun ls hl => ?_)
        refine lv_goto (tgt := 34) hx hb dX5_test_71 (by decide) ?_
        have ih2 := ih_lp0 (c + 1) (by omega) 
        rw [show mtN (mt3 I t b) t (c + 1) = mtN (mt3 I t b) t c + 1 from if_neg c_57] at ih2
        exact ih2 _ _ hst ls (lv_sub hl [2, 3, 1, 0] rfl)
  exact lp0 ((min (t + 1) z)) 0 (by omega) _ _ hst ls (lv_sub hl [2, 3, 1, 0] rfl)

set_option maxHeartbeats 4000000 in
set_option maxRecDepth 100000 in
theorem k_X5_proof {l : Launch} {D : va_G} {cy ad : Nat → Nat} {I : Im} {G : Dm} {J : Jm} (hadI : adI ad) {n : Nat} (hn : I 53 2 = nI n) (hn2 : n ≤ 32) {x X : UInt64} (hxX : cn x = X) (hin : mBt X 0 4652007308841189376 = true) : kM l yX5_proof (.code yX5_proof cX5_proof 5 (some .int)) (rmK 1 0 0 25) D cy ad [.ref (ad 53), .double x] I G J (qI D cy ad (nI (mpN I G X n)) (mpI I G X n) G J) := by
  refine start_M hadI (by decide +kernel) (Nat.le_of_ble_eq_true rfl) ?_
  intro p e s m below meth cd am hx hb hr hlk hst ls hl
  have hl : lv_has ls 5 [(0, .ref (ad 53)), (1, .double x)] := hl
  refine lv_aload_n hx hb dX5_proof_0 rfl (lv_at hl 0 rfl) ?_
  refine lv_dload_n hx hb dX5_proof_1 rfl (lv_at hl 1 rfl) ?_
  refine lv_dconst0 hx hb dX5_proof_2 ?_
  refine lv_ldc2d hx hb am.2.2.2.1 (amT am _ wRX5_83) dX5_proof_3 ?_
  refine c_i hst (r_S (As := [.double x, .double FP.dconst0, .double 4652007308841189376]) (rest := [.ref (ad 53)]) am hst hl (k_X5_between hadI hxX cn_k0 cn_k4652007308841189376) kRX5_85 smX5_between ⟨Nat.le_of_ble_eq_true rfl, Nat.le_of_ble_eq_true rfl⟩ rfl rfl (Nat.le_of_ble_eq_true rfl) dX5_proof_6 ⟨Nat.le_of_ble_eq_true rfl, Nat.le_of_ble_eq_true rfl⟩) (fun H locs hst => ?_)
  refine lv_if_eq (tgt := 16) hx hb dX5_proof_9 (by decide) (fun c_9 => absurd c_9 (zB_n0.mpr hin)) (fun c_9 => ?_)
  refine lv_iconst (v := 0) hx hb dX5_proof_12 (by decide) ?_
  refine lv_goto (tgt := 17) hx hb dX5_proof_13 (by decide) ?_
  refine w_putI am hst (k := 0) (by decide) (fun _ _ _ => cE_M) rfl inT5 tyX5 tyX5_ok nmX5 (by decide) fRX5_73 (fun _ _ _ => rfl) (fun _ _ _ => Nat.le_of_ble_eq_true rfl) rfl rfl rfl rfl dX5_proof_17 (fun H locs hst => ?_)
  refine lv_iconst (v := 0) hx hb dX5_proof_20 (by decide) ?_
  refine lv_istore_n (lv' := [(3, .int 0), (0, .ref (ad 53)), (1, .double x)]) hx hb dX5_proof_21 rfl hl (by decide) rfl (fun ls hl => ?_)
  refine lv_iconst (v := 0) hx hb dX5_proof_22 (by decide) ?_
  refine lv_istore (lv' := [(4, .int 0), (3, .int 0), (0, .ref (ad 53)), (1, .double x)]) hx hb dX5_proof_23 hl (by decide) rfl (fun ls hl => ?_)
  have lp0 : ∀ (q9 i : Nat), q9 + i = n → ∀ (H : Heap) (locs : List Loc), St D cy ad s.heap (mpI I G X i) G J H locs → ∀ ls, lv_has ls 5 [(0, .ref (ad 53)), (1, .double x), (3, .int (nI (mpN I G X i))), (4, .int (nI i))] → W p l e (rmK 1 0 0 25) (s.setDrawn s.drawn) m [.ref (ad 53), .double x].toArray below meth cd H locs 0 0 (MQ below (qI D cy ad (nI (mpN I G X n)) (mpI I G X n) G J s.heap.size) [.ref (ad 53), .double x].toArray s ((rmK 1 0 0 25)).cells ((rmK 1 0 0 25)).slots (aA ad s.heap.size)) (F0 m 25 ls []) := by
    intro q9
    induction q9 with
    | zero =>
      intro i hi H locs hst ls hl
      obtain rfl : n = i := by omega
      refine lv_iload hx hb dX5_proof_25 (lv_at hl 3 rfl) ?_
      refine lv_aload_n hx hb dX5_proof_27 rfl (lv_at hl 0 rfl) ?_
      refine w_getI am hst (k := 2) (by decide) (fun _ _ _ => cE_M) rfl inT5 (by decide) (fun _ _ _ => rfl) fRX5_76 dX5_proof_28 ?_
      rw [mpI_2, hn]
      refine lv_icmp_ge (tgt := 90) hx hb dX5_proof_31 (by decide) (fun c_31 => ?_) (fun c_31 => absurd ((nI_le (Nat.le_refl _) (by omega))) c_31)
      refine lv_iload_n hx hb dX5_proof_90 rfl (lv_at hl 2 rfl) ?_
      exact e_i hx hb hr hlk hst rfl rfl dX5_proof_91
    | succ q9 ih_lp0 =>
      intro i hi H locs hst ls hl
      refine lv_iload hx hb dX5_proof_25 (lv_at hl 3 rfl) ?_
      refine lv_aload_n hx hb dX5_proof_27 rfl (lv_at hl 0 rfl) ?_
      refine w_getI am hst (k := 2) (by decide) (fun _ _ _ => cE_M) rfl inT5 (by decide) (fun _ _ _ => rfl) fRX5_76 dX5_proof_28 ?_
      rw [mpI_2, hn]
      refine lv_icmp_ge (tgt := 90) hx hb dX5_proof_31 (by decide) (fun c_31 => absurd c_31 ((nI_ge (by omega) (by omega)))) (fun c_31 => ?_)
      refine lv_aload_n hx hb dX5_proof_34 rfl (lv_at hl 0 rfl) ?_
      refine w_getI am hst (k := 0) (by decide) (fun _ _ _ => cE_M) rfl inT5 (by decide) (fun _ _ _ => rfl) fRX5_73 dX5_proof_35 ?_
      rw [mpI_0]
      refine lv_if_ne (tgt := 90) hx hb dX5_proof_38 (by decide) (fun c_38 => absurd ((show (0 : Int32) = 0 by decide)) c_38) (fun c_38 => ?_)
      refine lv_aload_n hx hb dX5_proof_41 rfl (lv_at hl 0 rfl) ?_
      refine w_getR am hst (k := 8) (b := ad 59) (by decide) (fun _ _ _ => cE_M) rfl inT5 (by decide) (fun _ _ _ => rfl) fRX5_26 dX5_proof_42 ?_
      refine lv_iload hx hb dX5_proof_45 (lv_at hl 3 rfl) ?_
      refine w_zald am hst (by decide) (fun _ _ _ => cE_59) (n := i) (nI_clamp (by omega)) (vp_in_nI (by omega) (by decide)) dX5_proof_47 ?_
      refine lv_if_eq (tgt := 84) hx hb dX5_proof_48 (by decide) (fun c_48 => ?_) (fun c_48 => ?_)
      · skip
        refine lv_iinc (v := nI (i + 1)) (lv' := [(4, .int (nI (i + 1))), (0, .ref (ad 53)), (1, .double x), (3, .int (nI (mpN I G X i)))]) hx hb dX5_proof_84 hl (k := 3) rfl (nI_1 i) (by decide) rfl (fun ls hl => ?_)
        refine lv_goto (tgt := 25) hx hb dX5_proof_87 (by decide) ?_
        have ih2 := ih_lp0 (i + 1) (by omega) 
        rw [show mpI I G X (i + 1) = mpI I G X i from if_neg (by rw [show mpC (mpI I G X i) G X i = false from by simp only [mpC, c_48, not_true_eq_false, not_false_eq_true, decide_true, decide_false, Bool.true_and, Bool.false_and, Bool.and_true, Bool.and_false, Bool.and_self, if_true, if_false, ite_true, ite_false, reduceIte, Bool.false_eq_true]]; exact Bool.false_ne_true), show mpN I G X (i + 1) = mpN I G X i from if_neg (by rw [show mpC (mpI I G X i) G X i = false from by simp only [mpC, c_48, not_true_eq_false, not_false_eq_true, decide_true, decide_false, Bool.true_and, Bool.false_and, Bool.and_true, Bool.and_false, Bool.and_self, if_true, if_false, ite_true, ite_false, reduceIte, Bool.false_eq_true]]; exact Bool.false_ne_true)] at ih2
        exact ih2 _ _ hst ls (lv_sub hl [1, 2, 3, 0] rfl)
      · skip
        refine lv_aload_n hx hb dX5_proof_51 rfl (lv_at hl 0 rfl) ?_
        refine w_getR am hst (k := 9) (b := ad 60) (by decide) (fun _ _ _ => cE_M) rfl inT5 (by decide) (fun _ _ _ => rfl) fRX5_30 dX5_proof_52 ?_
        refine lv_iload hx hb dX5_proof_55 (lv_at hl 3 rfl) ?_
        refine w_zald am hst (by decide) (fun _ _ _ => cE_60) (n := i) (nI_clamp (by omega)) (vp_in_nI (by omega) (by decide)) dX5_proof_57 ?_
        refine lv_if_ne (tgt := 84) hx hb dX5_proof_58 (by decide) (fun c_58 => ?_) (fun c_58 => ?_)
        · skip
          refine lv_iinc (v := nI (i + 1)) (lv' := [(4, .int (nI (i + 1))), (0, .ref (ad 53)), (1, .double x), (3, .int (nI (mpN I G X i)))]) hx hb dX5_proof_84 hl (k := 3) rfl (nI_1 i) (by decide) rfl (fun ls hl => ?_)
          refine lv_goto (tgt := 25) hx hb dX5_proof_87 (by decide) ?_
          have ih2 := ih_lp0 (i + 1) (by omega) 
          rw [show mpI I G X (i + 1) = mpI I G X i from if_neg (by rw [show mpC (mpI I G X i) G X i = false from by simp only [mpC, c_48, c_58, not_true_eq_false, not_false_eq_true, decide_true, decide_false, Bool.true_and, Bool.false_and, Bool.and_true, Bool.and_false, Bool.and_self, if_true, if_false, ite_true, ite_false, reduceIte, Bool.false_eq_true]]; exact Bool.false_ne_true), show mpN I G X (i + 1) = mpN I G X i from if_neg (by rw [show mpC (mpI I G X i) G X i = false from by simp only [mpC, c_48, c_58, not_true_eq_false, not_false_eq_true, decide_true, decide_false, Bool.true_and, Bool.false_and, Bool.and_true, Bool.and_false, Bool.and_self, if_true, if_false, ite_true, ite_false, reduceIte, Bool.false_eq_true]]; exact Bool.false_ne_true)] at ih2
          exact ih2 _ _ hst ls (lv_sub hl [1, 2, 3, 0] rfl)
        · skip
          refine lv_aload_n hx hb dX5_proof_61 rfl (lv_at hl 0 rfl) ?_
          refine w_getR am hst (k := 7) (b := ad 58) (by decide) (fun _ _ _ => cE_M) rfl inT5 (by decide) (fun _ _ _ => rfl) fRX5_23 dX5_proof_62 ?_
          refine lv_iload hx hb dX5_proof_65 (lv_at hl 3 rfl) ?_
          refine w_dald am hst (by decide) (fun _ _ _ => cE_58) (n := i) (nI_clamp (by omega)) (vp_in_nI (by omega) (by decide)) dX5_proof_67 (fun x1 hx1 => ?_)
          refine lv_dload_n hx hb dX5_proof_68 rfl (lv_at hl 1 rfl) ?_
          refine w_dcmp hx hb hx1 hxX dX5_proof_69 ?_
          refine lv_if_ge (tgt := 84) hx hb dX5_proof_70 (by decide) (fun c_70 => ?_) (fun c_70 => ?_)
          · skip
            refine lv_iinc (v := nI (i + 1)) (lv' := [(4, .int (nI (i + 1))), (0, .ref (ad 53)), (1, .double x), (3, .int (nI (mpN I G X i)))]) hx hb dX5_proof_84 hl (k := 3) rfl (nI_1 i) (by decide) rfl (fun ls hl => ?_)
            refine lv_goto (tgt := 25) hx hb dX5_proof_87 (by decide) ?_
            have ih2 := ih_lp0 (i + 1) (by omega) 
            rw [show mpI I G X (i + 1) = mpI I G X i from if_neg (by rw [show mpC (mpI I G X i) G X i = false from by simp only [mpC, c_48, c_58, c_70, not_true_eq_false, not_false_eq_true, decide_true, decide_false, Bool.true_and, Bool.false_and, Bool.and_true, Bool.and_false, Bool.and_self, if_true, if_false, ite_true, ite_false, reduceIte, Bool.false_eq_true]]; exact Bool.false_ne_true), show mpN I G X (i + 1) = mpN I G X i from if_neg (by rw [show mpC (mpI I G X i) G X i = false from by simp only [mpC, c_48, c_58, c_70, not_true_eq_false, not_false_eq_true, decide_true, decide_false, Bool.true_and, Bool.false_and, Bool.and_true, Bool.and_false, Bool.and_self, if_true, if_false, ite_true, ite_false, reduceIte, Bool.false_eq_true]]; exact Bool.false_ne_true)] at ih2
            exact ih2 _ _ hst ls (lv_sub hl [1, 2, 3, 0] rfl)
          · skip
            refine lv_aload_n hx hb dX5_proof_73 rfl (lv_at hl 0 rfl) ?_
            refine w_getR am hst (k := 9) (b := ad 60) (by decide) (fun _ _ _ => cE_M) rfl inT5 (by decide) (fun _ _ _ => rfl) fRX5_30 dX5_proof_74 ?_
            refine lv_iload hx hb dX5_proof_77 (lv_at hl 3 rfl) ?_
            refine lv_iconst (v := 1) hx hb dX5_proof_79 (by decide) ?_
            refine w_zast am hst rfl (by decide) (fun _ _ _ => cE_60) (n := i) (nI_clamp (by omega)) (vp_in_nI (by omega) (by decide)) dX5_proof_80 (fun H locs hst => ?_)
            refine lv_iinc (v := nI (mpN I G X i + 1)) (lv' := [(3, .int (nI (mpN I G X i + 1))), (0, .ref (ad 53)), (1, .double x), (4, .int (nI i))]) hx hb dX5_proof_81 hl (k := 2) rfl (nI_1 (mpN I G X i)) (by decide) rfl (fun ls hl => ?_)
            refine lv_iinc (v := nI (i + 1)) (lv' := [(4, .int (nI (i + 1))), (3, .int (nI (mpN I G X i + 1))), (0, .ref (ad 53)), (1, .double x)]) hx hb dX5_proof_84 hl (k := 3) rfl (nI_1 i) (by decide) rfl (fun ls hl => ?_)
            refine lv_goto (tgt := 25) hx hb dX5_proof_87 (by decide) ?_
            have ih2 := ih_lp0 (i + 1) (by omega) 
            rw [show mpI I G X (i + 1) = u2 (mpI I G X i) 60 i 1 from if_pos (by simp only [mpC, c_48, c_58, c_70, not_true_eq_false, not_false_eq_true, decide_true, decide_false, Bool.true_and, Bool.false_and, Bool.and_true, Bool.and_false, Bool.and_self, if_true, if_false, ite_true, ite_false, reduceIte, Bool.false_eq_true]), show mpN I G X (i + 1) = mpN I G X i + 1 from if_pos (by simp only [mpC, c_48, c_58, c_70, not_true_eq_false, not_false_eq_true, decide_true, decide_false, Bool.true_and, Bool.false_and, Bool.and_true, Bool.and_false, Bool.and_self, if_true, if_false, ite_true, ite_false, reduceIte, Bool.false_eq_true])] at ih2
            exact ih2 _ _ hst ls (lv_sub hl [2, 3, 1, 0] rfl)
  exact lp0 n 0 (by omega) _ _ hst ls (lv_sub hl [2, 3, 1, 0] rfl)

set_option maxHeartbeats 4000000 in
set_option maxRecDepth 100000 in
theorem x_X5_proof {l : Launch} {D : va_G} {cy ad : Nat → Nat} {I : Im} {G : Dm} {J : Jm} (hadI : adI ad) {x X : UInt64} (hxX : cn x = X) (hin : mBt X 0 4652007308841189376 = false) : kM l yX5_proof (.code yX5_proof cX5_proof 5 (some .int)) (rmK 1 0 0 25) D cy ad [.ref (ad 53), .double x] I G J (qI D cy ad 0 (u2 I 53 0 1) G J) := by
  refine start_M hadI (by decide +kernel) (Nat.le_of_ble_eq_true rfl) ?_
  intro p e s m below meth cd am hx hb hr hlk hst ls hl
  have hl : lv_has ls 5 [(0, .ref (ad 53)), (1, .double x)] := hl
  refine lv_aload_n hx hb dX5_proof_0 rfl (lv_at hl 0 rfl) ?_
  refine lv_dload_n hx hb dX5_proof_1 rfl (lv_at hl 1 rfl) ?_
  refine lv_dconst0 hx hb dX5_proof_2 ?_
  refine lv_ldc2d hx hb am.2.2.2.1 (amT am _ wRX5_83) dX5_proof_3 ?_
  refine c_i hst (r_S (As := [.double x, .double FP.dconst0, .double 4652007308841189376]) (rest := [.ref (ad 53)]) am hst hl (k_X5_between hadI hxX cn_k0 cn_k4652007308841189376) kRX5_85 smX5_between ⟨Nat.le_of_ble_eq_true rfl, Nat.le_of_ble_eq_true rfl⟩ rfl rfl (Nat.le_of_ble_eq_true rfl) dX5_proof_6 ⟨Nat.le_of_ble_eq_true rfl, Nat.le_of_ble_eq_true rfl⟩) (fun H locs hst => ?_)
  refine lv_if_eq (tgt := 16) hx hb dX5_proof_9 (by decide) (fun c_9 => ?_) (fun c_9 => absurd (zB_0.mpr hin) c_9)
  refine lv_iconst (v := 1) hx hb dX5_proof_16 (by decide) ?_
  refine w_putI am hst (k := 0) (by decide) (fun _ _ _ => cE_M) rfl inT5 tyX5 tyX5_ok nmX5 (by decide) fRX5_73 (fun _ _ _ => rfl) (fun _ _ _ => Nat.le_of_ble_eq_true rfl) rfl rfl rfl rfl dX5_proof_17 (fun H locs hst => ?_)
  refine lv_iconst (v := 0) hx hb dX5_proof_20 (by decide) ?_
  refine lv_istore_n (lv' := [(3, .int 0), (0, .ref (ad 53)), (1, .double x)]) hx hb dX5_proof_21 rfl hl (by decide) rfl (fun ls hl => ?_)
  refine lv_iconst (v := 0) hx hb dX5_proof_22 (by decide) ?_
  refine lv_istore (lv' := [(4, .int 0), (3, .int 0), (0, .ref (ad 53)), (1, .double x)]) hx hb dX5_proof_23 hl (by decide) rfl (fun ls hl => ?_)
  refine lv_iload hx hb dX5_proof_25 (lv_at hl 0 rfl) ?_
  refine lv_aload_n hx hb dX5_proof_27 rfl (lv_at hl 2 rfl) ?_
  refine w_getI am hst (k := 2) (by decide) (fun _ _ _ => cE_M) rfl inT5 (by decide) (fun _ _ _ => rfl) fRX5_76 dX5_proof_28 ?_
  rw [show (u2 I 53 0 1) 53 2 = I 53 2 from (u2_ne (by omega))]
  refine lv_icmp_ge (tgt := 90) hx hb dX5_proof_31 (by decide) (fun c_31 => ?_) (fun c_31 => ?_)
  · skip
    refine lv_iload_n hx hb dX5_proof_90 rfl (lv_at hl 1 rfl) ?_
    exact e_i hx hb hr hlk hst rfl rfl dX5_proof_91
  · skip
    refine lv_aload_n hx hb dX5_proof_34 rfl (lv_at hl 2 rfl) ?_
    refine w_getI am hst (k := 0) (by decide) (fun _ _ _ => cE_M) rfl inT5 (by decide) (fun _ _ _ => rfl) fRX5_73 dX5_proof_35 ?_
    rw [show (u2 I 53 0 1) 53 0 = 1 from (u2_eq _ _ _ _)]
    refine lv_if_ne (tgt := 90) hx hb dX5_proof_38 (by decide) (fun c_38 => ?_) (fun c_38 => absurd c_38 ((show ¬ (1 : Int32) = 0 by decide)))
    refine lv_iload_n hx hb dX5_proof_90 rfl (lv_at hl 1 rfl) ?_
    exact e_i hx hb hr hlk hst rfl rfl dX5_proof_91

set_option maxHeartbeats 4000000 in
set_option maxRecDepth 100000 in
theorem k_X5_about_0 {l : Launch} {D : va_G} {cy ad : Nat → Nat} {I : Im} {G : Dm} {J : Jm} (hadI : adI ad) {n k : Nat} (hn : I 53 2 = nI n) (hk : k < n) (hn2 : n ≤ 32) : kM l yX5_about (.code yX5_about cX5_about 3 (some .int)) (rmK 1 0 0 21) D cy ad [.ref (ad 53), .int (nI k), .int 0] I G J (qI D cy ad (I 55 k) (u2 I 53 0 0) G J) := by
  refine start_M hadI (by decide +kernel) (Nat.le_of_ble_eq_true rfl) ?_
  intro p e s m below meth cd am hx hb hr hlk hst ls hl
  have hl : lv_has ls 3 [(0, .ref (ad 53)), (1, .int (nI k)), (2, .int 0)] := hl
  refine lv_aload_n hx hb dX5_about_0 rfl (lv_at hl 0 rfl) ?_
  refine lv_aload_n hx hb dX5_about_1 rfl (lv_at hl 0 rfl) ?_
  refine lv_iload_n hx hb dX5_about_2 rfl (lv_at hl 1 rfl) ?_
  refine c_i hst (r_V (As := [.int (nI k)]) (rest := [.ref (ad 53)]) am hst hl (k_X5_noBoard hadI hn hk hn2) kRX5_79 imX5_noBoard slX5_noBoard ⟨Nat.le_of_ble_eq_true rfl, Nat.le_of_ble_eq_true rfl⟩ (by decide) (fun _ _ _ => cE_M) rfl rfl rfl (Nat.le_of_ble_eq_true rfl) dX5_about_3 ⟨Nat.le_of_ble_eq_true rfl, Nat.le_of_ble_eq_true rfl⟩) (fun H locs hst => ?_)
  refine lv_if_ne (tgt := 18) hx hb dX5_about_6 (by decide) (fun c_6 => absurd ((show (0 : Int32) = 0 by decide)) c_6) (fun c_6 => ?_)
  refine lv_iload_n hx hb dX5_about_9 rfl (lv_at hl 2 rfl) ?_
  refine lv_if_lt (tgt := 18) hx hb dX5_about_10 (by decide) (fun c_10 => absurd c_10 ((show ¬ (0 : Int32) < 0 by decide))) (fun c_10 => ?_)
  refine lv_iload_n hx hb dX5_about_13 rfl (lv_at hl 2 rfl) ?_
  refine lv_iconst (v := 3) hx hb dX5_about_14 (by decide) ?_
  refine lv_icmp_le (tgt := 22) hx hb dX5_about_15 (by decide) (fun c_15 => ?_) (fun c_15 => absurd ((show (0 : Int32) ≤ 3 by decide)) c_15)
  refine lv_iconst (v := 0) hx hb dX5_about_22 (by decide) ?_
  refine w_putI am hst (k := 0) (by decide) (fun _ _ _ => cE_M) rfl inT5 tyX5 tyX5_ok nmX5 (by decide) fRX5_73 (fun _ _ _ => rfl) (fun _ _ _ => Nat.le_of_ble_eq_true rfl) rfl rfl rfl rfl dX5_about_23 (fun H locs hst => ?_)
  refine lv_aload_n hx hb dX5_about_26 rfl (lv_at hl 0 rfl) ?_
  refine w_getI am hst (k := 0) (by decide) (fun _ _ _ => cE_M) rfl inT5 (by decide) (fun _ _ _ => rfl) fRX5_73 dX5_about_27 ?_
  rw [show (u2 I 53 0 0) 53 0 = 0 from (u2_eq _ _ _ _)]
  refine lv_if_le (tgt := 35) hx hb dX5_about_30 (by decide) (fun c_30 => ?_) (fun c_30 => absurd ((show (0 : Int32) ≤ 0 by decide)) c_30)
  refine lv_iload_n hx hb dX5_about_35 rfl (lv_at hl 2 rfl) ?_
  refine lv_if_ne (tgt := 48) hx hb dX5_about_36 (by decide) (fun c_36 => absurd ((show (0 : Int32) = 0 by decide)) c_36) (fun c_36 => ?_)
  refine lv_aload_n hx hb dX5_about_39 rfl (lv_at hl 0 rfl) ?_
  refine w_getR am hst (k := 4) (b := ad 55) (by decide) (fun _ _ _ => cE_M) rfl inT5 (by decide) (fun _ _ _ => rfl) fRX5_13 dX5_about_40 ?_
  refine lv_iload_n hx hb dX5_about_43 rfl (lv_at hl 1 rfl) ?_
  refine w_iald am hst (by decide) (fun _ _ _ => cE_55) (n := k) (nI_clamp (by omega)) (vp_in_nI (by omega) (by decide)) dX5_about_44 ?_
  rw [show (u2 I 53 0 0) 55 k = I 55 k from (u2_ne (by omega))]
  refine lv_goto (tgt := 105) hx hb dX5_about_45 (by decide) ?_
  exact e_i hx hb hr hlk hst rfl rfl dX5_about_105

set_option maxHeartbeats 4000000 in
set_option maxRecDepth 100000 in
theorem k_X5_about_1 {l : Launch} {D : va_G} {cy ad : Nat → Nat} {I : Im} {G : Dm} {J : Jm} (hadI : adI ad) {n k : Nat} (hn : I 53 2 = nI n) (hk : k < n) (hn2 : n ≤ 32) : kM l yX5_about (.code yX5_about cX5_about 3 (some .int)) (rmK 1 0 0 21) D cy ad [.ref (ad 53), .int (nI k), .int 1] I G J (qI D cy ad (zB (mCompl (u2 I 53 0 0) G k)) (u2 I 53 0 0) G J) := by
  refine start_M hadI (by decide +kernel) (Nat.le_of_ble_eq_true rfl) ?_
  intro p e s m below meth cd am hx hb hr hlk hst ls hl
  have hl : lv_has ls 3 [(0, .ref (ad 53)), (1, .int (nI k)), (2, .int 1)] := hl
  refine lv_aload_n hx hb dX5_about_0 rfl (lv_at hl 0 rfl) ?_
  refine lv_aload_n hx hb dX5_about_1 rfl (lv_at hl 0 rfl) ?_
  refine lv_iload_n hx hb dX5_about_2 rfl (lv_at hl 1 rfl) ?_
  refine c_i hst (r_V (As := [.int (nI k)]) (rest := [.ref (ad 53)]) am hst hl (k_X5_noBoard hadI hn hk hn2) kRX5_79 imX5_noBoard slX5_noBoard ⟨Nat.le_of_ble_eq_true rfl, Nat.le_of_ble_eq_true rfl⟩ (by decide) (fun _ _ _ => cE_M) rfl rfl rfl (Nat.le_of_ble_eq_true rfl) dX5_about_3 ⟨Nat.le_of_ble_eq_true rfl, Nat.le_of_ble_eq_true rfl⟩) (fun H locs hst => ?_)
  refine lv_if_ne (tgt := 18) hx hb dX5_about_6 (by decide) (fun c_6 => absurd ((show (0 : Int32) = 0 by decide)) c_6) (fun c_6 => ?_)
  refine lv_iload_n hx hb dX5_about_9 rfl (lv_at hl 2 rfl) ?_
  refine lv_if_lt (tgt := 18) hx hb dX5_about_10 (by decide) (fun c_10 => absurd c_10 ((show ¬ (1 : Int32) < 0 by decide))) (fun c_10 => ?_)
  refine lv_iload_n hx hb dX5_about_13 rfl (lv_at hl 2 rfl) ?_
  refine lv_iconst (v := 3) hx hb dX5_about_14 (by decide) ?_
  refine lv_icmp_le (tgt := 22) hx hb dX5_about_15 (by decide) (fun c_15 => ?_) (fun c_15 => absurd ((show (1 : Int32) ≤ 3 by decide)) c_15)
  refine lv_iconst (v := 0) hx hb dX5_about_22 (by decide) ?_
  refine w_putI am hst (k := 0) (by decide) (fun _ _ _ => cE_M) rfl inT5 tyX5 tyX5_ok nmX5 (by decide) fRX5_73 (fun _ _ _ => rfl) (fun _ _ _ => Nat.le_of_ble_eq_true rfl) rfl rfl rfl rfl dX5_about_23 (fun H locs hst => ?_)
  refine lv_aload_n hx hb dX5_about_26 rfl (lv_at hl 0 rfl) ?_
  refine w_getI am hst (k := 0) (by decide) (fun _ _ _ => cE_M) rfl inT5 (by decide) (fun _ _ _ => rfl) fRX5_73 dX5_about_27 ?_
  rw [show (u2 I 53 0 0) 53 0 = 0 from (u2_eq _ _ _ _)]
  refine lv_if_le (tgt := 35) hx hb dX5_about_30 (by decide) (fun c_30 => ?_) (fun c_30 => absurd ((show (0 : Int32) ≤ 0 by decide)) c_30)
  refine lv_iload_n hx hb dX5_about_35 rfl (lv_at hl 2 rfl) ?_
  refine lv_if_ne (tgt := 48) hx hb dX5_about_36 (by decide) (fun c_36 => ?_) (fun c_36 => absurd c_36 ((show ¬ (1 : Int32) = 0 by decide)))
  refine lv_iload_n hx hb dX5_about_48 rfl (lv_at hl 2 rfl) ?_
  refine lv_iconst (v := 1) hx hb dX5_about_49 (by decide) ?_
  refine lv_icmp_ne (tgt := 69) hx hb dX5_about_50 (by decide) (fun c_50 => absurd ((show (1 : Int32) = 1 by decide)) c_50) (fun c_50 => ?_)
  refine lv_aload_n hx hb dX5_about_53 rfl (lv_at hl 0 rfl) ?_
  refine lv_iload_n hx hb dX5_about_54 rfl (lv_at hl 1 rfl) ?_
  refine c_i hst (r_V (As := [.int (nI k)]) (rest := []) am hst hl (k_X5_isComplete hadI (k := k) (by omega)) kRX5_99 imX5_isComplete slX5_isComplete ⟨Nat.le_of_ble_eq_true rfl, Nat.le_of_ble_eq_true rfl⟩ (by decide) (fun _ _ _ => cE_M) rfl rfl rfl (Nat.le_of_ble_eq_true rfl) dX5_about_55 ⟨Nat.le_of_ble_eq_true rfl, Nat.le_of_ble_eq_true rfl⟩) (fun H locs hst => ?_)
  refine lv_if_eq (tgt := 65) hx hb dX5_about_58 (by decide) (fun c_58 => ?_) (fun c_58 => ?_)
  · skip
    refine lv_iconst (v := 0) hx hb dX5_about_65 (by decide) ?_
    refine lv_goto (tgt := 105) hx hb dX5_about_66 (by decide) ?_
    exact e_i hx hb hr hlk hst rfl (by rw [zB_0.mp c_58]; rfl) dX5_about_105
  · skip
    refine lv_iconst (v := 1) hx hb dX5_about_61 (by decide) ?_
    refine lv_goto (tgt := 105) hx hb dX5_about_62 (by decide) ?_
    exact e_i hx hb hr hlk hst rfl (by rw [zB_n0.mp c_58]; rfl) dX5_about_105

set_option maxHeartbeats 4000000 in
set_option maxRecDepth 100000 in
theorem k_X5_about_2 {l : Launch} {D : va_G} {cy ad : Nat → Nat} {I : Im} {G : Dm} {J : Jm} (hadI : adI ad) {n k : Nat} (hn : I 53 2 = nI n) (hk : k < n) (hn2 : n ≤ 32) : kM l yX5_about (.code yX5_about cX5_about 3 (some .int)) (rmK 1 0 0 21) D cy ad [.ref (ad 53), .int (nI k), .int 2] I G J (qI D cy ad (zB (decide (¬ I 59 k = 0))) (u2 I 53 0 0) G J) := by
  refine start_M hadI (by decide +kernel) (Nat.le_of_ble_eq_true rfl) ?_
  intro p e s m below meth cd am hx hb hr hlk hst ls hl
  have hl : lv_has ls 3 [(0, .ref (ad 53)), (1, .int (nI k)), (2, .int 2)] := hl
  refine lv_aload_n hx hb dX5_about_0 rfl (lv_at hl 0 rfl) ?_
  refine lv_aload_n hx hb dX5_about_1 rfl (lv_at hl 0 rfl) ?_
  refine lv_iload_n hx hb dX5_about_2 rfl (lv_at hl 1 rfl) ?_
  refine c_i hst (r_V (As := [.int (nI k)]) (rest := [.ref (ad 53)]) am hst hl (k_X5_noBoard hadI hn hk hn2) kRX5_79 imX5_noBoard slX5_noBoard ⟨Nat.le_of_ble_eq_true rfl, Nat.le_of_ble_eq_true rfl⟩ (by decide) (fun _ _ _ => cE_M) rfl rfl rfl (Nat.le_of_ble_eq_true rfl) dX5_about_3 ⟨Nat.le_of_ble_eq_true rfl, Nat.le_of_ble_eq_true rfl⟩) (fun H locs hst => ?_)
  refine lv_if_ne (tgt := 18) hx hb dX5_about_6 (by decide) (fun c_6 => absurd ((show (0 : Int32) = 0 by decide)) c_6) (fun c_6 => ?_)
  refine lv_iload_n hx hb dX5_about_9 rfl (lv_at hl 2 rfl) ?_
  refine lv_if_lt (tgt := 18) hx hb dX5_about_10 (by decide) (fun c_10 => absurd c_10 ((show ¬ (2 : Int32) < 0 by decide))) (fun c_10 => ?_)
  refine lv_iload_n hx hb dX5_about_13 rfl (lv_at hl 2 rfl) ?_
  refine lv_iconst (v := 3) hx hb dX5_about_14 (by decide) ?_
  refine lv_icmp_le (tgt := 22) hx hb dX5_about_15 (by decide) (fun c_15 => ?_) (fun c_15 => absurd ((show (2 : Int32) ≤ 3 by decide)) c_15)
  refine lv_iconst (v := 0) hx hb dX5_about_22 (by decide) ?_
  refine w_putI am hst (k := 0) (by decide) (fun _ _ _ => cE_M) rfl inT5 tyX5 tyX5_ok nmX5 (by decide) fRX5_73 (fun _ _ _ => rfl) (fun _ _ _ => Nat.le_of_ble_eq_true rfl) rfl rfl rfl rfl dX5_about_23 (fun H locs hst => ?_)
  refine lv_aload_n hx hb dX5_about_26 rfl (lv_at hl 0 rfl) ?_
  refine w_getI am hst (k := 0) (by decide) (fun _ _ _ => cE_M) rfl inT5 (by decide) (fun _ _ _ => rfl) fRX5_73 dX5_about_27 ?_
  rw [show (u2 I 53 0 0) 53 0 = 0 from (u2_eq _ _ _ _)]
  refine lv_if_le (tgt := 35) hx hb dX5_about_30 (by decide) (fun c_30 => ?_) (fun c_30 => absurd ((show (0 : Int32) ≤ 0 by decide)) c_30)
  refine lv_iload_n hx hb dX5_about_35 rfl (lv_at hl 2 rfl) ?_
  refine lv_if_ne (tgt := 48) hx hb dX5_about_36 (by decide) (fun c_36 => ?_) (fun c_36 => absurd c_36 ((show ¬ (2 : Int32) = 0 by decide)))
  refine lv_iload_n hx hb dX5_about_48 rfl (lv_at hl 2 rfl) ?_
  refine lv_iconst (v := 1) hx hb dX5_about_49 (by decide) ?_
  refine lv_icmp_ne (tgt := 69) hx hb dX5_about_50 (by decide) (fun c_50 => ?_) (fun c_50 => absurd c_50 ((show ¬ (2 : Int32) = 1 by decide)))
  refine lv_iload_n hx hb dX5_about_69 rfl (lv_at hl 2 rfl) ?_
  refine lv_iconst (v := 2) hx hb dX5_about_70 (by decide) ?_
  refine lv_icmp_ne (tgt := 91) hx hb dX5_about_71 (by decide) (fun c_71 => absurd ((show (2 : Int32) = 2 by decide)) c_71) (fun c_71 => ?_)
  refine lv_aload_n hx hb dX5_about_74 rfl (lv_at hl 0 rfl) ?_
  refine w_getR am hst (k := 8) (b := ad 59) (by decide) (fun _ _ _ => cE_M) rfl inT5 (by decide) (fun _ _ _ => rfl) fRX5_26 dX5_about_75 ?_
  refine lv_iload_n hx hb dX5_about_78 rfl (lv_at hl 1 rfl) ?_
  refine w_zald am hst (by decide) (fun _ _ _ => cE_59) (n := k) (nI_clamp (by omega)) (vp_in_nI (by omega) (by decide)) dX5_about_79 ?_
  rw [show (u2 I 53 0 0) 59 k = I 59 k from (u2_ne (by omega))]
  refine lv_if_eq (tgt := 87) hx hb dX5_about_80 (by decide) (fun c_80 => ?_) (fun c_80 => ?_)
  · skip
    refine lv_iconst (v := 0) hx hb dX5_about_87 (by decide) ?_
    refine lv_goto (tgt := 105) hx hb dX5_about_88 (by decide) ?_
    exact e_i hx hb hr hlk hst rfl (by simp only [zB, c_80, not_true_eq_false, not_false_eq_true, decide_true, decide_false, Bool.true_and, Bool.false_and, Bool.and_true, Bool.and_false, Bool.and_self, if_true, if_false, ite_true, ite_false, reduceIte, Bool.false_eq_true]) dX5_about_105
  · skip
    refine lv_iconst (v := 1) hx hb dX5_about_83 (by decide) ?_
    refine lv_goto (tgt := 105) hx hb dX5_about_84 (by decide) ?_
    exact e_i hx hb hr hlk hst rfl (by simp only [zB, c_80, not_true_eq_false, not_false_eq_true, decide_true, decide_false, Bool.true_and, Bool.false_and, Bool.and_true, Bool.and_false, Bool.and_self, if_true, if_false, ite_true, ite_false, reduceIte, Bool.false_eq_true]) dX5_about_105

set_option maxHeartbeats 4000000 in
set_option maxRecDepth 100000 in
theorem k_X5_about_3 {l : Launch} {D : va_G} {cy ad : Nat → Nat} {I : Im} {G : Dm} {J : Jm} (hadI : adI ad) {n k : Nat} (hn : I 53 2 = nI n) (hk : k < n) (hn2 : n ≤ 32) : kM l yX5_about (.code yX5_about cX5_about 3 (some .int)) (rmK 1 0 0 21) D cy ad [.ref (ad 53), .int (nI k), .int 3] I G J (qI D cy ad (zB (decide (¬ I 60 k = 0))) (u2 I 53 0 0) G J) := by
  refine start_M hadI (by decide +kernel) (Nat.le_of_ble_eq_true rfl) ?_
  intro p e s m below meth cd am hx hb hr hlk hst ls hl
  have hl : lv_has ls 3 [(0, .ref (ad 53)), (1, .int (nI k)), (2, .int 3)] := hl
  refine lv_aload_n hx hb dX5_about_0 rfl (lv_at hl 0 rfl) ?_
  refine lv_aload_n hx hb dX5_about_1 rfl (lv_at hl 0 rfl) ?_
  refine lv_iload_n hx hb dX5_about_2 rfl (lv_at hl 1 rfl) ?_
  refine c_i hst (r_V (As := [.int (nI k)]) (rest := [.ref (ad 53)]) am hst hl (k_X5_noBoard hadI hn hk hn2) kRX5_79 imX5_noBoard slX5_noBoard ⟨Nat.le_of_ble_eq_true rfl, Nat.le_of_ble_eq_true rfl⟩ (by decide) (fun _ _ _ => cE_M) rfl rfl rfl (Nat.le_of_ble_eq_true rfl) dX5_about_3 ⟨Nat.le_of_ble_eq_true rfl, Nat.le_of_ble_eq_true rfl⟩) (fun H locs hst => ?_)
  refine lv_if_ne (tgt := 18) hx hb dX5_about_6 (by decide) (fun c_6 => absurd ((show (0 : Int32) = 0 by decide)) c_6) (fun c_6 => ?_)
  refine lv_iload_n hx hb dX5_about_9 rfl (lv_at hl 2 rfl) ?_
  refine lv_if_lt (tgt := 18) hx hb dX5_about_10 (by decide) (fun c_10 => absurd c_10 ((show ¬ (3 : Int32) < 0 by decide))) (fun c_10 => ?_)
  refine lv_iload_n hx hb dX5_about_13 rfl (lv_at hl 2 rfl) ?_
  refine lv_iconst (v := 3) hx hb dX5_about_14 (by decide) ?_
  refine lv_icmp_le (tgt := 22) hx hb dX5_about_15 (by decide) (fun c_15 => ?_) (fun c_15 => absurd ((show (3 : Int32) ≤ 3 by decide)) c_15)
  refine lv_iconst (v := 0) hx hb dX5_about_22 (by decide) ?_
  refine w_putI am hst (k := 0) (by decide) (fun _ _ _ => cE_M) rfl inT5 tyX5 tyX5_ok nmX5 (by decide) fRX5_73 (fun _ _ _ => rfl) (fun _ _ _ => Nat.le_of_ble_eq_true rfl) rfl rfl rfl rfl dX5_about_23 (fun H locs hst => ?_)
  refine lv_aload_n hx hb dX5_about_26 rfl (lv_at hl 0 rfl) ?_
  refine w_getI am hst (k := 0) (by decide) (fun _ _ _ => cE_M) rfl inT5 (by decide) (fun _ _ _ => rfl) fRX5_73 dX5_about_27 ?_
  rw [show (u2 I 53 0 0) 53 0 = 0 from (u2_eq _ _ _ _)]
  refine lv_if_le (tgt := 35) hx hb dX5_about_30 (by decide) (fun c_30 => ?_) (fun c_30 => absurd ((show (0 : Int32) ≤ 0 by decide)) c_30)
  refine lv_iload_n hx hb dX5_about_35 rfl (lv_at hl 2 rfl) ?_
  refine lv_if_ne (tgt := 48) hx hb dX5_about_36 (by decide) (fun c_36 => ?_) (fun c_36 => absurd c_36 ((show ¬ (3 : Int32) = 0 by decide)))
  refine lv_iload_n hx hb dX5_about_48 rfl (lv_at hl 2 rfl) ?_
  refine lv_iconst (v := 1) hx hb dX5_about_49 (by decide) ?_
  refine lv_icmp_ne (tgt := 69) hx hb dX5_about_50 (by decide) (fun c_50 => ?_) (fun c_50 => absurd c_50 ((show ¬ (3 : Int32) = 1 by decide)))
  refine lv_iload_n hx hb dX5_about_69 rfl (lv_at hl 2 rfl) ?_
  refine lv_iconst (v := 2) hx hb dX5_about_70 (by decide) ?_
  refine lv_icmp_ne (tgt := 91) hx hb dX5_about_71 (by decide) (fun c_71 => ?_) (fun c_71 => absurd c_71 ((show ¬ (3 : Int32) = 2 by decide)))
  refine lv_aload_n hx hb dX5_about_91 rfl (lv_at hl 0 rfl) ?_
  refine w_getR am hst (k := 9) (b := ad 60) (by decide) (fun _ _ _ => cE_M) rfl inT5 (by decide) (fun _ _ _ => rfl) fRX5_30 dX5_about_92 ?_
  refine lv_iload_n hx hb dX5_about_95 rfl (lv_at hl 1 rfl) ?_
  refine w_zald am hst (by decide) (fun _ _ _ => cE_60) (n := k) (nI_clamp (by omega)) (vp_in_nI (by omega) (by decide)) dX5_about_96 ?_
  rw [show (u2 I 53 0 0) 60 k = I 60 k from (u2_ne (by omega))]
  refine lv_if_eq (tgt := 104) hx hb dX5_about_97 (by decide) (fun c_97 => ?_) (fun c_97 => ?_)
  · skip
    refine lv_iconst (v := 0) hx hb dX5_about_104 (by decide) ?_
    exact e_i hx hb hr hlk hst rfl (by simp only [zB, c_97, not_true_eq_false, not_false_eq_true, decide_true, decide_false, Bool.true_and, Bool.false_and, Bool.and_true, Bool.and_false, Bool.and_self, if_true, if_false, ite_true, ite_false, reduceIte, Bool.false_eq_true]) dX5_about_105
  · skip
    refine lv_iconst (v := 1) hx hb dX5_about_100 (by decide) ?_
    refine lv_goto (tgt := 105) hx hb dX5_about_101 (by decide) ?_
    exact e_i hx hb hr hlk hst rfl (by simp only [zB, c_97, not_true_eq_false, not_false_eq_true, decide_true, decide_false, Bool.true_and, Bool.false_and, Bool.and_true, Bool.and_false, Bool.and_self, if_true, if_false, ite_true, ite_false, reduceIte, Bool.false_eq_true]) dX5_about_105

set_option maxHeartbeats 4000000 in
set_option maxRecDepth 100000 in
theorem x1_X5_about {l : Launch} {D : va_G} {cy ad : Nat → Nat} {I : Im} {G : Dm} {J : Jm} (hadI : adI ad) {v : Int32} (hv : v < 0 ∨ ¬ v < I 53 2) {w : Int32} : kM l yX5_about (.code yX5_about cX5_about 3 (some .int)) (rmK 1 0 0 21) D cy ad [.ref (ad 53), .int v, .int w] I G J (qI D cy ad 0 (u2 I 53 0 1) G J) := by
  refine start_M hadI (by decide +kernel) (Nat.le_of_ble_eq_true rfl) ?_
  intro p e s m below meth cd am hx hb hr hlk hst ls hl
  have hl : lv_has ls 3 [(0, .ref (ad 53)), (1, .int v), (2, .int w)] := hl
  refine lv_aload_n hx hb dX5_about_0 rfl (lv_at hl 0 rfl) ?_
  refine lv_aload_n hx hb dX5_about_1 rfl (lv_at hl 0 rfl) ?_
  refine lv_iload_n hx hb dX5_about_2 rfl (lv_at hl 1 rfl) ?_
  refine c_i hst (r_V (As := [.int v]) (rest := [.ref (ad 53)]) am hst hl (x_X5_noBoard hadI hv) kRX5_79 imX5_noBoard slX5_noBoard ⟨Nat.le_of_ble_eq_true rfl, Nat.le_of_ble_eq_true rfl⟩ (by decide) (fun _ _ _ => cE_M) rfl rfl rfl (Nat.le_of_ble_eq_true rfl) dX5_about_3 ⟨Nat.le_of_ble_eq_true rfl, Nat.le_of_ble_eq_true rfl⟩) (fun H locs hst => ?_)
  refine lv_if_ne (tgt := 18) hx hb dX5_about_6 (by decide) (fun c_6 => ?_) (fun c_6 => absurd c_6 ((show ¬ (1 : Int32) = 0 by decide)))
  refine lv_iconst (v := 1) hx hb dX5_about_18 (by decide) ?_
  refine lv_goto (tgt := 23) hx hb dX5_about_19 (by decide) ?_
  refine w_putI am hst (k := 0) (by decide) (fun _ _ _ => cE_M) rfl inT5 tyX5 tyX5_ok nmX5 (by decide) fRX5_73 (fun _ _ _ => rfl) (fun _ _ _ => Nat.le_of_ble_eq_true rfl) rfl rfl rfl rfl dX5_about_23 (fun H locs hst => ?_)
  refine lv_aload_n hx hb dX5_about_26 rfl (lv_at hl 0 rfl) ?_
  refine w_getI am hst (k := 0) (by decide) (fun _ _ _ => cE_M) rfl inT5 (by decide) (fun _ _ _ => rfl) fRX5_73 dX5_about_27 ?_
  rw [show (u2 I 53 0 1) 53 0 = 1 from (u2_eq _ _ _ _)]
  refine lv_if_le (tgt := 35) hx hb dX5_about_30 (by decide) (fun c_30 => absurd c_30 ((show ¬ (1 : Int32) ≤ 0 by decide))) (fun c_30 => ?_)
  refine lv_iconst (v := 0) hx hb dX5_about_33 (by decide) ?_
  exact e_i hx hb hr hlk hst rfl rfl dX5_about_34

set_option maxHeartbeats 4000000 in
set_option maxRecDepth 100000 in
theorem x2_X5_about {l : Launch} {D : va_G} {cy ad : Nat → Nat} {I : Im} {G : Dm} {J : Jm} (hadI : adI ad) {n k : Nat} (hn : I 53 2 = nI n) (hk : k < n) (hn2 : n ≤ 32) {w : Int32} (hw : w < 0 ∨ ¬ w ≤ 3) : kM l yX5_about (.code yX5_about cX5_about 3 (some .int)) (rmK 1 0 0 21) D cy ad [.ref (ad 53), .int (nI k), .int w] I G J (qI D cy ad 0 (u2 I 53 0 1) G J) := by
  refine start_M hadI (by decide +kernel) (Nat.le_of_ble_eq_true rfl) ?_
  intro p e s m below meth cd am hx hb hr hlk hst ls hl
  have hl : lv_has ls 3 [(0, .ref (ad 53)), (1, .int (nI k)), (2, .int w)] := hl
  refine lv_aload_n hx hb dX5_about_0 rfl (lv_at hl 0 rfl) ?_
  refine lv_aload_n hx hb dX5_about_1 rfl (lv_at hl 0 rfl) ?_
  refine lv_iload_n hx hb dX5_about_2 rfl (lv_at hl 1 rfl) ?_
  refine c_i hst (r_V (As := [.int (nI k)]) (rest := [.ref (ad 53)]) am hst hl (k_X5_noBoard hadI hn hk hn2) kRX5_79 imX5_noBoard slX5_noBoard ⟨Nat.le_of_ble_eq_true rfl, Nat.le_of_ble_eq_true rfl⟩ (by decide) (fun _ _ _ => cE_M) rfl rfl rfl (Nat.le_of_ble_eq_true rfl) dX5_about_3 ⟨Nat.le_of_ble_eq_true rfl, Nat.le_of_ble_eq_true rfl⟩) (fun H locs hst => ?_)
  refine lv_if_ne (tgt := 18) hx hb dX5_about_6 (by decide) (fun c_6 => absurd ((show (0 : Int32) = 0 by decide)) c_6) (fun c_6 => ?_)
  refine lv_iload_n hx hb dX5_about_9 rfl (lv_at hl 2 rfl) ?_
  refine lv_if_lt (tgt := 18) hx hb dX5_about_10 (by decide) (fun c_10 => ?_) (fun c_10 => ?_)
  · skip
    refine lv_iconst (v := 1) hx hb dX5_about_18 (by decide) ?_
    refine lv_goto (tgt := 23) hx hb dX5_about_19 (by decide) ?_
    refine w_putI am hst (k := 0) (by decide) (fun _ _ _ => cE_M) rfl inT5 tyX5 tyX5_ok nmX5 (by decide) fRX5_73 (fun _ _ _ => rfl) (fun _ _ _ => Nat.le_of_ble_eq_true rfl) rfl rfl rfl rfl dX5_about_23 (fun H locs hst => ?_)
    refine lv_aload_n hx hb dX5_about_26 rfl (lv_at hl 0 rfl) ?_
    refine w_getI am hst (k := 0) (by decide) (fun _ _ _ => cE_M) rfl inT5 (by decide) (fun _ _ _ => rfl) fRX5_73 dX5_about_27 ?_
    rw [show (u2 I 53 0 1) 53 0 = 1 from (u2_eq _ _ _ _)]
    refine lv_if_le (tgt := 35) hx hb dX5_about_30 (by decide) (fun c_30 => absurd c_30 ((show ¬ (1 : Int32) ≤ 0 by decide))) (fun c_30 => ?_)
    refine lv_iconst (v := 0) hx hb dX5_about_33 (by decide) ?_
    exact e_i hx hb hr hlk hst rfl rfl dX5_about_34
  · skip
    refine lv_iload_n hx hb dX5_about_13 rfl (lv_at hl 2 rfl) ?_
    refine lv_iconst (v := 3) hx hb dX5_about_14 (by decide) ?_
    refine lv_icmp_le (tgt := 22) hx hb dX5_about_15 (by decide) (fun c_15 => absurd c_15 (hw.resolve_left c_10)) (fun c_15 => ?_)
    refine lv_iconst (v := 1) hx hb dX5_about_18 (by decide) ?_
    refine lv_goto (tgt := 23) hx hb dX5_about_19 (by decide) ?_
    refine w_putI am hst (k := 0) (by decide) (fun _ _ _ => cE_M) rfl inT5 tyX5 tyX5_ok nmX5 (by decide) fRX5_73 (fun _ _ _ => rfl) (fun _ _ _ => Nat.le_of_ble_eq_true rfl) rfl rfl rfl rfl dX5_about_23 (fun H locs hst => ?_)
    refine lv_aload_n hx hb dX5_about_26 rfl (lv_at hl 0 rfl) ?_
    refine w_getI am hst (k := 0) (by decide) (fun _ _ _ => cE_M) rfl inT5 (by decide) (fun _ _ _ => rfl) fRX5_73 dX5_about_27 ?_
    rw [show (u2 I 53 0 1) 53 0 = 1 from (u2_eq _ _ _ _)]
    refine lv_if_le (tgt := 35) hx hb dX5_about_30 (by decide) (fun c_30 => absurd c_30 ((show ¬ (1 : Int32) ≤ 0 by decide))) (fun c_30 => ?_)
    refine lv_iconst (v := 0) hx hb dX5_about_33 (by decide) ?_
    exact e_i hx hb hr hlk hst rfl rfl dX5_about_34

set_option maxHeartbeats 4000000 in
set_option maxRecDepth 100000 in
theorem k_X5_reference {l : Launch} {D : va_G} {cy ad : Nat → Nat} {I : Im} {G : Dm} {J : Jm} (hadI : adI ad) {n : Nat} (hn : I 53 21 = nI n) (hn2 : n < 16) {v : Int32} {x X : UInt64} (hxX : cn x = X) (h1 : bDay v = true) (h2 : n = 0 ∨ ¬ v ≤ I 68 (n - 1)) (h3 : mBt X 13875379345695965184 4652007308841189376 = true) : kM l yX5_reference (.code yX5_reference cX5_reference 5 (some .int)) (rmK 1 0 0 25) D cy ad [.ref (ad 53), .int v, .double x] I G J (qI D cy ad (nI (n + 1)) (u2 (u2 (u2 I 53 0 0) 68 n v) 53 21 (nI (n + 1))) (u2 G 69 n X) J) := by
  refine start_M hadI (by decide +kernel) (Nat.le_of_ble_eq_true rfl) ?_
  intro p e s m below meth cd am hx hb hr hlk hst ls hl
  have hl : lv_has ls 5 [(0, .ref (ad 53)), (1, .int v), (2, .double x)] := hl
  refine lv_iload_n hx hb dX5_reference_0 rfl (lv_at hl 1 rfl) ?_
  refine lv_if_lt (tgt := 50) hx hb dX5_reference_1 (by decide) (fun c_1 => absurd c_1 ((by unfold bDay at h1; rw [Bool.and_eq_true] at h1; exact of_decide_eq_true h1.1))) (fun c_1 => ?_)
  refine lv_iload_n hx hb dX5_reference_4 rfl (lv_at hl 1 rfl) ?_
  refine lv_sipush (v := 10000) hx hb dX5_reference_5 (by decide) ?_
  refine lv_icmp_gt (tgt := 50) hx hb dX5_reference_8 (by decide) (fun c_8 => absurd c_8 ((by unfold bDay at h1; rw [Bool.and_eq_true] at h1; exact of_decide_eq_true h1.2))) (fun c_8 => ?_)
  refine lv_aload_n hx hb dX5_reference_11 rfl (lv_at hl 0 rfl) ?_
  refine w_getI am hst (k := 21) (by decide) (fun _ _ _ => cE_M) rfl inT5 (by decide) (fun _ _ _ => rfl) fRX5_128 dX5_reference_12 ?_
  rw [hn]
  refine lv_if_eq (tgt := 33) hx hb dX5_reference_15 (by decide) (fun c_15 => ?_) (fun c_15 => ?_)
  · skip
    refine lv_dload_n hx hb dX5_reference_33 rfl (lv_at hl 2 rfl) ?_
    refine lv_ldc2d hx hb am.2.2.2.1 (amT am _ wRX5_131) dX5_reference_34 ?_
    refine lv_ldc2d hx hb am.2.2.2.1 (amT am _ wRX5_83) dX5_reference_37 ?_
    refine c_i hst (r_S (As := [.double x, .double 13875379345695965184, .double 4652007308841189376]) (rest := []) am hst hl (k_X5_between hadI hxX cn_k13875379345695965184 cn_k4652007308841189376) kRX5_85 smX5_between ⟨Nat.le_of_ble_eq_true rfl, Nat.le_of_ble_eq_true rfl⟩ rfl rfl (Nat.le_of_ble_eq_true rfl) dX5_reference_40 ⟨Nat.le_of_ble_eq_true rfl, Nat.le_of_ble_eq_true rfl⟩) (fun H locs hst => ?_)
    refine lv_if_eq (tgt := 50) hx hb dX5_reference_43 (by decide) (fun c_43 => absurd c_43 (zB_n0.mpr h3)) (fun c_43 => ?_)
    refine lv_iconst (v := 1) hx hb dX5_reference_46 (by decide) ?_
    refine lv_goto (tgt := 51) hx hb dX5_reference_47 (by decide) ?_
    refine lv_istore (lv' := [(4, .int 1), (0, .ref (ad 53)), (1, .int v), (2, .double x)]) hx hb dX5_reference_51 hl (by decide) rfl (fun ls hl => ?_)
    refine lv_aload_n hx hb dX5_reference_53 rfl (lv_at hl 1 rfl) ?_
    refine lv_iload hx hb dX5_reference_54 (lv_at hl 0 rfl) ?_
    refine lv_if_ne (tgt := 63) hx hb dX5_reference_56 (by decide) (fun c_56 => ?_) (fun c_56 => absurd c_56 ((show ¬ (1 : Int32) = 0 by decide)))
    refine lv_aload_n hx hb dX5_reference_63 rfl (lv_at hl 1 rfl) ?_
    refine w_getI am hst (k := 21) (by decide) (fun _ _ _ => cE_M) rfl inT5 (by decide) (fun _ _ _ => rfl) fRX5_128 dX5_reference_64 ?_
    rw [hn]
    refine lv_bipush (v := 16) hx hb dX5_reference_67 (by decide) ?_
    refine lv_icmp_ne (tgt := 76) hx hb dX5_reference_69 (by decide) (fun c_69 => ?_) (fun c_69 => absurd c_69 ((fun h => absurd ((nI_eq (b := 16) (by omega) (by omega)).mp h) (by omega))))
    refine lv_iconst (v := 0) hx hb dX5_reference_76 (by decide) ?_
    refine w_putI am hst (k := 0) (by decide) (fun _ _ _ => cE_M) rfl inT5 tyX5 tyX5_ok nmX5 (by decide) fRX5_73 (fun _ _ _ => rfl) (fun _ _ _ => Nat.le_of_ble_eq_true rfl) rfl rfl rfl rfl dX5_reference_77 (fun H locs hst => ?_)
    refine lv_aload_n hx hb dX5_reference_80 rfl (lv_at hl 1 rfl) ?_
    refine w_getI am hst (k := 0) (by decide) (fun _ _ _ => cE_M) rfl inT5 (by decide) (fun _ _ _ => rfl) fRX5_73 dX5_reference_81 ?_
    rw [show (u2 I 53 0 0) 53 0 = 0 from (u2_eq _ _ _ _)]
    refine lv_if_le (tgt := 89) hx hb dX5_reference_84 (by decide) (fun c_84 => ?_) (fun c_84 => absurd ((show (0 : Int32) ≤ 0 by decide)) c_84)
    refine lv_aload_n hx hb dX5_reference_89 rfl (lv_at hl 1 rfl) ?_
    refine w_getR am hst (k := 22) (b := ad 68) (by decide) (fun _ _ _ => cE_M) rfl inT5 (by decide) (fun _ _ _ => rfl) fRX5_63 dX5_reference_90 ?_
    refine lv_aload_n hx hb dX5_reference_93 rfl (lv_at hl 1 rfl) ?_
    refine w_getI am hst (k := 21) (by decide) (fun _ _ _ => cE_M) rfl inT5 (by decide) (fun _ _ _ => rfl) fRX5_128 dX5_reference_94 ?_
    rw [show (u2 I 53 0 0) 53 21 = I 53 21 from (u2_ne (by omega))]
    rw [hn]
    refine lv_iload_n hx hb dX5_reference_97 rfl (lv_at hl 2 rfl) ?_
    refine w_iast am hst (by decide) (fun _ _ _ => cE_68) (n := n) (nI_clamp (by omega)) (vp_in_nI (by omega) (by decide)) dX5_reference_98 (fun H locs hst => ?_)
    refine lv_aload_n hx hb dX5_reference_99 rfl (lv_at hl 1 rfl) ?_
    refine w_getR am hst (k := 23) (b := ad 69) (by decide) (fun _ _ _ => cE_M) rfl inT5 (by decide) (fun _ _ _ => rfl) fRX5_66 dX5_reference_100 ?_
    refine lv_aload_n hx hb dX5_reference_103 rfl (lv_at hl 1 rfl) ?_
    refine w_getI am hst (k := 21) (by decide) (fun _ _ _ => cE_M) rfl inT5 (by decide) (fun _ _ _ => rfl) fRX5_128 dX5_reference_104 ?_
    rw [show (u2 (u2 I 53 0 0) 68 n v) 53 21 = I 53 21 from ((u2_ne (by omega)).trans (u2_ne (by omega)))]
    rw [hn]
    refine lv_dload_n hx hb dX5_reference_107 rfl (lv_at hl 3 rfl) ?_
    refine w_dast am hst hxX (by decide) (fun _ _ _ => cE_69) (n := n) (nI_clamp (by omega)) (vp_in_nI (by omega) (by decide)) dX5_reference_108 (fun H locs hst => ?_)
    refine lv_aload_n hx hb dX5_reference_109 rfl (lv_at hl 1 rfl) ?_
    refine lv_dup hx hb dX5_reference_110 rfl ?_
    refine w_getI am hst (k := 21) (by decide) (fun _ _ _ => cE_M) rfl inT5 (by decide) (fun _ _ _ => rfl) fRX5_128 dX5_reference_111 ?_
    rw [show (u2 (u2 I 53 0 0) 68 n v) 53 21 = I 53 21 from ((u2_ne (by omega)).trans (u2_ne (by omega)))]
    rw [hn]
    refine lv_iconst (v := 1) hx hb dX5_reference_114 (by decide) ?_
    refine lv_iadd hx hb dX5_reference_115 ?_
    rw [nI_1]
    refine w_putI am hst (k := 21) (by decide) (fun _ _ _ => cE_M) rfl inT5 tyX5 tyX5_ok nmX5 (by decide) fRX5_128 (fun _ _ _ => rfl) (fun _ _ _ => Nat.le_of_ble_eq_true rfl) rfl rfl rfl rfl dX5_reference_116 (fun H locs hst => ?_)
    refine lv_aload_n hx hb dX5_reference_119 rfl (lv_at hl 1 rfl) ?_
    refine w_getI am hst (k := 21) (by decide) (fun _ _ _ => cE_M) rfl inT5 (by decide) (fun _ _ _ => rfl) fRX5_128 dX5_reference_120 ?_
    rw [show (u2 (u2 (u2 I 53 0 0) 68 n v) 53 21 (nI (n + 1))) 53 21 = nI (n + 1) from (u2_eq _ _ _ _)]
    exact e_i hx hb hr hlk hst rfl rfl dX5_reference_123
  · skip
    refine lv_iload_n hx hb dX5_reference_18 rfl (lv_at hl 1 rfl) ?_
    refine lv_aload_n hx hb dX5_reference_19 rfl (lv_at hl 0 rfl) ?_
    refine w_getR am hst (k := 22) (b := ad 68) (by decide) (fun _ _ _ => cE_M) rfl inT5 (by decide) (fun _ _ _ => rfl) fRX5_63 dX5_reference_20 ?_
    refine lv_aload_n hx hb dX5_reference_23 rfl (lv_at hl 0 rfl) ?_
    refine w_getI am hst (k := 21) (by decide) (fun _ _ _ => cE_M) rfl inT5 (by decide) (fun _ _ _ => rfl) fRX5_128 dX5_reference_24 ?_
    rw [hn]
    refine lv_iconst (v := 1) hx hb dX5_reference_27 (by decide) ?_
    refine lv_isub hx hb dX5_reference_28 ?_
    have hc1 : 1 ≤ n := Nat.pos_of_ne_zero (fun h => c_15 (by rw [h]; rfl))
    rw [show nI n - 1 = nI (n - 1) from pk_sub (b := 1) (by omega)]
    refine w_iald am hst (by decide) (fun _ _ _ => cE_68) (n := n - 1) (nI_clamp (by omega)) (vp_in_nI (by omega) (by decide)) dX5_reference_29 ?_
    refine lv_icmp_le (tgt := 50) hx hb dX5_reference_30 (by decide) (fun c_30 => absurd c_30 ((h2.resolve_left (fun h => c_15 (by rw [h]; rfl))))) (fun c_30 => ?_)
    refine lv_dload_n hx hb dX5_reference_33 rfl (lv_at hl 2 rfl) ?_
    refine lv_ldc2d hx hb am.2.2.2.1 (amT am _ wRX5_131) dX5_reference_34 ?_
    refine lv_ldc2d hx hb am.2.2.2.1 (amT am _ wRX5_83) dX5_reference_37 ?_
    refine c_i hst (r_S (As := [.double x, .double 13875379345695965184, .double 4652007308841189376]) (rest := []) am hst hl (k_X5_between hadI hxX cn_k13875379345695965184 cn_k4652007308841189376) kRX5_85 smX5_between ⟨Nat.le_of_ble_eq_true rfl, Nat.le_of_ble_eq_true rfl⟩ rfl rfl (Nat.le_of_ble_eq_true rfl) dX5_reference_40 ⟨Nat.le_of_ble_eq_true rfl, Nat.le_of_ble_eq_true rfl⟩) (fun H locs hst => ?_)
    refine lv_if_eq (tgt := 50) hx hb dX5_reference_43 (by decide) (fun c_43 => absurd c_43 (zB_n0.mpr h3)) (fun c_43 => ?_)
    refine lv_iconst (v := 1) hx hb dX5_reference_46 (by decide) ?_
    refine lv_goto (tgt := 51) hx hb dX5_reference_47 (by decide) ?_
    refine lv_istore (lv' := [(4, .int 1), (0, .ref (ad 53)), (1, .int v), (2, .double x)]) hx hb dX5_reference_51 hl (by decide) rfl (fun ls hl => ?_)
    refine lv_aload_n hx hb dX5_reference_53 rfl (lv_at hl 1 rfl) ?_
    refine lv_iload hx hb dX5_reference_54 (lv_at hl 0 rfl) ?_
    refine lv_if_ne (tgt := 63) hx hb dX5_reference_56 (by decide) (fun c_56 => ?_) (fun c_56 => absurd c_56 ((show ¬ (1 : Int32) = 0 by decide)))
    refine lv_aload_n hx hb dX5_reference_63 rfl (lv_at hl 1 rfl) ?_
    refine w_getI am hst (k := 21) (by decide) (fun _ _ _ => cE_M) rfl inT5 (by decide) (fun _ _ _ => rfl) fRX5_128 dX5_reference_64 ?_
    rw [hn]
    refine lv_bipush (v := 16) hx hb dX5_reference_67 (by decide) ?_
    refine lv_icmp_ne (tgt := 76) hx hb dX5_reference_69 (by decide) (fun c_69 => ?_) (fun c_69 => absurd c_69 ((fun h => absurd ((nI_eq (b := 16) (by omega) (by omega)).mp h) (by omega))))
    refine lv_iconst (v := 0) hx hb dX5_reference_76 (by decide) ?_
    refine w_putI am hst (k := 0) (by decide) (fun _ _ _ => cE_M) rfl inT5 tyX5 tyX5_ok nmX5 (by decide) fRX5_73 (fun _ _ _ => rfl) (fun _ _ _ => Nat.le_of_ble_eq_true rfl) rfl rfl rfl rfl dX5_reference_77 (fun H locs hst => ?_)
    refine lv_aload_n hx hb dX5_reference_80 rfl (lv_at hl 1 rfl) ?_
    refine w_getI am hst (k := 0) (by decide) (fun _ _ _ => cE_M) rfl inT5 (by decide) (fun _ _ _ => rfl) fRX5_73 dX5_reference_81 ?_
    rw [show (u2 I 53 0 0) 53 0 = 0 from (u2_eq _ _ _ _)]
    refine lv_if_le (tgt := 89) hx hb dX5_reference_84 (by decide) (fun c_84 => ?_) (fun c_84 => absurd ((show (0 : Int32) ≤ 0 by decide)) c_84)
    refine lv_aload_n hx hb dX5_reference_89 rfl (lv_at hl 1 rfl) ?_
    refine w_getR am hst (k := 22) (b := ad 68) (by decide) (fun _ _ _ => cE_M) rfl inT5 (by decide) (fun _ _ _ => rfl) fRX5_63 dX5_reference_90 ?_
    refine lv_aload_n hx hb dX5_reference_93 rfl (lv_at hl 1 rfl) ?_
    refine w_getI am hst (k := 21) (by decide) (fun _ _ _ => cE_M) rfl inT5 (by decide) (fun _ _ _ => rfl) fRX5_128 dX5_reference_94 ?_
    rw [show (u2 I 53 0 0) 53 21 = I 53 21 from (u2_ne (by omega))]
    rw [hn]
    refine lv_iload_n hx hb dX5_reference_97 rfl (lv_at hl 2 rfl) ?_
    refine w_iast am hst (by decide) (fun _ _ _ => cE_68) (n := n) (nI_clamp (by omega)) (vp_in_nI (by omega) (by decide)) dX5_reference_98 (fun H locs hst => ?_)
    refine lv_aload_n hx hb dX5_reference_99 rfl (lv_at hl 1 rfl) ?_
    refine w_getR am hst (k := 23) (b := ad 69) (by decide) (fun _ _ _ => cE_M) rfl inT5 (by decide) (fun _ _ _ => rfl) fRX5_66 dX5_reference_100 ?_
    refine lv_aload_n hx hb dX5_reference_103 rfl (lv_at hl 1 rfl) ?_
    refine w_getI am hst (k := 21) (by decide) (fun _ _ _ => cE_M) rfl inT5 (by decide) (fun _ _ _ => rfl) fRX5_128 dX5_reference_104 ?_
    rw [show (u2 (u2 I 53 0 0) 68 n v) 53 21 = I 53 21 from ((u2_ne (by omega)).trans (u2_ne (by omega)))]
    rw [hn]
    refine lv_dload_n hx hb dX5_reference_107 rfl (lv_at hl 3 rfl) ?_
    refine w_dast am hst hxX (by decide) (fun _ _ _ => cE_69) (n := n) (nI_clamp (by omega)) (vp_in_nI (by omega) (by decide)) dX5_reference_108 (fun H locs hst => ?_)
    refine lv_aload_n hx hb dX5_reference_109 rfl (lv_at hl 1 rfl) ?_
    refine lv_dup hx hb dX5_reference_110 rfl ?_
    refine w_getI am hst (k := 21) (by decide) (fun _ _ _ => cE_M) rfl inT5 (by decide) (fun _ _ _ => rfl) fRX5_128 dX5_reference_111 ?_
    rw [show (u2 (u2 I 53 0 0) 68 n v) 53 21 = I 53 21 from ((u2_ne (by omega)).trans (u2_ne (by omega)))]
    rw [hn]
    refine lv_iconst (v := 1) hx hb dX5_reference_114 (by decide) ?_
    refine lv_iadd hx hb dX5_reference_115 ?_
    rw [nI_1]
    refine w_putI am hst (k := 21) (by decide) (fun _ _ _ => cE_M) rfl inT5 tyX5 tyX5_ok nmX5 (by decide) fRX5_128 (fun _ _ _ => rfl) (fun _ _ _ => Nat.le_of_ble_eq_true rfl) rfl rfl rfl rfl dX5_reference_116 (fun H locs hst => ?_)
    refine lv_aload_n hx hb dX5_reference_119 rfl (lv_at hl 1 rfl) ?_
    refine w_getI am hst (k := 21) (by decide) (fun _ _ _ => cE_M) rfl inT5 (by decide) (fun _ _ _ => rfl) fRX5_128 dX5_reference_120 ?_
    rw [show (u2 (u2 (u2 I 53 0 0) 68 n v) 53 21 (nI (n + 1))) 53 21 = nI (n + 1) from (u2_eq _ _ _ _)]
    exact e_i hx hb hr hlk hst rfl rfl dX5_reference_123

set_option maxHeartbeats 4000000 in
set_option maxRecDepth 100000 in
theorem x1_X5_reference {l : Launch} {D : va_G} {cy ad : Nat → Nat} {I : Im} {G : Dm} {J : Jm} (hadI : adI ad) {n : Nat} (hn : I 53 21 = nI n) (hn2 : n ≤ 16) {v : Int32} {x X : UInt64} (hxX : cn x = X) (hv : v < 0 ∨ 10000 < v ∨ (¬ n = 0 ∧ v ≤ I 68 (n - 1)) ∨ mBt X 13875379345695965184 4652007308841189376 = false) : kM l yX5_reference (.code yX5_reference cX5_reference 5 (some .int)) (rmK 1 0 0 25) D cy ad [.ref (ad 53), .int v, .double x] I G J (qI D cy ad 0 (u2 I 53 0 1) G J) := by
  refine start_M hadI (by decide +kernel) (Nat.le_of_ble_eq_true rfl) ?_
  intro p e s m below meth cd am hx hb hr hlk hst ls hl
  have hl : lv_has ls 5 [(0, .ref (ad 53)), (1, .int v), (2, .double x)] := hl
  refine lv_iload_n hx hb dX5_reference_0 rfl (lv_at hl 1 rfl) ?_
  refine lv_if_lt (tgt := 50) hx hb dX5_reference_1 (by decide) (fun c_1 => ?_) (fun c_1 => ?_)
  · skip
    refine lv_iconst (v := 0) hx hb dX5_reference_50 (by decide) ?_
    refine lv_istore (lv' := [(4, .int 0), (0, .ref (ad 53)), (1, .int v), (2, .double x)]) hx hb dX5_reference_51 hl (by decide) rfl (fun ls hl => ?_)
    refine lv_aload_n hx hb dX5_reference_53 rfl (lv_at hl 1 rfl) ?_
    refine lv_iload hx hb dX5_reference_54 (lv_at hl 0 rfl) ?_
    refine lv_if_ne (tgt := 63) hx hb dX5_reference_56 (by decide) (fun c_56 => absurd ((show (0 : Int32) = 0 by decide)) c_56) (fun c_56 => ?_)
    refine lv_iconst (v := 1) hx hb dX5_reference_59 (by decide) ?_
    refine lv_goto (tgt := 77) hx hb dX5_reference_60 (by decide) ?_
    refine w_putI am hst (k := 0) (by decide) (fun _ _ _ => cE_M) rfl inT5 tyX5 tyX5_ok nmX5 (by decide) fRX5_73 (fun _ _ _ => rfl) (fun _ _ _ => Nat.le_of_ble_eq_true rfl) rfl rfl rfl rfl dX5_reference_77 (fun H locs hst => ?_)
    refine lv_aload_n hx hb dX5_reference_80 rfl (lv_at hl 1 rfl) ?_
    refine w_getI am hst (k := 0) (by decide) (fun _ _ _ => cE_M) rfl inT5 (by decide) (fun _ _ _ => rfl) fRX5_73 dX5_reference_81 ?_
    rw [show (u2 I 53 0 1) 53 0 = 1 from (u2_eq _ _ _ _)]
    refine lv_if_le (tgt := 89) hx hb dX5_reference_84 (by decide) (fun c_84 => absurd c_84 ((show ¬ (1 : Int32) ≤ 0 by decide))) (fun c_84 => ?_)
    refine lv_iconst (v := 0) hx hb dX5_reference_87 (by decide) ?_
    exact e_i hx hb hr hlk hst rfl rfl dX5_reference_88
  · skip
    refine lv_iload_n hx hb dX5_reference_4 rfl (lv_at hl 1 rfl) ?_
    refine lv_sipush (v := 10000) hx hb dX5_reference_5 (by decide) ?_
    refine lv_icmp_gt (tgt := 50) hx hb dX5_reference_8 (by decide) (fun c_8 => ?_) (fun c_8 => ?_)
    · skip
      refine lv_iconst (v := 0) hx hb dX5_reference_50 (by decide) ?_
      refine lv_istore (lv' := [(4, .int 0), (0, .ref (ad 53)), (1, .int v), (2, .double x)]) hx hb dX5_reference_51 hl (by decide) rfl (fun ls hl => ?_)
      refine lv_aload_n hx hb dX5_reference_53 rfl (lv_at hl 1 rfl) ?_
      refine lv_iload hx hb dX5_reference_54 (lv_at hl 0 rfl) ?_
      refine lv_if_ne (tgt := 63) hx hb dX5_reference_56 (by decide) (fun c_56 => absurd ((show (0 : Int32) = 0 by decide)) c_56) (fun c_56 => ?_)
      refine lv_iconst (v := 1) hx hb dX5_reference_59 (by decide) ?_
      refine lv_goto (tgt := 77) hx hb dX5_reference_60 (by decide) ?_
      refine w_putI am hst (k := 0) (by decide) (fun _ _ _ => cE_M) rfl inT5 tyX5 tyX5_ok nmX5 (by decide) fRX5_73 (fun _ _ _ => rfl) (fun _ _ _ => Nat.le_of_ble_eq_true rfl) rfl rfl rfl rfl dX5_reference_77 (fun H locs hst => ?_)
      refine lv_aload_n hx hb dX5_reference_80 rfl (lv_at hl 1 rfl) ?_
      refine w_getI am hst (k := 0) (by decide) (fun _ _ _ => cE_M) rfl inT5 (by decide) (fun _ _ _ => rfl) fRX5_73 dX5_reference_81 ?_
      rw [show (u2 I 53 0 1) 53 0 = 1 from (u2_eq _ _ _ _)]
      refine lv_if_le (tgt := 89) hx hb dX5_reference_84 (by decide) (fun c_84 => absurd c_84 ((show ¬ (1 : Int32) ≤ 0 by decide))) (fun c_84 => ?_)
      refine lv_iconst (v := 0) hx hb dX5_reference_87 (by decide) ?_
      exact e_i hx hb hr hlk hst rfl rfl dX5_reference_88
    · skip
      refine lv_aload_n hx hb dX5_reference_11 rfl (lv_at hl 0 rfl) ?_
      refine w_getI am hst (k := 21) (by decide) (fun _ _ _ => cE_M) rfl inT5 (by decide) (fun _ _ _ => rfl) fRX5_128 dX5_reference_12 ?_
      rw [hn]
      refine lv_if_eq (tgt := 33) hx hb dX5_reference_15 (by decide) (fun c_15 => ?_) (fun c_15 => ?_)
      · skip
        refine lv_dload_n hx hb dX5_reference_33 rfl (lv_at hl 2 rfl) ?_
        refine lv_ldc2d hx hb am.2.2.2.1 (amT am _ wRX5_131) dX5_reference_34 ?_
        refine lv_ldc2d hx hb am.2.2.2.1 (amT am _ wRX5_83) dX5_reference_37 ?_
        refine c_i hst (r_S (As := [.double x, .double 13875379345695965184, .double 4652007308841189376]) (rest := []) am hst hl (k_X5_between hadI hxX cn_k13875379345695965184 cn_k4652007308841189376) kRX5_85 smX5_between ⟨Nat.le_of_ble_eq_true rfl, Nat.le_of_ble_eq_true rfl⟩ rfl rfl (Nat.le_of_ble_eq_true rfl) dX5_reference_40 ⟨Nat.le_of_ble_eq_true rfl, Nat.le_of_ble_eq_true rfl⟩) (fun H locs hst => ?_)
        refine lv_if_eq (tgt := 50) hx hb dX5_reference_43 (by decide) (fun c_43 => ?_) (fun c_43 => absurd ((zB_0.mpr (((hv.resolve_left c_1).resolve_left c_8).resolve_left (fun h => h.1 ((nI_eq (b := 0) (by omega) (by omega)).mp c_15))))) c_43)
        refine lv_iconst (v := 0) hx hb dX5_reference_50 (by decide) ?_
        refine lv_istore (lv' := [(4, .int 0), (0, .ref (ad 53)), (1, .int v), (2, .double x)]) hx hb dX5_reference_51 hl (by decide) rfl (fun ls hl => ?_)
        refine lv_aload_n hx hb dX5_reference_53 rfl (lv_at hl 1 rfl) ?_
        refine lv_iload hx hb dX5_reference_54 (lv_at hl 0 rfl) ?_
        refine lv_if_ne (tgt := 63) hx hb dX5_reference_56 (by decide) (fun c_56 => absurd ((show (0 : Int32) = 0 by decide)) c_56) (fun c_56 => ?_)
        refine lv_iconst (v := 1) hx hb dX5_reference_59 (by decide) ?_
        refine lv_goto (tgt := 77) hx hb dX5_reference_60 (by decide) ?_
        refine w_putI am hst (k := 0) (by decide) (fun _ _ _ => cE_M) rfl inT5 tyX5 tyX5_ok nmX5 (by decide) fRX5_73 (fun _ _ _ => rfl) (fun _ _ _ => Nat.le_of_ble_eq_true rfl) rfl rfl rfl rfl dX5_reference_77 (fun H locs hst => ?_)
        refine lv_aload_n hx hb dX5_reference_80 rfl (lv_at hl 1 rfl) ?_
        refine w_getI am hst (k := 0) (by decide) (fun _ _ _ => cE_M) rfl inT5 (by decide) (fun _ _ _ => rfl) fRX5_73 dX5_reference_81 ?_
        rw [show (u2 I 53 0 1) 53 0 = 1 from (u2_eq _ _ _ _)]
        refine lv_if_le (tgt := 89) hx hb dX5_reference_84 (by decide) (fun c_84 => absurd c_84 ((show ¬ (1 : Int32) ≤ 0 by decide))) (fun c_84 => ?_)
        refine lv_iconst (v := 0) hx hb dX5_reference_87 (by decide) ?_
        exact e_i hx hb hr hlk hst rfl rfl dX5_reference_88
      · skip
        refine lv_iload_n hx hb dX5_reference_18 rfl (lv_at hl 1 rfl) ?_
        refine lv_aload_n hx hb dX5_reference_19 rfl (lv_at hl 0 rfl) ?_
        refine w_getR am hst (k := 22) (b := ad 68) (by decide) (fun _ _ _ => cE_M) rfl inT5 (by decide) (fun _ _ _ => rfl) fRX5_63 dX5_reference_20 ?_
        refine lv_aload_n hx hb dX5_reference_23 rfl (lv_at hl 0 rfl) ?_
        refine w_getI am hst (k := 21) (by decide) (fun _ _ _ => cE_M) rfl inT5 (by decide) (fun _ _ _ => rfl) fRX5_128 dX5_reference_24 ?_
        rw [hn]
        refine lv_iconst (v := 1) hx hb dX5_reference_27 (by decide) ?_
        refine lv_isub hx hb dX5_reference_28 ?_
        have hc1 : 1 ≤ n := Nat.pos_of_ne_zero (fun h => c_15 (by rw [h]; rfl))
        rw [show nI n - 1 = nI (n - 1) from pk_sub (b := 1) (by omega)]
        refine w_iald am hst (by decide) (fun _ _ _ => cE_68) (n := n - 1) (nI_clamp (by omega)) (vp_in_nI (by omega) (by decide)) dX5_reference_29 ?_
        refine lv_icmp_le (tgt := 50) hx hb dX5_reference_30 (by decide) (fun c_30 => ?_) (fun c_30 => ?_)
        · skip
          refine lv_iconst (v := 0) hx hb dX5_reference_50 (by decide) ?_
          refine lv_istore (lv' := [(4, .int 0), (0, .ref (ad 53)), (1, .int v), (2, .double x)]) hx hb dX5_reference_51 hl (by decide) rfl (fun ls hl => ?_)
          refine lv_aload_n hx hb dX5_reference_53 rfl (lv_at hl 1 rfl) ?_
          refine lv_iload hx hb dX5_reference_54 (lv_at hl 0 rfl) ?_
          refine lv_if_ne (tgt := 63) hx hb dX5_reference_56 (by decide) (fun c_56 => absurd ((show (0 : Int32) = 0 by decide)) c_56) (fun c_56 => ?_)
          refine lv_iconst (v := 1) hx hb dX5_reference_59 (by decide) ?_
          refine lv_goto (tgt := 77) hx hb dX5_reference_60 (by decide) ?_
          refine w_putI am hst (k := 0) (by decide) (fun _ _ _ => cE_M) rfl inT5 tyX5 tyX5_ok nmX5 (by decide) fRX5_73 (fun _ _ _ => rfl) (fun _ _ _ => Nat.le_of_ble_eq_true rfl) rfl rfl rfl rfl dX5_reference_77 (fun H locs hst => ?_)
          refine lv_aload_n hx hb dX5_reference_80 rfl (lv_at hl 1 rfl) ?_
          refine w_getI am hst (k := 0) (by decide) (fun _ _ _ => cE_M) rfl inT5 (by decide) (fun _ _ _ => rfl) fRX5_73 dX5_reference_81 ?_
          rw [show (u2 I 53 0 1) 53 0 = 1 from (u2_eq _ _ _ _)]
          refine lv_if_le (tgt := 89) hx hb dX5_reference_84 (by decide) (fun c_84 => absurd c_84 ((show ¬ (1 : Int32) ≤ 0 by decide))) (fun c_84 => ?_)
          refine lv_iconst (v := 0) hx hb dX5_reference_87 (by decide) ?_
          exact e_i hx hb hr hlk hst rfl rfl dX5_reference_88
        · skip
          refine lv_dload_n hx hb dX5_reference_33 rfl (lv_at hl 2 rfl) ?_
          refine lv_ldc2d hx hb am.2.2.2.1 (amT am _ wRX5_131) dX5_reference_34 ?_
          refine lv_ldc2d hx hb am.2.2.2.1 (amT am _ wRX5_83) dX5_reference_37 ?_
          refine c_i hst (r_S (As := [.double x, .double 13875379345695965184, .double 4652007308841189376]) (rest := []) am hst hl (k_X5_between hadI hxX cn_k13875379345695965184 cn_k4652007308841189376) kRX5_85 smX5_between ⟨Nat.le_of_ble_eq_true rfl, Nat.le_of_ble_eq_true rfl⟩ rfl rfl (Nat.le_of_ble_eq_true rfl) dX5_reference_40 ⟨Nat.le_of_ble_eq_true rfl, Nat.le_of_ble_eq_true rfl⟩) (fun H locs hst => ?_)
          refine lv_if_eq (tgt := 50) hx hb dX5_reference_43 (by decide) (fun c_43 => ?_) (fun c_43 => absurd ((zB_0.mpr (((hv.resolve_left c_1).resolve_left c_8).resolve_left (fun h => c_30 h.2)))) c_43)
          refine lv_iconst (v := 0) hx hb dX5_reference_50 (by decide) ?_
          refine lv_istore (lv' := [(4, .int 0), (0, .ref (ad 53)), (1, .int v), (2, .double x)]) hx hb dX5_reference_51 hl (by decide) rfl (fun ls hl => ?_)
          refine lv_aload_n hx hb dX5_reference_53 rfl (lv_at hl 1 rfl) ?_
          refine lv_iload hx hb dX5_reference_54 (lv_at hl 0 rfl) ?_
          refine lv_if_ne (tgt := 63) hx hb dX5_reference_56 (by decide) (fun c_56 => absurd ((show (0 : Int32) = 0 by decide)) c_56) (fun c_56 => ?_)
          refine lv_iconst (v := 1) hx hb dX5_reference_59 (by decide) ?_
          refine lv_goto (tgt := 77) hx hb dX5_reference_60 (by decide) ?_
          refine w_putI am hst (k := 0) (by decide) (fun _ _ _ => cE_M) rfl inT5 tyX5 tyX5_ok nmX5 (by decide) fRX5_73 (fun _ _ _ => rfl) (fun _ _ _ => Nat.le_of_ble_eq_true rfl) rfl rfl rfl rfl dX5_reference_77 (fun H locs hst => ?_)
          refine lv_aload_n hx hb dX5_reference_80 rfl (lv_at hl 1 rfl) ?_
          refine w_getI am hst (k := 0) (by decide) (fun _ _ _ => cE_M) rfl inT5 (by decide) (fun _ _ _ => rfl) fRX5_73 dX5_reference_81 ?_
          rw [show (u2 I 53 0 1) 53 0 = 1 from (u2_eq _ _ _ _)]
          refine lv_if_le (tgt := 89) hx hb dX5_reference_84 (by decide) (fun c_84 => absurd c_84 ((show ¬ (1 : Int32) ≤ 0 by decide))) (fun c_84 => ?_)
          refine lv_iconst (v := 0) hx hb dX5_reference_87 (by decide) ?_
          exact e_i hx hb hr hlk hst rfl rfl dX5_reference_88

set_option maxHeartbeats 4000000 in
set_option maxRecDepth 100000 in
theorem x2_X5_reference {l : Launch} {D : va_G} {cy ad : Nat → Nat} {I : Im} {G : Dm} {J : Jm} (hadI : adI ad) (hn : I 53 21 = nI 16) {v : Int32} {x X : UInt64} (hxX : cn x = X) (h1 : bDay v = true) (h2 : ¬ v ≤ I 68 15) (h3 : mBt X 13875379345695965184 4652007308841189376 = true) : kM l yX5_reference (.code yX5_reference cX5_reference 5 (some .int)) (rmK 1 0 0 25) D cy ad [.ref (ad 53), .int v, .double x] I G J (qI D cy ad 0 (u2 I 53 0 2) G J) := by
  refine start_M hadI (by decide +kernel) (Nat.le_of_ble_eq_true rfl) ?_
  intro p e s m below meth cd am hx hb hr hlk hst ls hl
  have hl : lv_has ls 5 [(0, .ref (ad 53)), (1, .int v), (2, .double x)] := hl
  refine lv_iload_n hx hb dX5_reference_0 rfl (lv_at hl 1 rfl) ?_
  refine lv_if_lt (tgt := 50) hx hb dX5_reference_1 (by decide) (fun c_1 => absurd c_1 ((by unfold bDay at h1; rw [Bool.and_eq_true] at h1; exact of_decide_eq_true h1.1))) (fun c_1 => ?_)
  refine lv_iload_n hx hb dX5_reference_4 rfl (lv_at hl 1 rfl) ?_
  refine lv_sipush (v := 10000) hx hb dX5_reference_5 (by decide) ?_
  refine lv_icmp_gt (tgt := 50) hx hb dX5_reference_8 (by decide) (fun c_8 => absurd c_8 ((by unfold bDay at h1; rw [Bool.and_eq_true] at h1; exact of_decide_eq_true h1.2))) (fun c_8 => ?_)
  refine lv_aload_n hx hb dX5_reference_11 rfl (lv_at hl 0 rfl) ?_
  refine w_getI am hst (k := 21) (by decide) (fun _ _ _ => cE_M) rfl inT5 (by decide) (fun _ _ _ => rfl) fRX5_128 dX5_reference_12 ?_
  rw [hn]
  refine lv_if_eq (tgt := 33) hx hb dX5_reference_15 (by decide) (fun c_15 => absurd c_15 ((show ¬ nI 16 = 0 by decide))) (fun c_15 => ?_)
  refine lv_iload_n hx hb dX5_reference_18 rfl (lv_at hl 1 rfl) ?_
  refine lv_aload_n hx hb dX5_reference_19 rfl (lv_at hl 0 rfl) ?_
  refine w_getR am hst (k := 22) (b := ad 68) (by decide) (fun _ _ _ => cE_M) rfl inT5 (by decide) (fun _ _ _ => rfl) fRX5_63 dX5_reference_20 ?_
  refine lv_aload_n hx hb dX5_reference_23 rfl (lv_at hl 0 rfl) ?_
  refine w_getI am hst (k := 21) (by decide) (fun _ _ _ => cE_M) rfl inT5 (by decide) (fun _ _ _ => rfl) fRX5_128 dX5_reference_24 ?_
  rw [hn]
  refine lv_iconst (v := 1) hx hb dX5_reference_27 (by decide) ?_
  refine lv_isub hx hb dX5_reference_28 ?_
  rw [show nI 16 - 1 = nI 15 from rfl]
  refine w_iald am hst (by decide) (fun _ _ _ => cE_68) (n := 15) (nI_clamp (by omega)) (vp_in_nI (by omega) (by decide)) dX5_reference_29 ?_
  refine lv_icmp_le (tgt := 50) hx hb dX5_reference_30 (by decide) (fun c_30 => absurd c_30 h2) (fun c_30 => ?_)
  refine lv_dload_n hx hb dX5_reference_33 rfl (lv_at hl 2 rfl) ?_
  refine lv_ldc2d hx hb am.2.2.2.1 (amT am _ wRX5_131) dX5_reference_34 ?_
  refine lv_ldc2d hx hb am.2.2.2.1 (amT am _ wRX5_83) dX5_reference_37 ?_
  refine c_i hst (r_S (As := [.double x, .double 13875379345695965184, .double 4652007308841189376]) (rest := []) am hst hl (k_X5_between hadI hxX cn_k13875379345695965184 cn_k4652007308841189376) kRX5_85 smX5_between ⟨Nat.le_of_ble_eq_true rfl, Nat.le_of_ble_eq_true rfl⟩ rfl rfl (Nat.le_of_ble_eq_true rfl) dX5_reference_40 ⟨Nat.le_of_ble_eq_true rfl, Nat.le_of_ble_eq_true rfl⟩) (fun H locs hst => ?_)
  refine lv_if_eq (tgt := 50) hx hb dX5_reference_43 (by decide) (fun c_43 => absurd c_43 (zB_n0.mpr h3)) (fun c_43 => ?_)
  refine lv_iconst (v := 1) hx hb dX5_reference_46 (by decide) ?_
  refine lv_goto (tgt := 51) hx hb dX5_reference_47 (by decide) ?_
  refine lv_istore (lv' := [(4, .int 1), (0, .ref (ad 53)), (1, .int v), (2, .double x)]) hx hb dX5_reference_51 hl (by decide) rfl (fun ls hl => ?_)
  refine lv_aload_n hx hb dX5_reference_53 rfl (lv_at hl 1 rfl) ?_
  refine lv_iload hx hb dX5_reference_54 (lv_at hl 0 rfl) ?_
  refine lv_if_ne (tgt := 63) hx hb dX5_reference_56 (by decide) (fun c_56 => ?_) (fun c_56 => absurd c_56 ((show ¬ (1 : Int32) = 0 by decide)))
  refine lv_aload_n hx hb dX5_reference_63 rfl (lv_at hl 1 rfl) ?_
  refine w_getI am hst (k := 21) (by decide) (fun _ _ _ => cE_M) rfl inT5 (by decide) (fun _ _ _ => rfl) fRX5_128 dX5_reference_64 ?_
  rw [hn]
  refine lv_bipush (v := 16) hx hb dX5_reference_67 (by decide) ?_
  refine lv_icmp_ne (tgt := 76) hx hb dX5_reference_69 (by decide) (fun c_69 => absurd rfl c_69) (fun c_69 => ?_)
  refine lv_iconst (v := 2) hx hb dX5_reference_72 (by decide) ?_
  refine lv_goto (tgt := 77) hx hb dX5_reference_73 (by decide) ?_
  refine w_putI am hst (k := 0) (by decide) (fun _ _ _ => cE_M) rfl inT5 tyX5 tyX5_ok nmX5 (by decide) fRX5_73 (fun _ _ _ => rfl) (fun _ _ _ => Nat.le_of_ble_eq_true rfl) rfl rfl rfl rfl dX5_reference_77 (fun H locs hst => ?_)
  refine lv_aload_n hx hb dX5_reference_80 rfl (lv_at hl 1 rfl) ?_
  refine w_getI am hst (k := 0) (by decide) (fun _ _ _ => cE_M) rfl inT5 (by decide) (fun _ _ _ => rfl) fRX5_73 dX5_reference_81 ?_
  rw [show (u2 I 53 0 2) 53 0 = 2 from (u2_eq _ _ _ _)]
  refine lv_if_le (tgt := 89) hx hb dX5_reference_84 (by decide) (fun c_84 => absurd c_84 ((show ¬ (2 : Int32) ≤ 0 by decide))) (fun c_84 => ?_)
  refine lv_iconst (v := 0) hx hb dX5_reference_87 (by decide) ?_
  exact e_i hx hb hr hlk hst rfl rfl dX5_reference_88

set_option maxHeartbeats 4000000 in
set_option maxRecDepth 100000 in
theorem k_X5_drawn {l : Launch} {D : va_G} {cy ad : Nat → Nat} {I : Im} {G : Dm} {J : Jm} (hadI : adI ad) {v : Int32} (hv : ¬ v < 0) : kD l yX5_drawn (.code yX5_drawn cX5_drawn 4 (some .double)) (rmK 0 0 0 0) D cy ad [.ref (ad 53), .int v] I G J (qD D cy ad (dwD (J 53 1) v.toInt64) (u2 I 53 0 0) G J) := by
  refine start_D hadI (by decide +kernel) (Nat.le_of_ble_eq_true rfl) ?_
  intro p e s m below meth cd am hx hb hr hlk hst ls hl d0 hd
  have hl : lv_has ls 4 [(0, .ref (ad 53)), (1, .int v)] := hl
  refine lv_aload_n hx hb dX5_drawn_0 rfl (lv_at hl 0 rfl) ?_
  refine lv_iload_n hx hb dX5_drawn_1 rfl (lv_at hl 1 rfl) ?_
  refine lv_if_ge (tgt := 9) hx hb dX5_drawn_2 (by decide) (fun c_2 => ?_) (fun c_2 => absurd ((Int32.not_lt.mp hv)) c_2)
  refine lv_iconst (v := 0) hx hb dX5_drawn_9 (by decide) ?_
  refine w_putI am hst (k := 0) (by decide) (fun _ _ _ => cE_M) rfl inT5 tyX5 tyX5_ok nmX5 (by decide) fRX5_73 (fun _ _ _ => rfl) (fun _ _ _ => Nat.le_of_ble_eq_true rfl) rfl rfl rfl rfl dX5_drawn_10 (fun H locs hst => ?_)
  refine lv_aload_n hx hb dX5_drawn_13 rfl (lv_at hl 0 rfl) ?_
  refine w_getI am hst (k := 0) (by decide) (fun _ _ _ => cE_M) rfl inT5 (by decide) (fun _ _ _ => rfl) fRX5_73 dX5_drawn_14 ?_
  rw [show (u2 I 53 0 0) 53 0 = 0 from (u2_eq _ _ _ _)]
  refine lv_if_le (tgt := 22) hx hb dX5_drawn_17 (by decide) (fun c_17 => ?_) (fun c_17 => absurd ((show (0 : Int32) ≤ 0 by decide)) c_17)
  refine lv_aload_n hx hb dX5_drawn_22 rfl (lv_at hl 0 rfl) ?_
  refine w_getJ am hst (k := 1) (by decide) (fun _ _ _ => cE_M) rfl inT5 (by decide) (fun _ _ _ => rfl) fRX5_69 dX5_drawn_23 ?_
  refine lv_iload_n hx hb dX5_drawn_26 rfl (lv_at hl 1 rfl) ?_
  refine lv_i2l hx hb dX5_drawn_27 rfl ?_
  refine lv_lconst (v := 1) hx hb dX5_drawn_28 (by decide) ?_
  refine lv_ladd hx hb dX5_drawn_29 ?_
  refine lv_ldc2 hx hb am.2.2.2.1 (amT am _ wRX5_133) dX5_drawn_30 ?_
  refine lv_lmul hx hb dX5_drawn_33 ?_
  refine lv_ladd hx hb dX5_drawn_34 ?_
  refine lv_lstore_n (lv' := [(2, .long (dw1 (J 53 1) v.toInt64)), (0, .ref (ad 53)), (1, .int v)]) hx hb dX5_drawn_35 rfl hl (by decide) rfl (fun ls hl => ?_)
  refine lv_lload_n hx hb dX5_drawn_36 rfl (lv_at hl 0 rfl) ?_
  refine lv_lload_n hx hb dX5_drawn_37 rfl (lv_at hl 0 rfl) ?_
  refine lv_bipush (v := 30) hx hb dX5_drawn_38 (by decide) ?_
  refine lv_lushr hx hb dX5_drawn_40 rfl ?_
  refine lv_lxor hx hb dX5_drawn_41 ?_
  refine lv_ldc2 hx hb am.2.2.2.1 (amT am _ wRX5_135) dX5_drawn_42 ?_
  refine lv_lmul hx hb dX5_drawn_45 ?_
  refine lv_lstore_n (lv' := [(2, .long (dw2 (dw1 (J 53 1) v.toInt64))), (0, .ref (ad 53)), (1, .int v)]) hx hb dX5_drawn_46 rfl hl (by decide) rfl (fun ls hl => ?_)
  refine lv_lload_n hx hb dX5_drawn_47 rfl (lv_at hl 0 rfl) ?_
  refine lv_lload_n hx hb dX5_drawn_48 rfl (lv_at hl 0 rfl) ?_
  refine lv_bipush (v := 27) hx hb dX5_drawn_49 (by decide) ?_
  refine lv_lushr hx hb dX5_drawn_51 rfl ?_
  refine lv_lxor hx hb dX5_drawn_52 ?_
  refine lv_ldc2 hx hb am.2.2.2.1 (amT am _ wRX5_137) dX5_drawn_53 ?_
  refine lv_lmul hx hb dX5_drawn_56 ?_
  refine lv_lstore_n (lv' := [(2, .long (dw3 (dw2 (dw1 (J 53 1) v.toInt64)))), (0, .ref (ad 53)), (1, .int v)]) hx hb dX5_drawn_57 rfl hl (by decide) rfl (fun ls hl => ?_)
  refine lv_lload_n hx hb dX5_drawn_58 rfl (lv_at hl 0 rfl) ?_
  refine lv_lload_n hx hb dX5_drawn_59 rfl (lv_at hl 0 rfl) ?_
  refine lv_bipush (v := 31) hx hb dX5_drawn_60 (by decide) ?_
  refine lv_lushr hx hb dX5_drawn_62 rfl ?_
  refine lv_lxor hx hb dX5_drawn_63 ?_
  refine lv_lstore_n (lv' := [(2, .long (dw4 (dw3 (dw2 (dw1 (J 53 1) v.toInt64))))), (0, .ref (ad 53)), (1, .int v)]) hx hb dX5_drawn_64 rfl hl (by decide) rfl (fun ls hl => ?_)
  refine lv_lload_n hx hb dX5_drawn_65 rfl (lv_at hl 0 rfl) ?_
  refine lv_bipush (v := 44) hx hb dX5_drawn_66 (by decide) ?_
  refine lv_lushr hx hb dX5_drawn_68 rfl ?_
  refine w_l2d hx hb dX5_drawn_69 (fun x6 hx6 => ?_)
  refine lv_ldc2d hx hb am.2.2.2.1 (amT am _ wRX5_139) dX5_drawn_70 ?_
  refine w_ddiv hd hx hb hx6 cn_k4674736413210574848 dX5_drawn_73 (fun x7 d0 hx7 hd => ?_)
  exact e_dD hd hx hb hr hlk hst hx7 dX5_drawn_74

set_option maxHeartbeats 4000000 in
set_option maxRecDepth 100000 in
theorem x_X5_drawn {l : Launch} {D : va_G} {cy ad : Nat → Nat} {I : Im} {G : Dm} {J : Jm} (hadI : adI ad) {v : Int32} (hv : v < 0) : kM l yX5_drawn (.code yX5_drawn cX5_drawn 4 (some .double)) (rmK 0 0 0 0) D cy ad [.ref (ad 53), .int v] I G J (qD D cy ad 0 (u2 I 53 0 1) G J) := by
  refine start_M hadI (by decide +kernel) (Nat.le_of_ble_eq_true rfl) ?_
  intro p e s m below meth cd am hx hb hr hlk hst ls hl
  have hl : lv_has ls 4 [(0, .ref (ad 53)), (1, .int v)] := hl
  refine lv_aload_n hx hb dX5_drawn_0 rfl (lv_at hl 0 rfl) ?_
  refine lv_iload_n hx hb dX5_drawn_1 rfl (lv_at hl 1 rfl) ?_
  refine lv_if_ge (tgt := 9) hx hb dX5_drawn_2 (by decide) (fun c_2 => absurd c_2 ((fun h => absurd hv (Int32.not_lt.mpr h)))) (fun c_2 => ?_)
  refine lv_iconst (v := 1) hx hb dX5_drawn_5 (by decide) ?_
  refine lv_goto (tgt := 10) hx hb dX5_drawn_6 (by decide) ?_
  refine w_putI am hst (k := 0) (by decide) (fun _ _ _ => cE_M) rfl inT5 tyX5 tyX5_ok nmX5 (by decide) fRX5_73 (fun _ _ _ => rfl) (fun _ _ _ => Nat.le_of_ble_eq_true rfl) rfl rfl rfl rfl dX5_drawn_10 (fun H locs hst => ?_)
  refine lv_aload_n hx hb dX5_drawn_13 rfl (lv_at hl 0 rfl) ?_
  refine w_getI am hst (k := 0) (by decide) (fun _ _ _ => cE_M) rfl inT5 (by decide) (fun _ _ _ => rfl) fRX5_73 dX5_drawn_14 ?_
  rw [show (u2 I 53 0 1) 53 0 = 1 from (u2_eq _ _ _ _)]
  refine lv_if_le (tgt := 22) hx hb dX5_drawn_17 (by decide) (fun c_17 => absurd c_17 ((show ¬ (1 : Int32) ≤ 0 by decide))) (fun c_17 => ?_)
  refine lv_dconst0 hx hb dX5_drawn_20 ?_
  exact e_d hx hb hr hlk hst cn_k0 dX5_drawn_21

