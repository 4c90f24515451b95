/-! the reference: drift, setting, odds -/
def meP (I : Im) (G : Dm) (X : UInt64) (i : Nat) : Bool := decide (¬ I 59 i = 0) && (mCompl I G i && decide (¬ Op.cmpValue (FP.dcmp (mTold I G i (G 64 0) (G 64 1) (G 64 2)) X) CmpOp.l < 0))
def meQ (G : Dm) (L : UInt64) (i : Nat) : Bool := decide (¬ 0 ≤ Op.cmpValue (FP.dcmp (G 58 i) L) CmpOp.g)
def meC (I : Im) (G : Dm) (X : UInt64) : Nat → Nat | 0 => 0 | i + 1 => if meP I G X i = true then meC I G X i + 1 else meC I G X i
def meW (I : Im) (G : Dm) (X L : UInt64) : Nat → Nat | 0 => 0 | i + 1 => if (meP I G X i && meQ G L i) = true then meW I G X L i + 1 else meW I G X L i
def meOK (I : Im) (G : Dm) (X L : UInt64) (a b : Int32) (n : Nat) : Bool := decide (¬ a * nI (meC I G X n) < nI (meW I G X L n) * b)
def msF (I : Im) (G : Dm) (L : UInt64) (a b : Int32) (N : Nat) : Nat → Nat → Int32 | 0, _ => -1 | n + 1, i => if meOK I G (Dv (FP.i2d (nI i)) 4616189618054758400) L a b N = true then nI i else msF I G L a b N n (i + 1)
def gT : Nat → Int64 → Int64 → Prop | 0, _, _ => False | n + 1, a, b => b = 0 ∨ gT n b (a - a / b * b)
def oddM (N u : Nat) (a b pt : Int32) : Int64 := (if pt = 0 then oddF N u a b else oddA N b) / gE 1000 (oddF N u a b) (oddA N b)
theorem bSh {a b mb : Int32} (h : bShare a b mb = true) : ¬ b < 1 ∧ ¬ mb < b ∧ ¬ a < 0 ∧ ¬ b < a := by
  unfold bShare at h; rw [Bool.and_eq_true, Bool.and_eq_true, Bool.and_eq_true] at h
  exact ⟨of_decide_eq_true h.1, of_decide_eq_true h.2.1, of_decide_eq_true h.2.2.1, of_decide_eq_true h.2.2.2⟩
theorem bShN {a b mb : Int32} (h : bShare a b mb = false) : b < 1 ∨ mb < b ∨ a < 0 ∨ b < a := by
  rcases Decidable.em (b < 1) with q | q
  · exact Or.inl q
  rcases Decidable.em (mb < b) with q2 | q2
  · exact Or.inr (Or.inl q2)
  rcases Decidable.em (a < 0) with q3 | q3
  · exact Or.inr (Or.inr (Or.inl q3))
  rcases Decidable.em (b < a) with q4 | q4
  · exact Or.inr (Or.inr (Or.inr q4))
  simp only [bShare, q, q2, q3, q4, not_true_eq_false, not_false_eq_true, decide_true, decide_false, Bool.true_and, Bool.false_and, Bool.and_true, Bool.and_false, Bool.and_self, if_true, if_false, ite_true, ite_false, reduceIte, Bool.false_eq_true] at h
  cases h
set_option maxHeartbeats 4000000 in
set_option maxRecDepth 100000 in
theorem k_X5_drift {l : Launch} {D : va_G} {cy ad : Nat → Nat} {I : Im} {G : Dm} {J : Jm} (hadI : adI ad) {c : Nat} (hc : I 53 21 = nI c) (hc2 : c ≤ 16) {v : Int32} (h1 : bDay v = true) (hc0 : ¬ c = 0) : kD l yX5_drift (.code yX5_drift cX5_drift 3 (some .double)) (rmK 0 0 0 0) D cy ad [.ref (ad 53), .int v] I G J (qD D cy ad (mdV I G v c) (u2 I 53 0 0) G J) := by
  refine start_D hadI (by decide +kernel) (Nat.le_of_ble_eq_true rfl) ?_
  intro p e s m below meth cd am hx hb hr hlk hst ls hl d0 hd
  have hl : lv_has ls 3 [(0, .ref (ad 53)), (1, .int v)] := hl
  refine lv_aload_n hx hb dX5_drift_0 rfl (lv_at hl 0 rfl) ?_
  refine lv_iload_n hx hb dX5_drift_1 rfl (lv_at hl 1 rfl) ?_
  refine lv_if_lt (tgt := 16) hx hb dX5_drift_2 (by decide) (fun c_2 => absurd c_2 ((by unfold bDay at h1; rw [Bool.and_eq_true] at h1; exact of_decide_eq_true h1.1))) (fun c_2 => ?_)
  refine lv_iload_n hx hb dX5_drift_5 rfl (lv_at hl 1 rfl) ?_
  refine lv_sipush (v := 10000) hx hb dX5_drift_6 (by decide) ?_
  refine lv_icmp_gt (tgt := 16) hx hb dX5_drift_9 (by decide) (fun c_9 => absurd c_9 ((by unfold bDay at h1; rw [Bool.and_eq_true] at h1; exact of_decide_eq_true h1.2))) (fun c_9 => ?_)
  refine lv_iconst (v := 0) hx hb dX5_drift_12 (by decide) ?_
  refine lv_goto (tgt := 17) hx hb dX5_drift_13 (by decide) ?_
  refine w_putI am hst (k := 0) (by decide) (fun _ _ _ => cE_M) rfl inT5 tyX5 tyX5_ok nmX5 (by decide) fRX5_73 (fun _ _ _ => rfl) (fun _ _ _ => Nat.le_of_ble_eq_true rfl) rfl rfl rfl rfl dX5_drift_17 (fun H locs hst => ?_)
  refine lv_aload_n hx hb dX5_drift_20 rfl (lv_at hl 0 rfl) ?_
  refine w_getI am hst (k := 0) (by decide) (fun _ _ _ => cE_M) rfl inT5 (by decide) (fun _ _ _ => rfl) fRX5_73 dX5_drift_21 ?_
  rw [show (u2 I 53 0 0) 53 0 = 0 from (u2_eq _ _ _ _)]
  refine lv_if_gt (tgt := 34) hx hb dX5_drift_24 (by decide) (fun c_24 => absurd c_24 ((show ¬ (0 : Int32) < 0 by decide))) (fun c_24 => ?_)
  refine lv_aload_n hx hb dX5_drift_27 rfl (lv_at hl 0 rfl) ?_
  refine w_getI am hst (k := 21) (by decide) (fun _ _ _ => cE_M) rfl inT5 (by decide) (fun _ _ _ => rfl) fRX5_128 dX5_drift_28 ?_
  rw [show (u2 I 53 0 0) 53 21 = I 53 21 from (u2_ne (by omega))]
  rw [hc]
  refine lv_if_ne (tgt := 36) hx hb dX5_drift_31 (by decide) (fun c_31 => ?_) (fun c_31 => absurd c_31 ((fun h => hc0 ((nI_eq (b := 0) (by omega) (by omega)).mp h))))
  refine lv_iload_n hx hb dX5_drift_36 rfl (lv_at hl 1 rfl) ?_
  refine lv_aload_n hx hb dX5_drift_37 rfl (lv_at hl 0 rfl) ?_
  refine w_getR am hst (k := 22) (b := ad 68) (by decide) (fun _ _ _ => cE_M) rfl inT5 (by decide) (fun _ _ _ => rfl) fRX5_63 dX5_drift_38 ?_
  refine lv_iconst (v := 0) hx hb dX5_drift_41 (by decide) ?_
  refine w_iald am hst (by decide) (fun _ _ _ => cE_68) (n := 0) rfl (vinL (by decide)) dX5_drift_42 ?_
  rw [show (u2 I 53 0 0) 68 0 = I 68 0 from (u2_ne (by omega))]
  refine lv_icmp_gt (tgt := 53) hx hb dX5_drift_43 (by decide) (fun c_43 => ?_) (fun c_43 => ?_)
  · skip
    refine lv_iconst (v := 0) hx hb dX5_drift_53 (by decide) ?_
    refine lv_istore_n (lv' := [(2, .int 0), (0, .ref (ad 53)), (1, .int v)]) hx hb dX5_drift_54 rfl hl (by decide) rfl (fun ls hl => ?_)
    have lp0 : ∀ (q9 k : Nat), q9 + k = c - 1 → mdF I v c q9 k = mdF I v c (c - 1) 0 → ∀ d0 : Drawn, s.drawn.sameBut d0 lw_cs → ∀ (H : Heap) (locs : List Loc), St D cy ad s.heap (u2 I 53 0 0) G J H locs → ∀ ls, lv_has ls 3 [(0, .ref (ad 53)), (1, .int v), (2, .int (nI k))] → W p l e (rmK 0 0 0 0) (s.setDrawn d0) m [.ref (ad 53), .int v].toArray below meth cd H locs 0 0 (MQD lw_cs below (qD D cy ad (mdV I G v c) (u2 I 53 0 0) G J s.heap.size) [.ref (ad 53), .int v].toArray s ((rmK 0 0 0 0)).cells ((rmK 0 0 0 0)).slots (aA ad s.heap.size)) (F0 m 55 ls []) := by
      intro q9
      induction q9 with
      | zero =>
        intro k hi hR d0 hd H locs hst ls hl
        obtain rfl : c - 1 = k := by omega
        refine lv_iload_n hx hb dX5_drift_55 rfl (lv_at hl 2 rfl) ?_
        refine lv_iconst (v := 1) hx hb dX5_drift_56 (by decide) ?_
        refine lv_iadd hx hb dX5_drift_57 ?_
        rw [nI_1]
        refine lv_aload_n hx hb dX5_drift_58 rfl (lv_at hl 0 rfl) ?_
        refine w_getI am hst (k := 21) (by decide) (fun _ _ _ => cE_M) rfl inT5 (by decide) (fun _ _ _ => rfl) fRX5_128 dX5_drift_59 ?_
        rw [show (u2 I 53 0 0) 53 21 = I 53 21 from (u2_ne (by omega))]
        rw [hc]
        refine lv_icmp_ge (tgt := 83) hx hb dX5_drift_62 (by decide) (fun c_62 => ?_) (fun c_62 => absurd ((nI_le (by omega) (by omega))) c_62)
        refine lv_iload_n hx hb dX5_drift_83 rfl (lv_at hl 2 rfl) ?_
        refine lv_iconst (v := 1) hx hb dX5_drift_84 (by decide) ?_
        refine lv_iadd hx hb dX5_drift_85 ?_
        rw [nI_1]
        refine lv_aload_n hx hb dX5_drift_86 rfl (lv_at hl 0 rfl) ?_
        refine w_getI am hst (k := 21) (by decide) (fun _ _ _ => cE_M) rfl inT5 (by decide) (fun _ _ _ => rfl) fRX5_128 dX5_drift_87 ?_
        rw [show (u2 I 53 0 0) 53 21 = I 53 21 from (u2_ne (by omega))]
        rw [hc]
        refine lv_icmp_ne (tgt := 100) hx hb dX5_drift_90 (by decide) (fun c_90 => absurd ((congrArg nI (show c - 1 + 1 = c by omega))) c_90) (fun c_90 => ?_)
        refine lv_aload_n hx hb dX5_drift_93 rfl (lv_at hl 0 rfl) ?_
        refine w_getR am hst (k := 23) (b := ad 69) (by decide) (fun _ _ _ => cE_M) rfl inT5 (by decide) (fun _ _ _ => rfl) fRX5_66 dX5_drift_94 ?_
        refine lv_iload_n hx hb dX5_drift_97 rfl (lv_at hl 2 rfl) ?_
        refine w_dald am hst (by decide) (fun _ _ _ => cE_69) (n := c - 1) (nI_clamp (by omega)) (vp_in_nI (by omega) (by decide)) dX5_drift_98 (fun x1 hx1 => ?_)
        exact e_dD hd hx hb hr hlk hst (by rw [hx1, mdV, if_neg hc0, if_neg (fun h => absurd c_43 (Int32.not_lt.mpr h)), ← hR]; exact (if_pos (show c - 1 + 1 = c by omega)).symm) dX5_drift_99
      | succ q9 ih_lp0 =>
        intro k hi hR d0 hd H locs hst ls hl
        refine lv_iload_n hx hb dX5_drift_55 rfl (lv_at hl 2 rfl) ?_
        refine lv_iconst (v := 1) hx hb dX5_drift_56 (by decide) ?_
        refine lv_iadd hx hb dX5_drift_57 ?_
        rw [nI_1]
        refine lv_aload_n hx hb dX5_drift_58 rfl (lv_at hl 0 rfl) ?_
        refine w_getI am hst (k := 21) (by decide) (fun _ _ _ => cE_M) rfl inT5 (by decide) (fun _ _ _ => rfl) fRX5_128 dX5_drift_59 ?_
        rw [show (u2 I 53 0 0) 53 21 = I 53 21 from (u2_ne (by omega))]
        rw [hc]
        refine lv_icmp_ge (tgt := 83) hx hb dX5_drift_62 (by decide) (fun c_62 => absurd c_62 ((nI_ge (by omega) (by omega)))) (fun c_62 => ?_)
        refine lv_aload_n hx hb dX5_drift_65 rfl (lv_at hl 0 rfl) ?_
        refine w_getR am hst (k := 22) (b := ad 68) (by decide) (fun _ _ _ => cE_M) rfl inT5 (by decide) (fun _ _ _ => rfl) fRX5_63 dX5_drift_66 ?_
        refine lv_iload_n hx hb dX5_drift_69 rfl (lv_at hl 2 rfl) ?_
        refine lv_iconst (v := 1) hx hb dX5_drift_70 (by decide) ?_
        refine lv_iadd hx hb dX5_drift_71 ?_
        rw [nI_1]
        refine w_iald am hst (by decide) (fun _ _ _ => cE_68) (n := k + 1) (nI_clamp (by omega)) (vp_in_nI (by omega) (by decide)) dX5_drift_72 ?_
        rw [show (u2 I 53 0 0) 68 (k + 1) = I 68 (k + 1) from (u2_ne (by omega))]
        refine lv_iload_n hx hb dX5_drift_73 rfl (lv_at hl 1 rfl) ?_
        refine lv_icmp_gt (tgt := 83) hx hb dX5_drift_74 (by decide) (fun c_74 => ?_) (fun c_74 => ?_)
        · skip
          refine lv_iload_n hx hb dX5_drift_83 rfl (lv_at hl 2 rfl) ?_
          refine lv_iconst (v := 1) hx hb dX5_drift_84 (by decide) ?_
          refine lv_iadd hx hb dX5_drift_85 ?_
          rw [nI_1]
          refine lv_aload_n hx hb dX5_drift_86 rfl (lv_at hl 0 rfl) ?_
          refine w_getI am hst (k := 21) (by decide) (fun _ _ _ => cE_M) rfl inT5 (by decide) (fun _ _ _ => rfl) fRX5_128 dX5_drift_87 ?_
          rw [show (u2 I 53 0 0) 53 21 = I 53 21 from (u2_ne (by omega))]
          rw [hc]
          refine lv_icmp_ne (tgt := 100) hx hb dX5_drift_90 (by decide) (fun c_90 => ?_) (fun c_90 => absurd c_90 ((fun h => absurd ((nI_eq (by omega) (by omega)).mp h) (by omega))))
          refine lv_aload_n hx hb dX5_drift_100 rfl (lv_at hl 0 rfl) ?_
          refine w_getR am hst (k := 23) (b := ad 69) (by decide) (fun _ _ _ => cE_M) rfl inT5 (by decide) (fun _ _ _ => rfl) fRX5_66 dX5_drift_101 ?_
          refine lv_iload_n hx hb dX5_drift_104 rfl (lv_at hl 2 rfl) ?_
          refine w_dald am hst (by decide) (fun _ _ _ => cE_69) (n := k) (nI_clamp (by omega)) (vp_in_nI (by omega) (by decide)) dX5_drift_105 (fun x2 hx2 => ?_)
          refine lv_iload_n hx hb dX5_drift_106 rfl (lv_at hl 1 rfl) ?_
          refine lv_aload_n hx hb dX5_drift_107 rfl (lv_at hl 0 rfl) ?_
          refine w_getR am hst (k := 22) (b := ad 68) (by decide) (fun _ _ _ => cE_M) rfl inT5 (by decide) (fun _ _ _ => rfl) fRX5_63 dX5_drift_108 ?_
          refine lv_iload_n hx hb dX5_drift_111 rfl (lv_at hl 2 rfl) ?_
          refine w_iald am hst (by decide) (fun _ _ _ => cE_68) (n := k) (nI_clamp (by omega)) (vp_in_nI (by omega) (by decide)) dX5_drift_112 ?_
          rw [show (u2 I 53 0 0) 68 k = I 68 k from (u2_ne (by omega))]
          refine lv_isub hx hb dX5_drift_113 ?_
          refine w_i2d hx hb dX5_drift_114 (fun x3 hx3 => ?_)
          refine lv_aload_n hx hb dX5_drift_115 rfl (lv_at hl 0 rfl) ?_
          refine w_getR am hst (k := 23) (b := ad 69) (by decide) (fun _ _ _ => cE_M) rfl inT5 (by decide) (fun _ _ _ => rfl) fRX5_66 dX5_drift_116 ?_
          refine lv_iload_n hx hb dX5_drift_119 rfl (lv_at hl 2 rfl) ?_
          refine lv_iconst (v := 1) hx hb dX5_drift_120 (by decide) ?_
          refine lv_iadd hx hb dX5_drift_121 ?_
          rw [nI_1]
          refine w_dald am hst (by decide) (fun _ _ _ => cE_69) (n := k + 1) (nI_clamp (by omega)) (vp_in_nI (by omega) (by decide)) dX5_drift_122 (fun x4 hx4 => ?_)
          refine lv_aload_n hx hb dX5_drift_123 rfl (lv_at hl 0 rfl) ?_
          refine w_getR am hst (k := 23) (b := ad 69) (by decide) (fun _ _ _ => cE_M) rfl inT5 (by decide) (fun _ _ _ => rfl) fRX5_66 dX5_drift_124 ?_
          refine lv_iload_n hx hb dX5_drift_127 rfl (lv_at hl 2 rfl) ?_
          refine w_dald am hst (by decide) (fun _ _ _ => cE_69) (n := k) (nI_clamp (by omega)) (vp_in_nI (by omega) (by decide)) dX5_drift_128 (fun x5 hx5 => ?_)
          refine w_dsub hd hx hb hx4 hx5 dX5_drift_129 (fun x6 d0 hx6 hd => ?_)
          refine w_dmul hd hx hb hx3 hx6 dX5_drift_130 (fun x7 d0 hx7 hd => ?_)
          refine lv_aload_n hx hb dX5_drift_131 rfl (lv_at hl 0 rfl) ?_
          refine w_getR am hst (k := 22) (b := ad 68) (by decide) (fun _ _ _ => cE_M) rfl inT5 (by decide) (fun _ _ _ => rfl) fRX5_63 dX5_drift_132 ?_
          refine lv_iload_n hx hb dX5_drift_135 rfl (lv_at hl 2 rfl) ?_
          refine lv_iconst (v := 1) hx hb dX5_drift_136 (by decide) ?_
          refine lv_iadd hx hb dX5_drift_137 ?_
          rw [nI_1]
          refine w_iald am hst (by decide) (fun _ _ _ => cE_68) (n := k + 1) (nI_clamp (by omega)) (vp_in_nI (by omega) (by decide)) dX5_drift_138 ?_
          rw [show (u2 I 53 0 0) 68 (k + 1) = I 68 (k + 1) from (u2_ne (by omega))]
          refine lv_aload_n hx hb dX5_drift_139 rfl (lv_at hl 0 rfl) ?_
          refine w_getR am hst (k := 22) (b := ad 68) (by decide) (fun _ _ _ => cE_M) rfl inT5 (by decide) (fun _ _ _ => rfl) fRX5_63 dX5_drift_140 ?_
          refine lv_iload_n hx hb dX5_drift_143 rfl (lv_at hl 2 rfl) ?_
          refine w_iald am hst (by decide) (fun _ _ _ => cE_68) (n := k) (nI_clamp (by omega)) (vp_in_nI (by omega) (by decide)) dX5_drift_144 ?_
          rw [show (u2 I 53 0 0) 68 k = I 68 k from (u2_ne (by omega))]
          refine lv_isub hx hb dX5_drift_145 ?_
          refine w_i2d hx hb dX5_drift_146 (fun x8 hx8 => ?_)
          refine w_ddiv hd hx hb hx7 hx8 dX5_drift_147 (fun x9 d0 hx9 hd => ?_)
          refine w_dadd hd hx hb hx2 hx9 dX5_drift_148 (fun x10 d0 hx10 hd => ?_)
          exact e_dD hd hx hb hr hlk hst (by rw [hx10, mdV, if_neg hc0, if_neg (fun h => absurd c_43 (Int32.not_lt.mpr h)), ← hR, mdF, if_neg (fun h => absurd c_74 (Int32.not_lt.mpr h)), mdW, if_neg (show ¬ k + 1 = c by omega)]; rfl) dX5_drift_149
        · skip
          refine lv_iinc (v := nI (k + 1)) (lv' := [(2, .int (nI (k + 1))), (0, .ref (ad 53)), (1, .int v)]) hx hb dX5_drift_77 hl (k := 2) rfl (nI_1 k) (by decide) rfl (fun ls hl => ?_)
          refine lv_goto (tgt := 55) hx hb dX5_drift_80 (by decide) ?_
          exact ih_lp0 (k + 1) (by omega) (by rw [← hR]; exact (if_pos (Int32.not_lt.mp c_74)).symm) d0 hd _ _ hst ls (lv_sub hl [1, 2, 0] rfl)
    exact lp0 (c - 1) 0 (by omega) rfl d0 hd _ _ hst ls (lv_sub hl [1, 2, 0] rfl)
  · skip
    refine lv_aload_n hx hb dX5_drift_46 rfl (lv_at hl 0 rfl) ?_
    refine w_getR am hst (k := 23) (b := ad 69) (by decide) (fun _ _ _ => cE_M) rfl inT5 (by decide) (fun _ _ _ => rfl) fRX5_66 dX5_drift_47 ?_
    refine lv_iconst (v := 0) hx hb dX5_drift_50 (by decide) ?_
    refine w_dald am hst (by decide) (fun _ _ _ => cE_69) (n := 0) rfl (vinL (by decide)) dX5_drift_51 (fun x11 hx11 => ?_)
    exact e_dD hd hx hb hr hlk hst (by rw [hx11, mdV, if_neg hc0, if_pos (Int32.not_lt.mp c_43)]) dX5_drift_52

set_option maxHeartbeats 4000000 in
set_option maxRecDepth 100000 in
theorem k0_X5_drift {l : Launch} {D : va_G} {cy ad : Nat → Nat} {I : Im} {G : Dm} {J : Jm} (hadI : adI ad) (hc : I 53 21 = 0) {v : Int32} (h1 : bDay v = true) : kD l yX5_drift (.code yX5_drift cX5_drift 3 (some .double)) (rmK 0 0 0 0) D cy ad [.ref (ad 53), .int v] I G J (qD D cy ad 0 (u2 I 53 0 0) G J) := by
  refine start_D hadI (by decide +kernel) (Nat.le_of_ble_eq_true rfl) ?_
  intro p e s m below meth cd am hx hb hr hlk hst ls hl d0 hd
  have hl : lv_has ls 3 [(0, .ref (ad 53)), (1, .int v)] := hl
  refine lv_aload_n hx hb dX5_drift_0 rfl (lv_at hl 0 rfl) ?_
  refine lv_iload_n hx hb dX5_drift_1 rfl (lv_at hl 1 rfl) ?_
  refine lv_if_lt (tgt := 16) hx hb dX5_drift_2 (by decide) (fun c_2 => absurd c_2 ((by unfold bDay at h1; rw [Bool.and_eq_true] at h1; exact of_decide_eq_true h1.1))) (fun c_2 => ?_)
  refine lv_iload_n hx hb dX5_drift_5 rfl (lv_at hl 1 rfl) ?_
  refine lv_sipush (v := 10000) hx hb dX5_drift_6 (by decide) ?_
  refine lv_icmp_gt (tgt := 16) hx hb dX5_drift_9 (by decide) (fun c_9 => absurd c_9 ((by unfold bDay at h1; rw [Bool.and_eq_true] at h1; exact of_decide_eq_true h1.2))) (fun c_9 => ?_)
  refine lv_iconst (v := 0) hx hb dX5_drift_12 (by decide) ?_
  refine lv_goto (tgt := 17) hx hb dX5_drift_13 (by decide) ?_
  refine w_putI am hst (k := 0) (by decide) (fun _ _ _ => cE_M) rfl inT5 tyX5 tyX5_ok nmX5 (by decide) fRX5_73 (fun _ _ _ => rfl) (fun _ _ _ => Nat.le_of_ble_eq_true rfl) rfl rfl rfl rfl dX5_drift_17 (fun H locs hst => ?_)
  refine lv_aload_n hx hb dX5_drift_20 rfl (lv_at hl 0 rfl) ?_
  refine w_getI am hst (k := 0) (by decide) (fun _ _ _ => cE_M) rfl inT5 (by decide) (fun _ _ _ => rfl) fRX5_73 dX5_drift_21 ?_
  rw [show (u2 I 53 0 0) 53 0 = 0 from (u2_eq _ _ _ _)]
  refine lv_if_gt (tgt := 34) hx hb dX5_drift_24 (by decide) (fun c_24 => absurd c_24 ((show ¬ (0 : Int32) < 0 by decide))) (fun c_24 => ?_)
  refine lv_aload_n hx hb dX5_drift_27 rfl (lv_at hl 0 rfl) ?_
  refine w_getI am hst (k := 21) (by decide) (fun _ _ _ => cE_M) rfl inT5 (by decide) (fun _ _ _ => rfl) fRX5_128 dX5_drift_28 ?_
  rw [show (u2 I 53 0 0) 53 21 = I 53 21 from (u2_ne (by omega))]
  rw [hc]
  refine lv_if_ne (tgt := 36) hx hb dX5_drift_31 (by decide) (fun c_31 => absurd ((show (0 : Int32) = 0 by decide)) c_31) (fun c_31 => ?_)
  refine lv_dconst0 hx hb dX5_drift_34 ?_
  exact e_dD hd hx hb hr hlk hst cn_k0 dX5_drift_35

set_option maxHeartbeats 4000000 in
set_option maxRecDepth 100000 in
theorem x_X5_drift {l : Launch} {D : va_G} {cy ad : Nat → Nat} {I : Im} {G : Dm} {J : Jm} (hadI : adI ad) {v : Int32} (hv : v < 0 ∨ 10000 < v) : kM l yX5_drift (.code yX5_drift cX5_drift 3 (some .double)) (rmK 0 0 0 0) D cy ad [.ref (ad 53), .int v] I G J (qD D cy ad 0 (u2 I 53 0 1) G J) := by
  refine start_M hadI (by decide +kernel) (Nat.le_of_ble_eq_true rfl) ?_
  intro p e s m below meth cd am hx hb hr hlk hst ls hl
  have hl : lv_has ls 3 [(0, .ref (ad 53)), (1, .int v)] := hl
  refine lv_aload_n hx hb dX5_drift_0 rfl (lv_at hl 0 rfl) ?_
  refine lv_iload_n hx hb dX5_drift_1 rfl (lv_at hl 1 rfl) ?_
  refine lv_if_lt (tgt := 16) hx hb dX5_drift_2 (by decide) (fun c_2 => ?_) (fun c_2 => ?_)
  · skip
    refine lv_iconst (v := 1) hx hb dX5_drift_16 (by decide) ?_
    refine w_putI am hst (k := 0) (by decide) (fun _ _ _ => cE_M) rfl inT5 tyX5 tyX5_ok nmX5 (by decide) fRX5_73 (fun _ _ _ => rfl) (fun _ _ _ => Nat.le_of_ble_eq_true rfl) rfl rfl rfl rfl dX5_drift_17 (fun H locs hst => ?_)
    refine lv_aload_n hx hb dX5_drift_20 rfl (lv_at hl 0 rfl) ?_
    refine w_getI am hst (k := 0) (by decide) (fun _ _ _ => cE_M) rfl inT5 (by decide) (fun _ _ _ => rfl) fRX5_73 dX5_drift_21 ?_
    rw [show (u2 I 53 0 1) 53 0 = 1 from (u2_eq _ _ _ _)]
    refine lv_if_gt (tgt := 34) hx hb dX5_drift_24 (by decide) (fun c_24 => ?_) (fun c_24 => absurd ((show (0 : Int32) < 1 by decide)) c_24)
    refine lv_dconst0 hx hb dX5_drift_34 ?_
    exact e_d hx hb hr hlk hst cn_k0 dX5_drift_35
  · skip
    refine lv_iload_n hx hb dX5_drift_5 rfl (lv_at hl 1 rfl) ?_
    refine lv_sipush (v := 10000) hx hb dX5_drift_6 (by decide) ?_
    refine lv_icmp_gt (tgt := 16) hx hb dX5_drift_9 (by decide) (fun c_9 => ?_) (fun c_9 => absurd ((hv.resolve_left c_2)) c_9)
    refine lv_iconst (v := 1) hx hb dX5_drift_16 (by decide) ?_
    refine w_putI am hst (k := 0) (by decide) (fun _ _ _ => cE_M) rfl inT5 tyX5 tyX5_ok nmX5 (by decide) fRX5_73 (fun _ _ _ => rfl) (fun _ _ _ => Nat.le_of_ble_eq_true rfl) rfl rfl rfl rfl dX5_drift_17 (fun H locs hst => ?_)
    refine lv_aload_n hx hb dX5_drift_20 rfl (lv_at hl 0 rfl) ?_
    refine w_getI am hst (k := 0) (by decide) (fun _ _ _ => cE_M) rfl inT5 (by decide) (fun _ _ _ => rfl) fRX5_73 dX5_drift_21 ?_
    rw [show (u2 I 53 0 1) 53 0 = 1 from (u2_eq _ _ _ _)]
    refine lv_if_gt (tgt := 34) hx hb dX5_drift_24 (by decide) (fun c_24 => ?_) (fun c_24 => absurd ((show (0 : Int32) < 1 by decide)) c_24)
    refine lv_dconst0 hx hb dX5_drift_34 ?_
    exact e_d hx hb hr hlk hst cn_k0 dX5_drift_35

set_option maxHeartbeats 4000000 in
set_option maxRecDepth 100000 in
theorem k_X5_setting {l : Launch} {D : va_G} {cy ad : Nat → Nat} {I : Im} {G : Dm} {J : Jm} (hadI : adI ad) {n k : Nat} (hm : mOK I) (hn : I 53 2 = nI n) (hn2 : n ≤ 32) (hk : k < 4) {a b : Int32} (hin : bShare a b 1000 = true) : kD l yX5_setting (.code yX5_setting cX5_setting 9 (some .int)) (rmK 2 0 0 52) D cy ad [.ref (ad 53), .int (nI k), .int a, .int b] I G J (qI D cy ad (msF I G (G 66 k) a b n 201 0) (u2 I 53 0 0) G J) := by
  refine start_D hadI (by decide +kernel) (Nat.le_of_ble_eq_true rfl) ?_
  intro p e s m below meth cd am hx hb hr hlk hst ls hl d0 hd
  have hl : lv_has ls 9 [(0, .ref (ad 53)), (1, .int (nI k)), (2, .int a), (3, .int b)] := hl
  refine lv_aload_n hx hb dX5_setting_0 rfl (lv_at hl 0 rfl) ?_
  refine lv_iload_n hx hb dX5_setting_1 rfl (lv_at hl 1 rfl) ?_
  refine lv_if_lt (tgt := 10) hx hb dX5_setting_2 (by decide) (fun c_2 => absurd c_2 (nI_pos (by omega))) (fun c_2 => ?_)
  refine lv_iload_n hx hb dX5_setting_5 rfl (lv_at hl 1 rfl) ?_
  refine lv_iconst (v := 3) hx hb dX5_setting_6 (by decide) ?_
  refine lv_icmp_le (tgt := 14) hx hb dX5_setting_7 (by decide) (fun c_7 => ?_) (fun c_7 => absurd (nI_le (b := 3) (by omega) (by omega)) c_7)
  refine lv_iload_n hx hb dX5_setting_14 rfl (lv_at hl 3 rfl) ?_
  refine lv_iconst (v := 1) hx hb dX5_setting_15 (by decide) ?_
  refine lv_icmp_lt (tgt := 39) hx hb dX5_setting_16 (by decide) (fun c_16 => absurd c_16 ((bSh hin).1)) (fun c_16 => ?_)
  refine lv_iload_n hx hb dX5_setting_19 rfl (lv_at hl 3 rfl) ?_
  refine lv_sipush (v := 1000) hx hb dX5_setting_20 (by decide) ?_
  refine lv_icmp_gt (tgt := 39) hx hb dX5_setting_23 (by decide) (fun c_23 => absurd c_23 ((bSh hin).2.1)) (fun c_23 => ?_)
  refine lv_iload_n hx hb dX5_setting_26 rfl (lv_at hl 2 rfl) ?_
  refine lv_if_lt (tgt := 39) hx hb dX5_setting_27 (by decide) (fun c_27 => absurd c_27 ((bSh hin).2.2.1)) (fun c_27 => ?_)
  refine lv_iload_n hx hb dX5_setting_30 rfl (lv_at hl 2 rfl) ?_
  refine lv_iload_n hx hb dX5_setting_31 rfl (lv_at hl 3 rfl) ?_
  refine lv_icmp_gt (tgt := 39) hx hb dX5_setting_32 (by decide) (fun c_32 => absurd c_32 ((bSh hin).2.2.2)) (fun c_32 => ?_)
  refine lv_iconst (v := 0) hx hb dX5_setting_35 (by decide) ?_
  refine lv_goto (tgt := 40) hx hb dX5_setting_36 (by decide) ?_
  refine w_putI am hst (k := 0) (by decide) (fun _ _ _ => cE_M) rfl inT5 tyX5 tyX5_ok nmX5 (by decide) fRX5_73 (fun _ _ _ => rfl) (fun _ _ _ => Nat.le_of_ble_eq_true rfl) rfl rfl rfl rfl dX5_setting_40 (fun H locs hst => ?_)
  refine lv_iconst (v := 0) hx hb dX5_setting_43 (by decide) ?_
  refine lv_istore (lv' := [(4, .int 0), (0, .ref (ad 53)), (1, .int (nI k)), (2, .int a), (3, .int b)]) hx hb dX5_setting_44 hl (by decide) rfl (fun ls hl => ?_)
  have lpO : ∀ (q8 t : Nat), q8 + t = 201 → msF I G (G 66 k) a b n q8 t = msF I G (G 66 k) a b n 201 0 → ∀ d0 : Drawn, s.drawn.sameBut d0 lw_cs → ∀ (H : Heap) (locs : List Loc), St D cy ad s.heap (u2 I 53 0 0) G J H locs → ∀ ls, lv_has ls 9 [(0, .ref (ad 53)), (1, .int (nI k)), (2, .int a), (3, .int b), (4, .int (nI t))] → W p l e (rmK 2 0 0 52) (s.setDrawn d0) m [.ref (ad 53), .int (nI k), .int a, .int b].toArray below meth cd H locs 0 0 (MQD lw_cs below (qI D cy ad (msF I G (G 66 k) a b n 201 0) (u2 I 53 0 0) G J s.heap.size) [.ref (ad 53), .int (nI k), .int a, .int b].toArray s ((rmK 2 0 0 52)).cells ((rmK 2 0 0 52)).slots (aA ad s.heap.size)) (F0 m 46 ls []) := by
    intro q8
    induction q8 with
    | zero =>
      intro t hi hR d0 hd H locs hst ls hl
      obtain rfl : 201 = t := by omega
      refine lv_aload_n hx hb dX5_setting_46 rfl (lv_at hl 0 rfl) ?_
      refine w_getI am hst (k := 0) (by decide) (fun _ _ _ => cE_M) rfl inT5 (by decide) (fun _ _ _ => rfl) fRX5_73 dX5_setting_47 ?_
      rw [show (u2 I 53 0 0) 53 0 = 0 from (u2_eq _ _ _ _)]
      refine lv_if_ne (tgt := 215) hx hb dX5_setting_50 (by decide) (fun c_50 => absurd ((show (0 : Int32) = 0 by decide)) c_50) (fun c_50 => ?_)
      refine lv_iload hx hb dX5_setting_53 (lv_at hl 4 rfl) ?_
      refine lv_sipush (v := 200) hx hb dX5_setting_55 (by decide) ?_
      refine lv_icmp_gt (tgt := 215) hx hb dX5_setting_58 (by decide) (fun c_58 => ?_) (fun c_58 => absurd ((show (200 : Int32) < nI 201 by decide)) c_58)
      refine lv_aload_n hx hb dX5_setting_215 rfl (lv_at hl 0 rfl) ?_
      refine w_getI am hst (k := 0) (by decide) (fun _ _ _ => cE_M) rfl inT5 (by decide) (fun _ _ _ => rfl) fRX5_73 dX5_setting_216 ?_
      rw [show (u2 I 53 0 0) 53 0 = 0 from (u2_eq _ _ _ _)]
      refine lv_if_le (tgt := 226) hx hb dX5_setting_219 (by decide) (fun c_219 => ?_) (fun c_219 => absurd ((show (0 : Int32) ≤ 0 by decide)) c_219)
      refine lv_iconst (v := (-1)) hx hb dX5_setting_226 (by decide) ?_
      exact e_iD hd hx hb hr hlk hst rfl (by rw [← hR]; rfl) dX5_setting_227
    | succ q8 ih_lpO =>
      intro t hi hR d0 hd H locs hst ls hl
      refine lv_aload_n hx hb dX5_setting_46 rfl (lv_at hl 0 rfl) ?_
      refine w_getI am hst (k := 0) (by decide) (fun _ _ _ => cE_M) rfl inT5 (by decide) (fun _ _ _ => rfl) fRX5_73 dX5_setting_47 ?_
      rw [show (u2 I 53 0 0) 53 0 = 0 from (u2_eq _ _ _ _)]
      refine lv_if_ne (tgt := 215) hx hb dX5_setting_50 (by decide) (fun c_50 => absurd ((show (0 : Int32) = 0 by decide)) c_50) (fun c_50 => ?_)
      refine lv_iload hx hb dX5_setting_53 (lv_at hl 4 rfl) ?_
      refine lv_sipush (v := 200) hx hb dX5_setting_55 (by decide) ?_
      refine lv_icmp_gt (tgt := 215) hx hb dX5_setting_58 (by decide) (fun c_58 => absurd c_58 ((nI_nlt (a := 200) (by omega) (by omega)))) (fun c_58 => ?_)
      refine lv_iconst (v := 0) hx hb dX5_setting_61 (by decide) ?_
      refine lv_istore (lv' := [(5, .int 0), (0, .ref (ad 53)), (1, .int (nI k)), (2, .int a), (3, .int b), (4, .int (nI t))]) hx hb dX5_setting_62 hl (by decide) rfl (fun ls hl => ?_)
      refine lv_iconst (v := 0) hx hb dX5_setting_64 (by decide) ?_
      refine lv_istore (lv' := [(6, .int 0), (5, .int 0), (0, .ref (ad 53)), (1, .int (nI k)), (2, .int a), (3, .int b), (4, .int (nI t))]) hx hb dX5_setting_65 hl (by decide) rfl (fun ls hl => ?_)
      refine lv_iconst (v := 0) hx hb dX5_setting_67 (by decide) ?_
      refine lv_istore (lv' := [(7, .int 0), (6, .int 0), (5, .int 0), (0, .ref (ad 53)), (1, .int (nI k)), (2, .int a), (3, .int b), (4, .int (nI t))]) hx hb dX5_setting_68 hl (by decide) rfl (fun ls hl => ?_)
      have lpI : ∀ (q9 i : Nat), q9 + i = n → ∀ d0 : Drawn, s.drawn.sameBut d0 lw_cs → ∀ (H : Heap) (locs : List Loc), St D cy ad s.heap (u2 I 53 0 0) G J H locs → ∀ ls, lv_has ls 9 [(0, .ref (ad 53)), (1, .int (nI k)), (2, .int a), (3, .int b), (4, .int (nI t)), (5, .int (nI (meC I G (Dv (FP.i2d (nI t)) 4616189618054758400) i))), (6, .int (nI (meW I G (Dv (FP.i2d (nI t)) 4616189618054758400) (G 66 k) i))), (7, .int (nI i))] → W p l e (rmK 2 0 0 52) (s.setDrawn d0) m [.ref (ad 53), .int (nI k), .int a, .int b].toArray below meth cd H locs 0 0 (MQD lw_cs below (qI D cy ad (msF I G (G 66 k) a b n 201 0) (u2 I 53 0 0) G J s.heap.size) [.ref (ad 53), .int (nI k), .int a, .int b].toArray s ((rmK 2 0 0 52)).cells ((rmK 2 0 0 52)).slots (aA ad s.heap.size)) (F0 m 70 ls []) := by
        intro q9
        induction q9 with
        | zero =>
          intro i hi d0 hd H locs hst ls hl
          obtain rfl : n = i := by omega
          refine lv_iload hx hb dX5_setting_70 (lv_at hl 7 rfl) ?_
          refine lv_aload_n hx hb dX5_setting_72 rfl (lv_at hl 0 rfl) ?_
          refine w_getI am hst (k := 2) (by decide) (fun _ _ _ => cE_M) rfl inT5 (by decide) (fun _ _ _ => rfl) fRX5_76 dX5_setting_73 ?_
          rw [show (u2 I 53 0 0) 53 2 = I 53 2 from (u2_ne (by omega))]
          rw [hn]
          refine lv_icmp_ge (tgt := 195) hx hb dX5_setting_76 (by decide) (fun c_76 => ?_) (fun c_76 => absurd ((nI_le (Nat.le_refl _) (by omega))) c_76)
          refine lv_iload hx hb dX5_setting_195 (lv_at hl 6 rfl) ?_
          refine lv_iload_n hx hb dX5_setting_197 rfl (lv_at hl 3 rfl) ?_
          refine lv_imul hx hb dX5_setting_198 ?_
          refine lv_iload_n hx hb dX5_setting_199 rfl (lv_at hl 2 rfl) ?_
          refine lv_iload hx hb dX5_setting_200 (lv_at hl 5 rfl) ?_
          refine lv_imul hx hb dX5_setting_202 ?_
          refine lv_icmp_gt (tgt := 209) hx hb dX5_setting_203 (by decide) (fun c_203 => ?_) (fun c_203 => ?_)
          · skip
            refine lv_iinc (v := nI (t + 1)) (lv' := [(4, .int (nI (t + 1))), (0, .ref (ad 53)), (1, .int (nI k)), (2, .int a), (3, .int b), (5, .int (nI (meC I G (Dv (FP.i2d (nI t)) 4616189618054758400) n))), (6, .int (nI (meW I G (Dv (FP.i2d (nI t)) 4616189618054758400) (G 66 k) n))), (7, .int (nI n))]) hx hb dX5_setting_209 hl (k := 4) rfl (nI_1 t) (by decide) rfl (fun ls hl => ?_)
            refine lv_goto (tgt := 46) hx hb dX5_setting_212 (by decide) ?_
            exact ih_lpO (t + 1) (by omega) (by rw [← hR]; exact (if_neg (fun h => absurd c_203 (of_decide_eq_true h))).symm) d0 hd _ _ hst ls (lv_sub hl [1, 2, 3, 4, 0] rfl)
          · skip
            refine lv_iload hx hb dX5_setting_206 (lv_at hl 4 rfl) ?_
            exact e_iD hd hx hb hr hlk hst rfl (by rw [← hR, msF, if_pos (show meOK I G (Dv (FP.i2d (nI t)) 4616189618054758400) (G 66 k) a b n = true from decide_eq_true c_203)]) dX5_setting_208
        | succ q9 ih_lpI =>
          intro i hi d0 hd H locs hst ls hl
          refine lv_iload hx hb dX5_setting_70 (lv_at hl 7 rfl) ?_
          refine lv_aload_n hx hb dX5_setting_72 rfl (lv_at hl 0 rfl) ?_
          refine w_getI am hst (k := 2) (by decide) (fun _ _ _ => cE_M) rfl inT5 (by decide) (fun _ _ _ => rfl) fRX5_76 dX5_setting_73 ?_
          rw [show (u2 I 53 0 0) 53 2 = I 53 2 from (u2_ne (by omega))]
          rw [hn]
          refine lv_icmp_ge (tgt := 195) hx hb dX5_setting_76 (by decide) (fun c_76 => absurd c_76 ((nI_ge (by omega) (by omega)))) (fun c_76 => ?_)
          refine lv_aload_n hx hb dX5_setting_79 rfl (lv_at hl 0 rfl) ?_
          refine w_getR am hst (k := 8) (b := ad 59) (by decide) (fun _ _ _ => cE_M) rfl inT5 (by decide) (fun _ _ _ => rfl) fRX5_26 dX5_setting_80 ?_
          refine lv_iload hx hb dX5_setting_83 (lv_at hl 7 rfl) ?_
          refine w_zald am hst (by decide) (fun _ _ _ => cE_59) (n := i) (nI_clamp (by omega)) (vp_in_nI (by omega) (by decide)) dX5_setting_85 ?_
          rw [show (u2 I 53 0 0) 59 i = I 59 i from (u2_ne (by omega))]
          refine lv_if_eq (tgt := 137) hx hb dX5_setting_86 (by decide) (fun c_86 => ?_) (fun c_86 => ?_)
          · skip
            refine lv_iconst (v := 0) hx hb dX5_setting_137 (by decide) ?_
            refine lv_istore (lv' := [(8, .int 0), (0, .ref (ad 53)), (1, .int (nI k)), (2, .int a), (3, .int b), (4, .int (nI t)), (5, .int (nI (meC I G (Dv (FP.i2d (nI t)) 4616189618054758400) i))), (6, .int (nI (meW I G (Dv (FP.i2d (nI t)) 4616189618054758400) (G 66 k) i))), (7, .int (nI i))]) hx hb dX5_setting_138 hl (by decide) rfl (fun ls hl => ?_)
            refine lv_iload hx hb dX5_setting_140 (lv_at hl 0 rfl) ?_
            refine lv_if_eq (tgt := 152) hx hb dX5_setting_142 (by decide) (fun c_142 => ?_) (fun c_142 => absurd ((show (0 : Int32) = 0 by decide)) c_142)
            refine lv_iload hx hb dX5_setting_152 (lv_at hl 6 rfl) ?_
            refine lv_istore (lv' := [(5, .int (nI (meC I G (Dv (FP.i2d (nI t)) 4616189618054758400) i))), (8, .int 0), (0, .ref (ad 53)), (1, .int (nI k)), (2, .int a), (3, .int b), (4, .int (nI t)), (6, .int (nI (meW I G (Dv (FP.i2d (nI t)) 4616189618054758400) (G 66 k) i))), (7, .int (nI i))]) hx hb dX5_setting_154 hl (by decide) rfl (fun ls hl => ?_)
            refine lv_iload hx hb dX5_setting_156 (lv_at hl 1 rfl) ?_
            refine lv_if_eq (tgt := 185) hx hb dX5_setting_158 (by decide) (fun c_158 => ?_) (fun c_158 => absurd ((show (0 : Int32) = 0 by decide)) c_158)
            refine lv_iload hx hb dX5_setting_185 (lv_at hl 7 rfl) ?_
            refine lv_istore (lv' := [(6, .int (nI (meW I G (Dv (FP.i2d (nI t)) 4616189618054758400) (G 66 k) i))), (5, .int (nI (meC I G (Dv (FP.i2d (nI t)) 4616189618054758400) i))), (8, .int 0), (0, .ref (ad 53)), (1, .int (nI k)), (2, .int a), (3, .int b), (4, .int (nI t)), (7, .int (nI i))]) hx hb dX5_setting_187 hl (by decide) rfl (fun ls hl => ?_)
            refine lv_iinc (v := nI (i + 1)) (lv' := [(7, .int (nI (i + 1))), (6, .int (nI (meW I G (Dv (FP.i2d (nI t)) 4616189618054758400) (G 66 k) i))), (5, .int (nI (meC I G (Dv (FP.i2d (nI t)) 4616189618054758400) i))), (8, .int 0), (0, .ref (ad 53)), (1, .int (nI k)), (2, .int a), (3, .int b), (4, .int (nI t))]) hx hb dX5_setting_189 hl (k := 8) rfl (nI_1 i) (by decide) rfl (fun ls hl => ?_)
            refine lv_goto (tgt := 70) hx hb dX5_setting_192 (by decide) ?_
            have ih2 := ih_lpI (i + 1) (by omega) d0 hd
            rw [show meC I G (Dv (FP.i2d (nI t)) 4616189618054758400) (i + 1) = meC I G (Dv (FP.i2d (nI t)) 4616189618054758400) i from if_neg (by rw [show meP I G (Dv (FP.i2d (nI t)) 4616189618054758400) i = false from by simp only [meP, (show I 59 i = 0 from c_86), not_true_eq_false, not_false_eq_true, decide_true, decide_false, Bool.true_and, Bool.false_and, Bool.and_true, Bool.and_false, Bool.and_self, if_true, if_false, ite_true, ite_false, reduceIte, Bool.false_eq_true]]; exact Bool.false_ne_true), show meW I G (Dv (FP.i2d (nI t)) 4616189618054758400) (G 66 k) (i + 1) = meW I G (Dv (FP.i2d (nI t)) 4616189618054758400) (G 66 k) i from if_neg (by rw [show meP I G (Dv (FP.i2d (nI t)) 4616189618054758400) i = false from by simp only [meP, (show I 59 i = 0 from c_86), not_true_eq_false, not_false_eq_true, decide_true, decide_false, Bool.true_and, Bool.false_and, Bool.and_true, Bool.and_false, Bool.and_self, if_true, if_false, ite_true, ite_false, reduceIte, Bool.false_eq_true]]; exact Bool.false_ne_true)] at ih2
            exact ih2 _ _ hst ls (lv_sub hl [4, 5, 6, 7, 8, 2, 1, 0] rfl)
          · skip
            refine lv_aload_n hx hb dX5_setting_89 rfl (lv_at hl 0 rfl) ?_
            refine lv_iload hx hb dX5_setting_90 (lv_at hl 7 rfl) ?_
            refine c_i hst (r_V (As := [.int (nI i)]) (rest := []) am hst hl (k_X5_isComplete hadI (k := i) (by omega)) kRX5_99 imX5_isComplete slX5_isComplete ⟨Nat.le_of_ble_eq_true rfl, Nat.le_of_ble_eq_true rfl⟩ (by decide) (fun _ _ _ => cE_M) rfl rfl rfl (Nat.le_of_ble_eq_true rfl) dX5_setting_92 ⟨Nat.le_of_ble_eq_true rfl, Nat.le_of_ble_eq_true rfl⟩) (fun H locs hst => ?_)
            refine lv_if_eq (tgt := 137) hx hb dX5_setting_95 (by decide) (fun c_95 => ?_) (fun c_95 => ?_)
            · skip
              refine lv_iconst (v := 0) hx hb dX5_setting_137 (by decide) ?_
              refine lv_istore (lv' := [(8, .int 0), (0, .ref (ad 53)), (1, .int (nI k)), (2, .int a), (3, .int b), (4, .int (nI t)), (5, .int (nI (meC I G (Dv (FP.i2d (nI t)) 4616189618054758400) i))), (6, .int (nI (meW I G (Dv (FP.i2d (nI t)) 4616189618054758400) (G 66 k) i))), (7, .int (nI i))]) hx hb dX5_setting_138 hl (by decide) rfl (fun ls hl => ?_)
              refine lv_iload hx hb dX5_setting_140 (lv_at hl 0 rfl) ?_
              refine lv_if_eq (tgt := 152) hx hb dX5_setting_142 (by decide) (fun c_142 => ?_) (fun c_142 => absurd ((show (0 : Int32) = 0 by decide)) c_142)
              refine lv_iload hx hb dX5_setting_152 (lv_at hl 6 rfl) ?_
              refine lv_istore (lv' := [(5, .int (nI (meC I G (Dv (FP.i2d (nI t)) 4616189618054758400) i))), (8, .int 0), (0, .ref (ad 53)), (1, .int (nI k)), (2, .int a), (3, .int b), (4, .int (nI t)), (6, .int (nI (meW I G (Dv (FP.i2d (nI t)) 4616189618054758400) (G 66 k) i))), (7, .int (nI i))]) hx hb dX5_setting_154 hl (by decide) rfl (fun ls hl => ?_)
              refine lv_iload hx hb dX5_setting_156 (lv_at hl 1 rfl) ?_
              refine lv_if_eq (tgt := 185) hx hb dX5_setting_158 (by decide) (fun c_158 => ?_) (fun c_158 => absurd ((show (0 : Int32) = 0 by decide)) c_158)
              refine lv_iload hx hb dX5_setting_185 (lv_at hl 7 rfl) ?_
              refine lv_istore (lv' := [(6, .int (nI (meW I G (Dv (FP.i2d (nI t)) 4616189618054758400) (G 66 k) i))), (5, .int (nI (meC I G (Dv (FP.i2d (nI t)) 4616189618054758400) i))), (8, .int 0), (0, .ref (ad 53)), (1, .int (nI k)), (2, .int a), (3, .int b), (4, .int (nI t)), (7, .int (nI i))]) hx hb dX5_setting_187 hl (by decide) rfl (fun ls hl => ?_)
              refine lv_iinc (v := nI (i + 1)) (lv' := [(7, .int (nI (i + 1))), (6, .int (nI (meW I G (Dv (FP.i2d (nI t)) 4616189618054758400) (G 66 k) i))), (5, .int (nI (meC I G (Dv (FP.i2d (nI t)) 4616189618054758400) i))), (8, .int 0), (0, .ref (ad 53)), (1, .int (nI k)), (2, .int a), (3, .int b), (4, .int (nI t))]) hx hb dX5_setting_189 hl (k := 8) rfl (nI_1 i) (by decide) rfl (fun ls hl => ?_)
              refine lv_goto (tgt := 70) hx hb dX5_setting_192 (by decide) ?_
              have ih2 := ih_lpI (i + 1) (by omega) d0 hd
              rw [show meC I G (Dv (FP.i2d (nI t)) 4616189618054758400) (i + 1) = meC I G (Dv (FP.i2d (nI t)) 4616189618054758400) i from if_neg (by rw [show meP I G (Dv (FP.i2d (nI t)) 4616189618054758400) i = false from by simp only [meP, (show ¬ I 59 i = 0 from c_86), (show mCompl I G i = false from zB_0.mp c_95), not_true_eq_false, not_false_eq_true, decide_true, decide_false, Bool.true_and, Bool.false_and, Bool.and_true, Bool.and_false, Bool.and_self, if_true, if_false, ite_true, ite_false, reduceIte, Bool.false_eq_true]]; exact Bool.false_ne_true), show meW I G (Dv (FP.i2d (nI t)) 4616189618054758400) (G 66 k) (i + 1) = meW I G (Dv (FP.i2d (nI t)) 4616189618054758400) (G 66 k) i from if_neg (by rw [show meP I G (Dv (FP.i2d (nI t)) 4616189618054758400) i = false from by simp only [meP, (show ¬ I 59 i = 0 from c_86), (show mCompl I G i = false from zB_0.mp c_95), not_true_eq_false, not_false_eq_true, decide_true, decide_false, Bool.true_and, Bool.false_and, Bool.and_true, Bool.and_false, Bool.and_self, if_true, if_false, ite_true, ite_false, reduceIte, Bool.false_eq_true]]; exact Bool.false_ne_true)] at ih2
              exact ih2 _ _ hst ls (lv_sub hl [4, 5, 6, 7, 8, 2, 1, 0] rfl)
            · skip
              refine lv_aload_n hx hb dX5_setting_98 rfl (lv_at hl 0 rfl) ?_
              refine lv_iload hx hb dX5_setting_99 (lv_at hl 7 rfl) ?_
              refine lv_aload_n hx hb dX5_setting_101 rfl (lv_at hl 0 rfl) ?_
              refine w_getR am hst (k := 13) (b := ad 64) (by decide) (fun _ _ _ => cE_M) rfl inT5 (by decide) (fun _ _ _ => rfl) fRX5_42 dX5_setting_102 ?_
              refine lv_iconst (v := 0) hx hb dX5_setting_105 (by decide) ?_
              refine w_dald am hst (by decide) (fun _ _ _ => cE_64) (n := 0) rfl (vinL (by decide)) dX5_setting_106 (fun x1 hx1 => ?_)
              refine lv_aload_n hx hb dX5_setting_107 rfl (lv_at hl 0 rfl) ?_
              refine w_getR am hst (k := 13) (b := ad 64) (by decide) (fun _ _ _ => cE_M) rfl inT5 (by decide) (fun _ _ _ => rfl) fRX5_42 dX5_setting_108 ?_
              refine lv_iconst (v := 1) hx hb dX5_setting_111 (by decide) ?_
              refine w_dald am hst (by decide) (fun _ _ _ => cE_64) (n := 1) rfl (vinL (by decide)) dX5_setting_112 (fun x2 hx2 => ?_)
              refine lv_aload_n hx hb dX5_setting_113 rfl (lv_at hl 0 rfl) ?_
              refine w_getR am hst (k := 13) (b := ad 64) (by decide) (fun _ _ _ => cE_M) rfl inT5 (by decide) (fun _ _ _ => rfl) fRX5_42 dX5_setting_114 ?_
              refine lv_iconst (v := 2) hx hb dX5_setting_117 (by decide) ?_
              refine w_dald am hst (by decide) (fun _ _ _ => cE_64) (n := 2) rfl (vinL (by decide)) dX5_setting_118 (fun x3 hx3 => ?_)
              refine c_dD hd hst (r_VD (As := [.int (nI i), .double x1, .double x2, .double x3]) (rest := []) am hst hl (k_X5_told hadI (b := i) (mOK_u hm (by decide)) (by omega) hx1 hx2 hx3) kRX5_112 imX5_told slX5_told ⟨Nat.le_of_ble_eq_true rfl, Nat.le_of_ble_eq_true rfl⟩ (by decide) (fun _ _ _ => cE_M) rfl rfl rfl (Nat.le_of_ble_eq_true rfl) dX5_setting_119 ⟨Nat.le_of_ble_eq_true rfl, Nat.le_of_ble_eq_true rfl⟩) (fun x4 d0 H locs hx4 hd hst => ?_)
              refine lv_iload hx hb dX5_setting_122 (lv_at hl 4 rfl) ?_
              refine w_i2d hx hb dX5_setting_124 (fun x5 hx5 => ?_)
              refine lv_ldc2d hx hb am.2.2.2.1 (amT am _ wRX5_116) dX5_setting_125 ?_
              refine w_ddiv hd hx hb hx5 cn_k4616189618054758400 dX5_setting_128 (fun x6 d0 hx6 hd => ?_)
              refine w_dcmp hx hb hx4 hx6 dX5_setting_129 ?_
              refine lv_if_lt (tgt := 137) hx hb dX5_setting_130 (by decide) (fun c_130 => ?_) (fun c_130 => ?_)
              · skip
                refine lv_iconst (v := 0) hx hb dX5_setting_137 (by decide) ?_
                refine lv_istore (lv' := [(8, .int 0), (0, .ref (ad 53)), (1, .int (nI k)), (2, .int a), (3, .int b), (4, .int (nI t)), (5, .int (nI (meC I G (Dv (FP.i2d (nI t)) 4616189618054758400) i))), (6, .int (nI (meW I G (Dv (FP.i2d (nI t)) 4616189618054758400) (G 66 k) i))), (7, .int (nI i))]) hx hb dX5_setting_138 hl (by decide) rfl (fun ls hl => ?_)
                refine lv_iload hx hb dX5_setting_140 (lv_at hl 0 rfl) ?_
                refine lv_if_eq (tgt := 152) hx hb dX5_setting_142 (by decide) (fun c_142 => ?_) (fun c_142 => absurd ((show (0 : Int32) = 0 by decide)) c_142)
                refine lv_iload hx hb dX5_setting_152 (lv_at hl 6 rfl) ?_
                refine lv_istore (lv' := [(5, .int (nI (meC I G (Dv (FP.i2d (nI t)) 4616189618054758400) i))), (8, .int 0), (0, .ref (ad 53)), (1, .int (nI k)), (2, .int a), (3, .int b), (4, .int (nI t)), (6, .int (nI (meW I G (Dv (FP.i2d (nI t)) 4616189618054758400) (G 66 k) i))), (7, .int (nI i))]) hx hb dX5_setting_154 hl (by decide) rfl (fun ls hl => ?_)
                refine lv_iload hx hb dX5_setting_156 (lv_at hl 1 rfl) ?_
                refine lv_if_eq (tgt := 185) hx hb dX5_setting_158 (by decide) (fun c_158 => ?_) (fun c_158 => absurd ((show (0 : Int32) = 0 by decide)) c_158)
                refine lv_iload hx hb dX5_setting_185 (lv_at hl 7 rfl) ?_
                refine lv_istore (lv' := [(6, .int (nI (meW I G (Dv (FP.i2d (nI t)) 4616189618054758400) (G 66 k) i))), (5, .int (nI (meC I G (Dv (FP.i2d (nI t)) 4616189618054758400) i))), (8, .int 0), (0, .ref (ad 53)), (1, .int (nI k)), (2, .int a), (3, .int b), (4, .int (nI t)), (7, .int (nI i))]) hx hb dX5_setting_187 hl (by decide) rfl (fun ls hl => ?_)
                refine lv_iinc (v := nI (i + 1)) (lv' := [(7, .int (nI (i + 1))), (6, .int (nI (meW I G (Dv (FP.i2d (nI t)) 4616189618054758400) (G 66 k) i))), (5, .int (nI (meC I G (Dv (FP.i2d (nI t)) 4616189618054758400) i))), (8, .int 0), (0, .ref (ad 53)), (1, .int (nI k)), (2, .int a), (3, .int b), (4, .int (nI t))]) hx hb dX5_setting_189 hl (k := 8) rfl (nI_1 i) (by decide) rfl (fun ls hl => ?_)
                refine lv_goto (tgt := 70) hx hb dX5_setting_192 (by decide) ?_
                have ih2 := ih_lpI (i + 1) (by omega) d0 hd
                rw [show meC I G (Dv (FP.i2d (nI t)) 4616189618054758400) (i + 1) = meC I G (Dv (FP.i2d (nI t)) 4616189618054758400) i from if_neg (by rw [show meP I G (Dv (FP.i2d (nI t)) 4616189618054758400) i = false from by simp only [meP, (show ¬ I 59 i = 0 from c_86), (show mCompl I G i = true from zB_n0.mp c_95), (show Op.cmpValue (FP.dcmp (mTold I G i (G 64 0) (G 64 1) (G 64 2)) (Dv (FP.i2d (nI t)) 4616189618054758400)) CmpOp.l < 0 from c_130), not_true_eq_false, not_false_eq_true, decide_true, decide_false, Bool.true_and, Bool.false_and, Bool.and_true, Bool.and_false, Bool.and_self, if_true, if_false, ite_true, ite_false, reduceIte, Bool.false_eq_true]]; exact Bool.false_ne_true), show meW I G (Dv (FP.i2d (nI t)) 4616189618054758400) (G 66 k) (i + 1) = meW I G (Dv (FP.i2d (nI t)) 4616189618054758400) (G 66 k) i from if_neg (by rw [show meP I G (Dv (FP.i2d (nI t)) 4616189618054758400) i = false from by simp only [meP, (show ¬ I 59 i = 0 from c_86), (show mCompl I G i = true from zB_n0.mp c_95), (show Op.cmpValue (FP.dcmp (mTold I G i (G 64 0) (G 64 1) (G 64 2)) (Dv (FP.i2d (nI t)) 4616189618054758400)) CmpOp.l < 0 from c_130), not_true_eq_false, not_false_eq_true, decide_true, decide_false, Bool.true_and, Bool.false_and, Bool.and_true, Bool.and_false, Bool.and_self, if_true, if_false, ite_true, ite_false, reduceIte, Bool.false_eq_true]]; exact Bool.false_ne_true)] at ih2
                exact ih2 _ _ hst ls (lv_sub hl [4, 5, 6, 7, 8, 2, 1, 0] rfl)
              · skip
                refine lv_iconst (v := 1) hx hb dX5_setting_133 (by decide) ?_
                refine lv_goto (tgt := 138) hx hb dX5_setting_134 (by decide) ?_
                refine lv_istore (lv' := [(8, .int 1), (0, .ref (ad 53)), (1, .int (nI k)), (2, .int a), (3, .int b), (4, .int (nI t)), (5, .int (nI (meC I G (Dv (FP.i2d (nI t)) 4616189618054758400) i))), (6, .int (nI (meW I G (Dv (FP.i2d (nI t)) 4616189618054758400) (G 66 k) i))), (7, .int (nI i))]) hx hb dX5_setting_138 hl (by decide) rfl (fun ls hl => ?_)
                refine lv_iload hx hb dX5_setting_140 (lv_at hl 0 rfl) ?_
                refine lv_if_eq (tgt := 152) hx hb dX5_setting_142 (by decide) (fun c_142 => absurd c_142 ((show ¬ (1 : Int32) = 0 by decide))) (fun c_142 => ?_)
                refine lv_iload hx hb dX5_setting_145 (lv_at hl 6 rfl) ?_
                refine lv_iconst (v := 1) hx hb dX5_setting_147 (by decide) ?_
                refine lv_iadd hx hb dX5_setting_148 ?_
                rw [nI_1]
                refine lv_goto (tgt := 154) hx hb dX5_setting_149 (by decide) ?_
                refine lv_istore (lv' := [(5, .int (nI (meC I G (Dv (FP.i2d (nI t)) 4616189618054758400) i + 1))), (8, .int 1), (0, .ref (ad 53)), (1, .int (nI k)), (2, .int a), (3, .int b), (4, .int (nI t)), (6, .int (nI (meW I G (Dv (FP.i2d (nI t)) 4616189618054758400) (G 66 k) i))), (7, .int (nI i))]) hx hb dX5_setting_154 hl (by decide) rfl (fun ls hl => ?_)
                refine lv_iload hx hb dX5_setting_156 (lv_at hl 1 rfl) ?_
                refine lv_if_eq (tgt := 185) hx hb dX5_setting_158 (by decide) (fun c_158 => absurd c_158 ((show ¬ (1 : Int32) = 0 by decide))) (fun c_158 => ?_)
                refine lv_aload_n hx hb dX5_setting_161 rfl (lv_at hl 2 rfl) ?_
                refine w_getR am hst (k := 7) (b := ad 58) (by decide) (fun _ _ _ => cE_M) rfl inT5 (by decide) (fun _ _ _ => rfl) fRX5_23 dX5_setting_162 ?_
                refine lv_iload hx hb dX5_setting_165 (lv_at hl 8 rfl) ?_
                refine w_dald am hst (by decide) (fun _ _ _ => cE_58) (n := i) (nI_clamp (by omega)) (vp_in_nI (by omega) (by decide)) dX5_setting_167 (fun x7 hx7 => ?_)
                refine lv_aload_n hx hb dX5_setting_168 rfl (lv_at hl 2 rfl) ?_
                refine w_getR am hst (k := 15) (b := ad 66) (by decide) (fun _ _ _ => cE_M) rfl inT5 (by decide) (fun _ _ _ => rfl) fRX5_50 dX5_setting_169 ?_
                refine lv_iload_n hx hb dX5_setting_172 rfl (lv_at hl 3 rfl) ?_
                refine w_dald am hst (by decide) (fun _ _ _ => cE_66) (n := k) (nI_clamp (by omega)) (vp_in_nI (by omega) (by decide)) dX5_setting_173 (fun x8 hx8 => ?_)
                refine w_dcmp hx hb hx7 hx8 dX5_setting_174 ?_
                refine lv_if_ge (tgt := 185) hx hb dX5_setting_175 (by decide) (fun c_175 => ?_) (fun c_175 => ?_)
                · skip
                  refine lv_iload hx hb dX5_setting_185 (lv_at hl 7 rfl) ?_
                  refine lv_istore (lv' := [(6, .int (nI (meW I G (Dv (FP.i2d (nI t)) 4616189618054758400) (G 66 k) i))), (5, .int (nI (meC I G (Dv (FP.i2d (nI t)) 4616189618054758400) i + 1))), (8, .int 1), (0, .ref (ad 53)), (1, .int (nI k)), (2, .int a), (3, .int b), (4, .int (nI t)), (7, .int (nI i))]) hx hb dX5_setting_187 hl (by decide) rfl (fun ls hl => ?_)
                  refine lv_iinc (v := nI (i + 1)) (lv' := [(7, .int (nI (i + 1))), (6, .int (nI (meW I G (Dv (FP.i2d (nI t)) 4616189618054758400) (G 66 k) i))), (5, .int (nI (meC I G (Dv (FP.i2d (nI t)) 4616189618054758400) i + 1))), (8, .int 1), (0, .ref (ad 53)), (1, .int (nI k)), (2, .int a), (3, .int b), (4, .int (nI t))]) hx hb dX5_setting_189 hl (k := 8) rfl (nI_1 i) (by decide) rfl (fun ls hl => ?_)
                  refine lv_goto (tgt := 70) hx hb dX5_setting_192 (by decide) ?_
                  have ih2 := ih_lpI (i + 1) (by omega) d0 hd
                  rw [show meC I G (Dv (FP.i2d (nI t)) 4616189618054758400) (i + 1) = meC I G (Dv (FP.i2d (nI t)) 4616189618054758400) i + 1 from if_pos (by simp only [meP, (show ¬ I 59 i = 0 from c_86), (show mCompl I G i = true from zB_n0.mp c_95), (show ¬ Op.cmpValue (FP.dcmp (mTold I G i (G 64 0) (G 64 1) (G 64 2)) (Dv (FP.i2d (nI t)) 4616189618054758400)) CmpOp.l < 0 from c_130), not_true_eq_false, not_false_eq_true, decide_true, decide_false, Bool.true_and, Bool.false_and, Bool.and_true, Bool.and_false, Bool.and_self, if_true, if_false, ite_true, ite_false, reduceIte, Bool.false_eq_true]), show meW I G (Dv (FP.i2d (nI t)) 4616189618054758400) (G 66 k) (i + 1) = meW I G (Dv (FP.i2d (nI t)) 4616189618054758400) (G 66 k) i from if_neg (by rw [show meP I G (Dv (FP.i2d (nI t)) 4616189618054758400) i = true from by simp only [meP, (show ¬ I 59 i = 0 from c_86), (show mCompl I G i = true from zB_n0.mp c_95), (show ¬ Op.cmpValue (FP.dcmp (mTold I G i (G 64 0) (G 64 1) (G 64 2)) (Dv (FP.i2d (nI t)) 4616189618054758400)) CmpOp.l < 0 from c_130), not_true_eq_false, not_false_eq_true, decide_true, decide_false, Bool.true_and, Bool.false_and, Bool.and_true, Bool.and_false, Bool.and_self, if_true, if_false, ite_true, ite_false, reduceIte, Bool.false_eq_true]]; simp only [meQ, (show 0 ≤ Op.cmpValue (FP.dcmp (G 58 i) (G 66 k)) CmpOp.g from c_175), not_true_eq_false, not_false_eq_true, decide_true, decide_false, Bool.true_and, Bool.false_and, Bool.and_true, Bool.and_false, Bool.and_self, if_true, if_false, ite_true, ite_false, reduceIte, Bool.false_eq_true])] at ih2
                  exact ih2 _ _ hst ls (lv_sub hl [4, 5, 6, 7, 8, 2, 1, 0] rfl)
                · skip
                  refine lv_iload hx hb dX5_setting_178 (lv_at hl 7 rfl) ?_
                  refine lv_iconst (v := 1) hx hb dX5_setting_180 (by decide) ?_
                  refine lv_iadd hx hb dX5_setting_181 ?_
                  rw [nI_1]
                  refine lv_goto (tgt := 187) hx hb dX5_setting_182 (by decide) ?_
                  refine lv_istore (lv' := [(6, .int (nI (meW I G (Dv (FP.i2d (nI t)) 4616189618054758400) (G 66 k) i + 1))), (5, .int (nI (meC I G (Dv (FP.i2d (nI t)) 4616189618054758400) i + 1))), (8, .int 1), (0, .ref (ad 53)), (1, .int (nI k)), (2, .int a), (3, .int b), (4, .int (nI t)), (7, .int (nI i))]) hx hb dX5_setting_187 hl (by decide) rfl (fun ls hl => ?_)
                  refine lv_iinc (v := nI (i + 1)) (lv' := [(7, .int (nI (i + 1))), (6, .int (nI (meW I G (Dv (FP.i2d (nI t)) 4616189618054758400) (G 66 k) i + 1))), (5, .int (nI (meC I G (Dv (FP.i2d (nI t)) 4616189618054758400) i + 1))), (8, .int 1), (0, .ref (ad 53)), (1, .int (nI k)), (2, .int a), (3, .int b), (4, .int (nI t))]) hx hb dX5_setting_189 hl (k := 8) rfl (nI_1 i) (by decide) rfl (fun ls hl => ?_)
                  refine lv_goto (tgt := 70) hx hb dX5_setting_192 (by decide) ?_
                  have ih2 := ih_lpI (i + 1) (by omega) d0 hd
                  rw [show meC I G (Dv (FP.i2d (nI t)) 4616189618054758400) (i + 1) = meC I G (Dv (FP.i2d (nI t)) 4616189618054758400) i + 1 from if_pos (by simp only [meP, (show ¬ I 59 i = 0 from c_86), (show mCompl I G i = true from zB_n0.mp c_95), (show ¬ Op.cmpValue (FP.dcmp (mTold I G i (G 64 0) (G 64 1) (G 64 2)) (Dv (FP.i2d (nI t)) 4616189618054758400)) CmpOp.l < 0 from c_130), not_true_eq_false, not_false_eq_true, decide_true, decide_false, Bool.true_and, Bool.false_and, Bool.and_true, Bool.and_false, Bool.and_self, if_true, if_false, ite_true, ite_false, reduceIte, Bool.false_eq_true]), show meW I G (Dv (FP.i2d (nI t)) 4616189618054758400) (G 66 k) (i + 1) = meW I G (Dv (FP.i2d (nI t)) 4616189618054758400) (G 66 k) i + 1 from if_pos (by rw [show meP I G (Dv (FP.i2d (nI t)) 4616189618054758400) i = true from by simp only [meP, (show ¬ I 59 i = 0 from c_86), (show mCompl I G i = true from zB_n0.mp c_95), (show ¬ Op.cmpValue (FP.dcmp (mTold I G i (G 64 0) (G 64 1) (G 64 2)) (Dv (FP.i2d (nI t)) 4616189618054758400)) CmpOp.l < 0 from c_130), not_true_eq_false, not_false_eq_true, decide_true, decide_false, Bool.true_and, Bool.false_and, Bool.and_true, Bool.and_false, Bool.and_self, if_true, if_false, ite_true, ite_false, reduceIte, Bool.false_eq_true]]; simp only [meQ, (show ¬ 0 ≤ Op.cmpValue (FP.dcmp (G 58 i) (G 66 k)) CmpOp.g from c_175), not_true_eq_false, not_false_eq_true, decide_true, decide_false, Bool.true_and, Bool.false_and, Bool.and_true, Bool.and_false, Bool.and_self, if_true, if_false, ite_true, ite_false, reduceIte, Bool.false_eq_true])] at ih2
                  exact ih2 _ _ hst ls (lv_sub hl [4, 5, 6, 7, 8, 2, 1, 0] rfl)
      exact lpI n 0 (by omega) d0 hd _ _ hst ls (lv_sub hl [3, 4, 5, 6, 7, 2, 1, 0] rfl)
  exact lpO 201 0 (by omega) rfl d0 hd _ _ hst ls (lv_sub hl [1, 2, 3, 4, 0] rfl)

set_option maxHeartbeats 4000000 in
set_option maxRecDepth 100000 in
theorem x1_X5_setting {l : Launch} {D : va_G} {cy ad : Nat → Nat} {I : Im} {G : Dm} {J : Jm} (hadI : adI ad) {v a b : Int32} (hv : v < 0 ∨ ¬ v ≤ 3) : kM l yX5_setting (.code yX5_setting cX5_setting 9 (some .int)) (rmK 2 0 0 52) D cy ad [.ref (ad 53), .int v, .int a, .int b] I G J (qI D cy ad 0 (u2 I 53 0 1) G J) := by
  refine start_M hadI (by decide +kernel) (Nat.le_of_ble_eq_true rfl) ?_
  intro p e s m below meth cd am hx hb hr hlk hst ls hl
  have hl : lv_has ls 9 [(0, .ref (ad 53)), (1, .int v), (2, .int a), (3, .int b)] := hl
  refine lv_aload_n hx hb dX5_setting_0 rfl (lv_at hl 0 rfl) ?_
  refine lv_iload_n hx hb dX5_setting_1 rfl (lv_at hl 1 rfl) ?_
  refine lv_if_lt (tgt := 10) hx hb dX5_setting_2 (by decide) (fun c_2 => ?_) (fun c_2 => ?_)
  · skip
    refine lv_iconst (v := 1) hx hb dX5_setting_10 (by decide) ?_
    refine lv_goto (tgt := 40) hx hb dX5_setting_11 (by decide) ?_
    refine w_putI am hst (k := 0) (by decide) (fun _ _ _ => cE_M) rfl inT5 tyX5 tyX5_ok nmX5 (by decide) fRX5_73 (fun _ _ _ => rfl) (fun _ _ _ => Nat.le_of_ble_eq_true rfl) rfl rfl rfl rfl dX5_setting_40 (fun H locs hst => ?_)
    refine lv_iconst (v := 0) hx hb dX5_setting_43 (by decide) ?_
    refine lv_istore (lv' := [(4, .int 0), (0, .ref (ad 53)), (1, .int v), (2, .int a), (3, .int b)]) hx hb dX5_setting_44 hl (by decide) rfl (fun ls hl => ?_)
    refine lv_aload_n hx hb dX5_setting_46 rfl (lv_at hl 1 rfl) ?_
    refine w_getI am hst (k := 0) (by decide) (fun _ _ _ => cE_M) rfl inT5 (by decide) (fun _ _ _ => rfl) fRX5_73 dX5_setting_47 ?_
    rw [show (u2 I 53 0 1) 53 0 = 1 from (u2_eq _ _ _ _)]
    refine lv_if_ne (tgt := 215) hx hb dX5_setting_50 (by decide) (fun c_50 => ?_) (fun c_50 => absurd c_50 ((show ¬ (1 : Int32) = 0 by decide)))
    refine lv_aload_n hx hb dX5_setting_215 rfl (lv_at hl 1 rfl) ?_
    refine w_getI am hst (k := 0) (by decide) (fun _ _ _ => cE_M) rfl inT5 (by decide) (fun _ _ _ => rfl) fRX5_73 dX5_setting_216 ?_
    rw [show (u2 I 53 0 1) 53 0 = 1 from (u2_eq _ _ _ _)]
    refine lv_if_le (tgt := 226) hx hb dX5_setting_219 (by decide) (fun c_219 => absurd c_219 ((show ¬ (1 : Int32) ≤ 0 by decide))) (fun c_219 => ?_)
    refine lv_iconst (v := 0) hx hb dX5_setting_222 (by decide) ?_
    refine lv_goto (tgt := 227) hx hb dX5_setting_223 (by decide) ?_
    exact e_i hx hb hr hlk hst rfl rfl dX5_setting_227
  · skip
    refine lv_iload_n hx hb dX5_setting_5 rfl (lv_at hl 1 rfl) ?_
    refine lv_iconst (v := 3) hx hb dX5_setting_6 (by decide) ?_
    refine lv_icmp_le (tgt := 14) hx hb dX5_setting_7 (by decide) (fun c_7 => absurd c_7 (hv.resolve_left c_2)) (fun c_7 => ?_)
    refine lv_iconst (v := 1) hx hb dX5_setting_10 (by decide) ?_
    refine lv_goto (tgt := 40) hx hb dX5_setting_11 (by decide) ?_
    refine w_putI am hst (k := 0) (by decide) (fun _ _ _ => cE_M) rfl inT5 tyX5 tyX5_ok nmX5 (by decide) fRX5_73 (fun _ _ _ => rfl) (fun _ _ _ => Nat.le_of_ble_eq_true rfl) rfl rfl rfl rfl dX5_setting_40 (fun H locs hst => ?_)
    refine lv_iconst (v := 0) hx hb dX5_setting_43 (by decide) ?_
    refine lv_istore (lv' := [(4, .int 0), (0, .ref (ad 53)), (1, .int v), (2, .int a), (3, .int b)]) hx hb dX5_setting_44 hl (by decide) rfl (fun ls hl => ?_)
    refine lv_aload_n hx hb dX5_setting_46 rfl (lv_at hl 1 rfl) ?_
    refine w_getI am hst (k := 0) (by decide) (fun _ _ _ => cE_M) rfl inT5 (by decide) (fun _ _ _ => rfl) fRX5_73 dX5_setting_47 ?_
    rw [show (u2 I 53 0 1) 53 0 = 1 from (u2_eq _ _ _ _)]
    refine lv_if_ne (tgt := 215) hx hb dX5_setting_50 (by decide) (fun c_50 => ?_) (fun c_50 => absurd c_50 ((show ¬ (1 : Int32) = 0 by decide)))
    refine lv_aload_n hx hb dX5_setting_215 rfl (lv_at hl 1 rfl) ?_
    refine w_getI am hst (k := 0) (by decide) (fun _ _ _ => cE_M) rfl inT5 (by decide) (fun _ _ _ => rfl) fRX5_73 dX5_setting_216 ?_
    rw [show (u2 I 53 0 1) 53 0 = 1 from (u2_eq _ _ _ _)]
    refine lv_if_le (tgt := 226) hx hb dX5_setting_219 (by decide) (fun c_219 => absurd c_219 ((show ¬ (1 : Int32) ≤ 0 by decide))) (fun c_219 => ?_)
    refine lv_iconst (v := 0) hx hb dX5_setting_222 (by decide) ?_
    refine lv_goto (tgt := 227) hx hb dX5_setting_223 (by decide) ?_
    exact e_i hx hb hr hlk hst rfl rfl dX5_setting_227

set_option maxHeartbeats 4000000 in
set_option maxRecDepth 100000 in
theorem x2_X5_setting {l : Launch} {D : va_G} {cy ad : Nat → Nat} {I : Im} {G : Dm} {J : Jm} (hadI : adI ad) {k : Nat} (hk : k < 4) {a b : Int32} (hin : bShare a b 1000 = false) : kM l yX5_setting (.code yX5_setting cX5_setting 9 (some .int)) (rmK 2 0 0 52) D cy ad [.ref (ad 53), .int (nI k), .int a, .int b] I G J (qI D cy ad 0 (u2 I 53 0 2) G J) := by
  refine start_M hadI (by decide +kernel) (Nat.le_of_ble_eq_true rfl) ?_
  intro p e s m below meth cd am hx hb hr hlk hst ls hl
  have hl : lv_has ls 9 [(0, .ref (ad 53)), (1, .int (nI k)), (2, .int a), (3, .int b)] := hl
  refine lv_aload_n hx hb dX5_setting_0 rfl (lv_at hl 0 rfl) ?_
  refine lv_iload_n hx hb dX5_setting_1 rfl (lv_at hl 1 rfl) ?_
  refine lv_if_lt (tgt := 10) hx hb dX5_setting_2 (by decide) (fun c_2 => absurd c_2 (nI_pos (by omega))) (fun c_2 => ?_)
  refine lv_iload_n hx hb dX5_setting_5 rfl (lv_at hl 1 rfl) ?_
  refine lv_iconst (v := 3) hx hb dX5_setting_6 (by decide) ?_
  refine lv_icmp_le (tgt := 14) hx hb dX5_setting_7 (by decide) (fun c_7 => ?_) (fun c_7 => absurd (nI_le (b := 3) (by omega) (by omega)) c_7)
  refine lv_iload_n hx hb dX5_setting_14 rfl (lv_at hl 3 rfl) ?_
  refine lv_iconst (v := 1) hx hb dX5_setting_15 (by decide) ?_
  refine lv_icmp_lt (tgt := 39) hx hb dX5_setting_16 (by decide) (fun c_16 => ?_) (fun c_16 => ?_)
  · skip
    refine lv_iconst (v := 2) hx hb dX5_setting_39 (by decide) ?_
    refine w_putI am hst (k := 0) (by decide) (fun _ _ _ => cE_M) rfl inT5 tyX5 tyX5_ok nmX5 (by decide) fRX5_73 (fun _ _ _ => rfl) (fun _ _ _ => Nat.le_of_ble_eq_true rfl) rfl rfl rfl rfl dX5_setting_40 (fun H locs hst => ?_)
    refine lv_iconst (v := 0) hx hb dX5_setting_43 (by decide) ?_
    refine lv_istore (lv' := [(4, .int 0), (0, .ref (ad 53)), (1, .int (nI k)), (2, .int a), (3, .int b)]) hx hb dX5_setting_44 hl (by decide) rfl (fun ls hl => ?_)
    refine lv_aload_n hx hb dX5_setting_46 rfl (lv_at hl 1 rfl) ?_
    refine w_getI am hst (k := 0) (by decide) (fun _ _ _ => cE_M) rfl inT5 (by decide) (fun _ _ _ => rfl) fRX5_73 dX5_setting_47 ?_
    rw [show (u2 I 53 0 2) 53 0 = 2 from (u2_eq _ _ _ _)]
    refine lv_if_ne (tgt := 215) hx hb dX5_setting_50 (by decide) (fun c_50 => ?_) (fun c_50 => absurd c_50 ((show ¬ (2 : Int32) = 0 by decide)))
    refine lv_aload_n hx hb dX5_setting_215 rfl (lv_at hl 1 rfl) ?_
    refine w_getI am hst (k := 0) (by decide) (fun _ _ _ => cE_M) rfl inT5 (by decide) (fun _ _ _ => rfl) fRX5_73 dX5_setting_216 ?_
    rw [show (u2 I 53 0 2) 53 0 = 2 from (u2_eq _ _ _ _)]
    refine lv_if_le (tgt := 226) hx hb dX5_setting_219 (by decide) (fun c_219 => absurd c_219 ((show ¬ (2 : Int32) ≤ 0 by decide))) (fun c_219 => ?_)
    refine lv_iconst (v := 0) hx hb dX5_setting_222 (by decide) ?_
    refine lv_goto (tgt := 227) hx hb dX5_setting_223 (by decide) ?_
    exact e_i hx hb hr hlk hst rfl rfl dX5_setting_227
  · skip
    refine lv_iload_n hx hb dX5_setting_19 rfl (lv_at hl 3 rfl) ?_
    refine lv_sipush (v := 1000) hx hb dX5_setting_20 (by decide) ?_
    refine lv_icmp_gt (tgt := 39) hx hb dX5_setting_23 (by decide) (fun c_23 => ?_) (fun c_23 => ?_)
    · skip
      refine lv_iconst (v := 2) hx hb dX5_setting_39 (by decide) ?_
      refine w_putI am hst (k := 0) (by decide) (fun _ _ _ => cE_M) rfl inT5 tyX5 tyX5_ok nmX5 (by decide) fRX5_73 (fun _ _ _ => rfl) (fun _ _ _ => Nat.le_of_ble_eq_true rfl) rfl rfl rfl rfl dX5_setting_40 (fun H locs hst => ?_)
      refine lv_iconst (v := 0) hx hb dX5_setting_43 (by decide) ?_
      refine lv_istore (lv' := [(4, .int 0), (0, .ref (ad 53)), (1, .int (nI k)), (2, .int a), (3, .int b)]) hx hb dX5_setting_44 hl (by decide) rfl (fun ls hl => ?_)
      refine lv_aload_n hx hb dX5_setting_46 rfl (lv_at hl 1 rfl) ?_
      refine w_getI am hst (k := 0) (by decide) (fun _ _ _ => cE_M) rfl inT5 (by decide) (fun _ _ _ => rfl) fRX5_73 dX5_setting_47 ?_
      rw [show (u2 I 53 0 2) 53 0 = 2 from (u2_eq _ _ _ _)]
      refine lv_if_ne (tgt := 215) hx hb dX5_setting_50 (by decide) (fun c_50 => ?_) (fun c_50 => absurd c_50 ((show ¬ (2 : Int32) = 0 by decide)))
      refine lv_aload_n hx hb dX5_setting_215 rfl (lv_at hl 1 rfl) ?_
      refine w_getI am hst (k := 0) (by decide) (fun _ _ _ => cE_M) rfl inT5 (by decide) (fun _ _ _ => rfl) fRX5_73 dX5_setting_216 ?_
      rw [show (u2 I 53 0 2) 53 0 = 2 from (u2_eq _ _ _ _)]
      refine lv_if_le (tgt := 226) hx hb dX5_setting_219 (by decide) (fun c_219 => absurd c_219 ((show ¬ (2 : Int32) ≤ 0 by decide))) (fun c_219 => ?_)
      refine lv_iconst (v := 0) hx hb dX5_setting_222 (by decide) ?_
      refine lv_goto (tgt := 227) hx hb dX5_setting_223 (by decide) ?_
      exact e_i hx hb hr hlk hst rfl rfl dX5_setting_227
    · skip
      refine lv_iload_n hx hb dX5_setting_26 rfl (lv_at hl 2 rfl) ?_
      refine lv_if_lt (tgt := 39) hx hb dX5_setting_27 (by decide) (fun c_27 => ?_) (fun c_27 => ?_)
      · skip
        refine lv_iconst (v := 2) hx hb dX5_setting_39 (by decide) ?_
        refine w_putI am hst (k := 0) (by decide) (fun _ _ _ => cE_M) rfl inT5 tyX5 tyX5_ok nmX5 (by decide) fRX5_73 (fun _ _ _ => rfl) (fun _ _ _ => Nat.le_of_ble_eq_true rfl) rfl rfl rfl rfl dX5_setting_40 (fun H locs hst => ?_)
        refine lv_iconst (v := 0) hx hb dX5_setting_43 (by decide) ?_
        refine lv_istore (lv' := [(4, .int 0), (0, .ref (ad 53)), (1, .int (nI k)), (2, .int a), (3, .int b)]) hx hb dX5_setting_44 hl (by decide) rfl (fun ls hl => ?_)
        refine lv_aload_n hx hb dX5_setting_46 rfl (lv_at hl 1 rfl) ?_
        refine w_getI am hst (k := 0) (by decide) (fun _ _ _ => cE_M) rfl inT5 (by decide) (fun _ _ _ => rfl) fRX5_73 dX5_setting_47 ?_
        rw [show (u2 I 53 0 2) 53 0 = 2 from (u2_eq _ _ _ _)]
        refine lv_if_ne (tgt := 215) hx hb dX5_setting_50 (by decide) (fun c_50 => ?_) (fun c_50 => absurd c_50 ((show ¬ (2 : Int32) = 0 by decide)))
        refine lv_aload_n hx hb dX5_setting_215 rfl (lv_at hl 1 rfl) ?_
        refine w_getI am hst (k := 0) (by decide) (fun _ _ _ => cE_M) rfl inT5 (by decide) (fun _ _ _ => rfl) fRX5_73 dX5_setting_216 ?_
        rw [show (u2 I 53 0 2) 53 0 = 2 from (u2_eq _ _ _ _)]
        refine lv_if_le (tgt := 226) hx hb dX5_setting_219 (by decide) (fun c_219 => absurd c_219 ((show ¬ (2 : Int32) ≤ 0 by decide))) (fun c_219 => ?_)
        refine lv_iconst (v := 0) hx hb dX5_setting_222 (by decide) ?_
        refine lv_goto (tgt := 227) hx hb dX5_setting_223 (by decide) ?_
        exact e_i hx hb hr hlk hst rfl rfl dX5_setting_227
      · skip
        refine lv_iload_n hx hb dX5_setting_30 rfl (lv_at hl 2 rfl) ?_
        refine lv_iload_n hx hb dX5_setting_31 rfl (lv_at hl 3 rfl) ?_
        refine lv_icmp_gt (tgt := 39) hx hb dX5_setting_32 (by decide) (fun c_32 => ?_) (fun c_32 => absurd (((((bShN hin).resolve_left c_16).resolve_left c_23).resolve_left c_27)) c_32)
        refine lv_iconst (v := 2) hx hb dX5_setting_39 (by decide) ?_
        refine w_putI am hst (k := 0) (by decide) (fun _ _ _ => cE_M) rfl inT5 tyX5 tyX5_ok nmX5 (by decide) fRX5_73 (fun _ _ _ => rfl) (fun _ _ _ => Nat.le_of_ble_eq_true rfl) rfl rfl rfl rfl dX5_setting_40 (fun H locs hst => ?_)
        refine lv_iconst (v := 0) hx hb dX5_setting_43 (by decide) ?_
        refine lv_istore (lv' := [(4, .int 0), (0, .ref (ad 53)), (1, .int (nI k)), (2, .int a), (3, .int b)]) hx hb dX5_setting_44 hl (by decide) rfl (fun ls hl => ?_)
        refine lv_aload_n hx hb dX5_setting_46 rfl (lv_at hl 1 rfl) ?_
        refine w_getI am hst (k := 0) (by decide) (fun _ _ _ => cE_M) rfl inT5 (by decide) (fun _ _ _ => rfl) fRX5_73 dX5_setting_47 ?_
        rw [show (u2 I 53 0 2) 53 0 = 2 from (u2_eq _ _ _ _)]
        refine lv_if_ne (tgt := 215) hx hb dX5_setting_50 (by decide) (fun c_50 => ?_) (fun c_50 => absurd c_50 ((show ¬ (2 : Int32) = 0 by decide)))
        refine lv_aload_n hx hb dX5_setting_215 rfl (lv_at hl 1 rfl) ?_
        refine w_getI am hst (k := 0) (by decide) (fun _ _ _ => cE_M) rfl inT5 (by decide) (fun _ _ _ => rfl) fRX5_73 dX5_setting_216 ?_
        rw [show (u2 I 53 0 2) 53 0 = 2 from (u2_eq _ _ _ _)]
        refine lv_if_le (tgt := 226) hx hb dX5_setting_219 (by decide) (fun c_219 => absurd c_219 ((show ¬ (2 : Int32) ≤ 0 by decide))) (fun c_219 => ?_)
        refine lv_iconst (v := 0) hx hb dX5_setting_222 (by decide) ?_
        refine lv_goto (tgt := 227) hx hb dX5_setting_223 (by decide) ?_
        exact e_i hx hb hr hlk hst rfl rfl dX5_setting_227

set_option maxHeartbeats 4000000 in
set_option maxRecDepth 100000 in
theorem k_X5_odds {l : Launch} {D : va_G} {cy ad : Nat → Nat} {I : Im} {G : Dm} {J : Jm} (hadI : adI ad) {N u : Nat} {a b pt : Int32} (hp : pt = 0 ∨ pt = 1) (hN : N ≤ 12) (hu : u < 2 ^ 31) (hin : bShare a b 16 = true) (hT0 : gT 1000 (oddF N u a b) (oddA N b)) (hg : ¬ gE 1000 (oddF N u a b) (oddA N b) = 0) : kM l yX5_odds (.code yX5_odds cX5_odds 17 (some .long)) (rmK 1 0 0 25) D cy ad [.ref (ad 53), .int (nI N), .int (nI u), .int a, .int b, .int pt] I G J (qL D cy ad (oddM N u a b pt) (u2 I 53 0 0) G J) := by
  refine start_M hadI (by decide +kernel) (Nat.le_of_ble_eq_true rfl) ?_
  intro p e s m below meth cd am hx hb hr hlk hst ls hl
  have hl : lv_has ls 17 [(0, .ref (ad 53)), (1, .int (nI N)), (2, .int (nI u)), (3, .int a), (4, .int b), (5, .int pt)] := hl
  refine lv_iload_n hx hb dX5_odds_0 rfl (lv_at hl 1 rfl) ?_
  refine lv_if_lt (tgt := 41) hx hb dX5_odds_1 (by decide) (fun c_1 => absurd c_1 (nI_pos (by omega))) (fun c_1 => ?_)
  refine lv_iload_n hx hb dX5_odds_4 rfl (lv_at hl 1 rfl) ?_
  refine lv_bipush (v := 12) hx hb dX5_odds_5 (by decide) ?_
  refine lv_icmp_gt (tgt := 41) hx hb dX5_odds_7 (by decide) (fun c_7 => absurd c_7 (nI_nlt (a := 12) (by omega) (by omega))) (fun c_7 => ?_)
  refine lv_iload_n hx hb dX5_odds_10 rfl (lv_at hl 2 rfl) ?_
  refine lv_if_lt (tgt := 41) hx hb dX5_odds_11 (by decide) (fun c_11 => absurd c_11 (nI_pos (by omega))) (fun c_11 => ?_)
  refine lv_iload hx hb dX5_odds_14 (lv_at hl 4 rfl) ?_
  refine lv_iconst (v := 1) hx hb dX5_odds_16 (by decide) ?_
  refine lv_icmp_lt (tgt := 41) hx hb dX5_odds_17 (by decide) (fun c_17 => absurd c_17 ((bSh hin).1)) (fun c_17 => ?_)
  refine lv_iload hx hb dX5_odds_20 (lv_at hl 4 rfl) ?_
  refine lv_bipush (v := 16) hx hb dX5_odds_22 (by decide) ?_
  refine lv_icmp_gt (tgt := 41) hx hb dX5_odds_24 (by decide) (fun c_24 => absurd c_24 ((bSh hin).2.1)) (fun c_24 => ?_)
  refine lv_iload_n hx hb dX5_odds_27 rfl (lv_at hl 3 rfl) ?_
  refine lv_if_lt (tgt := 41) hx hb dX5_odds_28 (by decide) (fun c_28 => absurd c_28 ((bSh hin).2.2.1)) (fun c_28 => ?_)
  refine lv_iload_n hx hb dX5_odds_31 rfl (lv_at hl 3 rfl) ?_
  refine lv_iload hx hb dX5_odds_32 (lv_at hl 4 rfl) ?_
  refine lv_icmp_gt (tgt := 41) hx hb dX5_odds_34 (by decide) (fun c_34 => absurd c_34 ((bSh hin).2.2.2)) (fun c_34 => ?_)
  refine lv_iconst (v := 1) hx hb dX5_odds_37 (by decide) ?_
  refine lv_goto (tgt := 42) hx hb dX5_odds_38 (by decide) ?_
  refine lv_istore (lv' := [(6, .int 1), (0, .ref (ad 53)), (1, .int (nI N)), (2, .int (nI u)), (3, .int a), (4, .int b), (5, .int pt)]) hx hb dX5_odds_42 hl (by decide) rfl (fun ls hl => ?_)
  refine lv_aload_n hx hb dX5_odds_44 rfl (lv_at hl 1 rfl) ?_
  refine lv_iload hx hb dX5_odds_45 (lv_at hl 6 rfl) ?_
  refine lv_if_eq (tgt := 60) hx hb dX5_odds_47 (by decide) (fun c_47 => ?_) (fun c_47 => ?_)
  · skip
    refine lv_iload hx hb dX5_odds_60 (lv_at hl 0 rfl) ?_
    refine lv_if_eq (tgt := 69) hx hb dX5_odds_62 (by decide) (fun c_62 => absurd c_62 ((show ¬ (1 : Int32) = 0 by decide))) (fun c_62 => ?_)
    refine lv_iconst (v := 0) hx hb dX5_odds_65 (by decide) ?_
    refine lv_goto (tgt := 70) hx hb dX5_odds_66 (by decide) ?_
    refine w_putI am hst (k := 0) (by decide) (fun _ _ _ => cE_M) rfl inT5 tyX5 tyX5_ok nmX5 (by decide) fRX5_73 (fun _ _ _ => rfl) (fun _ _ _ => Nat.le_of_ble_eq_true rfl) rfl rfl rfl rfl dX5_odds_70 (fun H locs hst => ?_)
    refine lv_aload_n hx hb dX5_odds_73 rfl (lv_at hl 1 rfl) ?_
    refine w_getI am hst (k := 0) (by decide) (fun _ _ _ => cE_M) rfl inT5 (by decide) (fun _ _ _ => rfl) fRX5_73 dX5_odds_74 ?_
    rw [show (u2 I 53 0 0) 53 0 = 0 from (u2_eq _ _ _ _)]
    refine lv_if_le (tgt := 82) hx hb dX5_odds_77 (by decide) (fun c_77 => ?_) (fun c_77 => absurd ((show (0 : Int32) ≤ 0 by decide)) c_77)
    refine lv_lconst (v := 0) hx hb dX5_odds_82 (by decide) ?_
    refine lv_lstore (lv' := [(7, .long 0), (6, .int 1), (0, .ref (ad 53)), (1, .int (nI N)), (2, .int (nI u)), (3, .int a), (4, .int b), (5, .int pt)]) hx hb dX5_odds_83 hl (by decide) rfl (fun ls hl => ?_)
    refine lv_lconst (v := 1) hx hb dX5_odds_85 (by decide) ?_
    refine lv_lstore (lv' := [(9, .long 1), (7, .long 0), (6, .int 1), (0, .ref (ad 53)), (1, .int (nI N)), (2, .int (nI u)), (3, .int a), (4, .int b), (5, .int pt)]) hx hb dX5_odds_86 hl (by decide) rfl (fun ls hl => ?_)
    refine lv_iconst (v := 0) hx hb dX5_odds_88 (by decide) ?_
    refine lv_istore (lv' := [(11, .int 0), (9, .long 1), (7, .long 0), (6, .int 1), (0, .ref (ad 53)), (1, .int (nI N)), (2, .int (nI u)), (3, .int a), (4, .int b), (5, .int pt)]) hx hb dX5_odds_89 hl (by decide) rfl (fun ls hl => ?_)
    have lpS : ∀ (q9 j : Nat), q9 + j = (min N u + 1) → ∀ (H : Heap) (locs : List Loc), St D cy ad s.heap (u2 I 53 0 0) G J H locs → ∀ ls, lv_has ls 17 [(0, .ref (ad 53)), (1, .int (nI N)), (2, .int (nI u)), (3, .int a), (4, .int b), (5, .int pt), (7, .long (wfS N a.toInt64 (b - a).toInt64 j)), (9, .long (wfC N j)), (11, .int (nI j))] → W p l e (rmK 1 0 0 25) (s.setDrawn s.drawn) m [.ref (ad 53), .int (nI N), .int (nI u), .int a, .int b, .int pt].toArray below meth cd H locs 0 0 (MQ below (qL D cy ad (oddM N u a b pt) (u2 I 53 0 0) G J s.heap.size) [.ref (ad 53), .int (nI N), .int (nI u), .int a, .int b, .int pt].toArray s ((rmK 1 0 0 25)).cells ((rmK 1 0 0 25)).slots (aA ad s.heap.size)) (F0 m 91 ls []) := by
      intro q9
      induction q9 with
      | zero =>
        intro j hi H locs hst ls hl
        obtain rfl : (min N u + 1) = j := by omega
        rcases Nat.lt_or_ge u N with q | q
        · skip
          refine lv_iload hx hb dX5_odds_91 (lv_at hl 8 rfl) ?_
          refine lv_iload_n hx hb dX5_odds_93 rfl (lv_at hl 1 rfl) ?_
          refine lv_icmp_gt (tgt := 153) hx hb dX5_odds_94 (by decide) (fun c_94 => absurd c_94 ((nI_nlt (by omega) (by omega)))) (fun c_94 => ?_)
          refine lv_iload hx hb dX5_odds_97 (lv_at hl 8 rfl) ?_
          refine lv_iload_n hx hb dX5_odds_99 rfl (lv_at hl 2 rfl) ?_
          refine lv_icmp_gt (tgt := 153) hx hb dX5_odds_100 (by decide) (fun c_100 => ?_) (fun c_100 => absurd ((nI_lt (by omega) (by omega))) c_100)
          refine lv_lload hx hb dX5_odds_153 (lv_at hl 6 rfl) ?_
          refine lv_lstore (lv' := [(11, .long (wfS N a.toInt64 (b - a).toInt64 ((min N u + 1)))), (0, .ref (ad 53)), (1, .int (nI N)), (2, .int (nI u)), (3, .int a), (4, .int b), (5, .int pt), (7, .long (wfS N a.toInt64 (b - a).toInt64 ((min N u + 1)))), (9, .long (wfC N ((min N u + 1))))]) hx hb dX5_odds_155 hl (by decide) rfl (fun ls hl => ?_)
          refine lv_iload hx hb dX5_odds_157 (lv_at hl 5 rfl) ?_
          refine lv_i2l hx hb dX5_odds_159 rfl ?_
          refine lv_iload_n hx hb dX5_odds_160 rfl (lv_at hl 2 rfl) ?_
          refine c_l hst (r_S (As := [.long ((b).toInt64), .int (nI N)]) (rest := []) am hst hl (k_X5_power hadI (N := N) (by omega)) kRX5_118 smX5_power ⟨Nat.le_of_ble_eq_true rfl, Nat.le_of_ble_eq_true rfl⟩ rfl rfl (Nat.le_of_ble_eq_true rfl) dX5_odds_161 ⟨Nat.le_of_ble_eq_true rfl, Nat.le_of_ble_eq_true rfl⟩) (fun H locs hst => ?_)
          refine lv_lstore (lv' := [(13, .long (powL ((b).toInt64) N)), (11, .long (wfS N a.toInt64 (b - a).toInt64 ((min N u + 1)))), (0, .ref (ad 53)), (1, .int (nI N)), (2, .int (nI u)), (3, .int a), (4, .int b), (5, .int pt), (7, .long (wfS N a.toInt64 (b - a).toInt64 ((min N u + 1)))), (9, .long (wfC N ((min N u + 1))))]) hx hb dX5_odds_164 hl (by decide) rfl (fun ls hl => ?_)
          have lpG : ∀ (q8 j : Nat), q8 + j = 1000 → ∀ x y : Int64, gT q8 x y → gE q8 x y = gE 1000 (oddF N u a b) (oddA N b) → ∀ (H : Heap) (locs : List Loc), St D cy ad s.heap (u2 I 53 0 0) G J H locs → ∀ ls, lv_has ls 17 [(0, .ref (ad 53)), (1, .int (nI N)), (2, .int (nI u)), (3, .int a), (4, .int b), (5, .int pt), (7, .long (wfS N a.toInt64 (b - a).toInt64 ((min N u + 1)))), (11, .long x), (13, .long y)] → W p l e (rmK 1 0 0 25) (s.setDrawn s.drawn) m [.ref (ad 53), .int (nI N), .int (nI u), .int a, .int b, .int pt].toArray below meth cd H locs 0 0 (MQ below (qL D cy ad (oddM N u a b pt) (u2 I 53 0 0) G J s.heap.size) [.ref (ad 53), .int (nI N), .int (nI u), .int a, .int b, .int pt].toArray s ((rmK 1 0 0 25)).cells ((rmK 1 0 0 25)).slots (aA ad s.heap.size)) (F0 m 166 ls []) := by
            intro q8
            induction q8 with
            | zero =>
              intro j hi x y hT hR H locs hst ls hl
              obtain rfl : 1000 = j := by omega
              exact hT.elim
            | succ q8 ih_lpG =>
              intro j hi x y hT hR H locs hst ls hl
              refine lv_lload hx hb dX5_odds_166 (lv_at hl 8 rfl) ?_
              refine lv_lconst (v := 0) hx hb dX5_odds_168 (by decide) ?_
              refine W.lcmp hx hb dX5_odds_169 ?_
              refine lv_if_eq (tgt := 191) hx hb dX5_odds_170 (by decide) (fun c_170 => ?_) (fun c_170 => ?_)
              · skip
                refine lv_iload hx hb dX5_odds_191 (lv_at hl 5 rfl) ?_
                refine lv_if_ne (tgt := 204) hx hb dX5_odds_193 (by decide) (fun c_193 => ?_) (fun c_193 => ?_)
                · skip
                  refine lv_iload hx hb dX5_odds_204 (lv_at hl 4 rfl) ?_
                  refine lv_i2l hx hb dX5_odds_206 rfl ?_
                  refine lv_iload_n hx hb dX5_odds_207 rfl (lv_at hl 1 rfl) ?_
                  refine c_l hst (r_S (As := [.long ((b).toInt64), .int (nI N)]) (rest := []) am hst hl (k_X5_power hadI (N := N) (by omega)) kRX5_118 smX5_power ⟨Nat.le_of_ble_eq_true rfl, Nat.le_of_ble_eq_true rfl⟩ rfl rfl (Nat.le_of_ble_eq_true rfl) dX5_odds_208 ⟨Nat.le_of_ble_eq_true rfl, Nat.le_of_ble_eq_true rfl⟩) (fun H locs hst => ?_)
                  refine lv_lload hx hb dX5_odds_211 (lv_at hl 7 rfl) ?_
                  refine lv_ldiv hx hb dX5_odds_213 (fun h => hg (by rw [← hR, gE, if_pos (lg_cmp0.mp c_170)]; exact h)) ?_
                  exact e_l hx hb hr hlk hst (by rw [oddM, ← hR, gE, if_pos (lg_cmp0.mp c_170), if_neg c_193]; rfl) dX5_odds_214
                · skip
                  refine lv_lload hx hb dX5_odds_196 (lv_at hl 6 rfl) ?_
                  refine lv_lload hx hb dX5_odds_198 (lv_at hl 7 rfl) ?_
                  refine lv_ldiv hx hb dX5_odds_200 (fun h => hg (by rw [← hR, gE, if_pos (lg_cmp0.mp c_170)]; exact h)) ?_
                  refine lv_goto (tgt := 214) hx hb dX5_odds_201 (by decide) ?_
                  exact e_l hx hb hr hlk hst (by rw [oddM, ← hR, gE, if_pos (lg_cmp0.mp c_170), if_pos c_193]; rfl) dX5_odds_214
              · skip
                refine lv_lload hx hb dX5_odds_173 (lv_at hl 7 rfl) ?_
                refine lv_lload hx hb dX5_odds_175 (lv_at hl 8 rfl) ?_
                refine lv_lrem hx hb dX5_odds_177 (fun h => c_170 (lg_cmp0.mpr h)) ?_
                refine lv_lstore (lv' := [(15, .long (x - x / y * y)), (0, .ref (ad 53)), (1, .int (nI N)), (2, .int (nI u)), (3, .int a), (4, .int b), (5, .int pt), (7, .long (wfS N a.toInt64 (b - a).toInt64 ((min N u + 1)))), (11, .long x), (13, .long y)]) hx hb dX5_odds_178 hl (by decide) rfl (fun ls hl => ?_)
                refine lv_lload hx hb dX5_odds_180 (lv_at hl 9 rfl) ?_
                refine lv_lstore (lv' := [(11, .long y), (15, .long (x - x / y * y)), (0, .ref (ad 53)), (1, .int (nI N)), (2, .int (nI u)), (3, .int a), (4, .int b), (5, .int pt), (7, .long (wfS N a.toInt64 (b - a).toInt64 ((min N u + 1)))), (13, .long y)]) hx hb dX5_odds_182 hl (by decide) rfl (fun ls hl => ?_)
                refine lv_lload hx hb dX5_odds_184 (lv_at hl 1 rfl) ?_
                refine lv_lstore (lv' := [(13, .long (x - x / y * y)), (11, .long y), (15, .long (x - x / y * y)), (0, .ref (ad 53)), (1, .int (nI N)), (2, .int (nI u)), (3, .int a), (4, .int b), (5, .int pt), (7, .long (wfS N a.toInt64 (b - a).toInt64 ((min N u + 1))))]) hx hb dX5_odds_186 hl (by decide) rfl (fun ls hl => ?_)
                refine lv_goto (tgt := 166) hx hb dX5_odds_188 (by decide) ?_
                exact ih_lpG (j + 1) (by omega) _ _ (hT.resolve_left (fun h => c_170 (lg_cmp0.mpr h))) (by rw [← hR]; exact (if_neg (fun h => c_170 (lg_cmp0.mpr h))).symm) _ _ hst ls (lv_sub hl [3, 4, 5, 6, 7, 8, 9, 1, 0] rfl)
          exact lpG 1000 0 (by omega) _ _ hT0 rfl _ _ hst ls (lv_sub hl [2, 3, 4, 5, 6, 7, 8, 1, 0] rfl)
        · skip
          refine lv_iload hx hb dX5_odds_91 (lv_at hl 8 rfl) ?_
          refine lv_iload_n hx hb dX5_odds_93 rfl (lv_at hl 1 rfl) ?_
          refine lv_icmp_gt (tgt := 153) hx hb dX5_odds_94 (by decide) (fun c_94 => ?_) (fun c_94 => absurd ((nI_lt (by omega) (by omega))) c_94)
          refine lv_lload hx hb dX5_odds_153 (lv_at hl 6 rfl) ?_
          refine lv_lstore (lv' := [(11, .long (wfS N a.toInt64 (b - a).toInt64 ((min N u + 1)))), (0, .ref (ad 53)), (1, .int (nI N)), (2, .int (nI u)), (3, .int a), (4, .int b), (5, .int pt), (7, .long (wfS N a.toInt64 (b - a).toInt64 ((min N u + 1)))), (9, .long (wfC N ((min N u + 1))))]) hx hb dX5_odds_155 hl (by decide) rfl (fun ls hl => ?_)
          refine lv_iload hx hb dX5_odds_157 (lv_at hl 5 rfl) ?_
          refine lv_i2l hx hb dX5_odds_159 rfl ?_
          refine lv_iload_n hx hb dX5_odds_160 rfl (lv_at hl 2 rfl) ?_
          refine c_l hst (r_S (As := [.long ((b).toInt64), .int (nI N)]) (rest := []) am hst hl (k_X5_power hadI (N := N) (by omega)) kRX5_118 smX5_power ⟨Nat.le_of_ble_eq_true rfl, Nat.le_of_ble_eq_true rfl⟩ rfl rfl (Nat.le_of_ble_eq_true rfl) dX5_odds_161 ⟨Nat.le_of_ble_eq_true rfl, Nat.le_of_ble_eq_true rfl⟩) (fun H locs hst => ?_)
          refine lv_lstore (lv' := [(13, .long (powL ((b).toInt64) N)), (11, .long (wfS N a.toInt64 (b - a).toInt64 ((min N u + 1)))), (0, .ref (ad 53)), (1, .int (nI N)), (2, .int (nI u)), (3, .int a), (4, .int b), (5, .int pt), (7, .long (wfS N a.toInt64 (b - a).toInt64 ((min N u + 1)))), (9, .long (wfC N ((min N u + 1))))]) hx hb dX5_odds_164 hl (by decide) rfl (fun ls hl => ?_)
          have lpG : ∀ (q8 j : Nat), q8 + j = 1000 → ∀ x y : Int64, gT q8 x y → gE q8 x y = gE 1000 (oddF N u a b) (oddA N b) → ∀ (H : Heap) (locs : List Loc), St D cy ad s.heap (u2 I 53 0 0) G J H locs → ∀ ls, lv_has ls 17 [(0, .ref (ad 53)), (1, .int (nI N)), (2, .int (nI u)), (3, .int a), (4, .int b), (5, .int pt), (7, .long (wfS N a.toInt64 (b - a).toInt64 ((min N u + 1)))), (11, .long x), (13, .long y)] → W p l e (rmK 1 0 0 25) (s.setDrawn s.drawn) m [.ref (ad 53), .int (nI N), .int (nI u), .int a, .int b, .int pt].toArray below meth cd H locs 0 0 (MQ below (qL D cy ad (oddM N u a b pt) (u2 I 53 0 0) G J s.heap.size) [.ref (ad 53), .int (nI N), .int (nI u), .int a, .int b, .int pt].toArray s ((rmK 1 0 0 25)).cells ((rmK 1 0 0 25)).slots (aA ad s.heap.size)) (F0 m 166 ls []) := by
            intro q8
            induction q8 with
            | zero =>
              intro j hi x y hT hR H locs hst ls hl
              obtain rfl : 1000 = j := by omega
              exact hT.elim
            | succ q8 ih_lpG =>
              intro j hi x y hT hR H locs hst ls hl
              refine lv_lload hx hb dX5_odds_166 (lv_at hl 8 rfl) ?_
              refine lv_lconst (v := 0) hx hb dX5_odds_168 (by decide) ?_
              refine W.lcmp hx hb dX5_odds_169 ?_
              refine lv_if_eq (tgt := 191) hx hb dX5_odds_170 (by decide) (fun c_170 => ?_) (fun c_170 => ?_)
              · skip
                refine lv_iload hx hb dX5_odds_191 (lv_at hl 5 rfl) ?_
                refine lv_if_ne (tgt := 204) hx hb dX5_odds_193 (by decide) (fun c_193 => ?_) (fun c_193 => ?_)
                · skip
                  refine lv_iload hx hb dX5_odds_204 (lv_at hl 4 rfl) ?_
                  refine lv_i2l hx hb dX5_odds_206 rfl ?_
                  refine lv_iload_n hx hb dX5_odds_207 rfl (lv_at hl 1 rfl) ?_
                  refine c_l hst (r_S (As := [.long ((b).toInt64), .int (nI N)]) (rest := []) am hst hl (k_X5_power hadI (N := N) (by omega)) kRX5_118 smX5_power ⟨Nat.le_of_ble_eq_true rfl, Nat.le_of_ble_eq_true rfl⟩ rfl rfl (Nat.le_of_ble_eq_true rfl) dX5_odds_208 ⟨Nat.le_of_ble_eq_true rfl, Nat.le_of_ble_eq_true rfl⟩) (fun H locs hst => ?_)
                  refine lv_lload hx hb dX5_odds_211 (lv_at hl 7 rfl) ?_
                  refine lv_ldiv hx hb dX5_odds_213 (fun h => hg (by rw [← hR, gE, if_pos (lg_cmp0.mp c_170)]; exact h)) ?_
                  exact e_l hx hb hr hlk hst (by rw [oddM, ← hR, gE, if_pos (lg_cmp0.mp c_170), if_neg c_193]; rfl) dX5_odds_214
                · skip
                  refine lv_lload hx hb dX5_odds_196 (lv_at hl 6 rfl) ?_
                  refine lv_lload hx hb dX5_odds_198 (lv_at hl 7 rfl) ?_
                  refine lv_ldiv hx hb dX5_odds_200 (fun h => hg (by rw [← hR, gE, if_pos (lg_cmp0.mp c_170)]; exact h)) ?_
                  refine lv_goto (tgt := 214) hx hb dX5_odds_201 (by decide) ?_
                  exact e_l hx hb hr hlk hst (by rw [oddM, ← hR, gE, if_pos (lg_cmp0.mp c_170), if_pos c_193]; rfl) dX5_odds_214
              · skip
                refine lv_lload hx hb dX5_odds_173 (lv_at hl 7 rfl) ?_
                refine lv_lload hx hb dX5_odds_175 (lv_at hl 8 rfl) ?_
                refine lv_lrem hx hb dX5_odds_177 (fun h => c_170 (lg_cmp0.mpr h)) ?_
                refine lv_lstore (lv' := [(15, .long (x - x / y * y)), (0, .ref (ad 53)), (1, .int (nI N)), (2, .int (nI u)), (3, .int a), (4, .int b), (5, .int pt), (7, .long (wfS N a.toInt64 (b - a).toInt64 ((min N u + 1)))), (11, .long x), (13, .long y)]) hx hb dX5_odds_178 hl (by decide) rfl (fun ls hl => ?_)
                refine lv_lload hx hb dX5_odds_180 (lv_at hl 9 rfl) ?_
                refine lv_lstore (lv' := [(11, .long y), (15, .long (x - x / y * y)), (0, .ref (ad 53)), (1, .int (nI N)), (2, .int (nI u)), (3, .int a), (4, .int b), (5, .int pt), (7, .long (wfS N a.toInt64 (b - a).toInt64 ((min N u + 1)))), (13, .long y)]) hx hb dX5_odds_182 hl (by decide) rfl (fun ls hl => ?_)
                refine lv_lload hx hb dX5_odds_184 (lv_at hl 1 rfl) ?_
                refine lv_lstore (lv' := [(13, .long (x - x / y * y)), (11, .long y), (15, .long (x - x / y * y)), (0, .ref (ad 53)), (1, .int (nI N)), (2, .int (nI u)), (3, .int a), (4, .int b), (5, .int pt), (7, .long (wfS N a.toInt64 (b - a).toInt64 ((min N u + 1))))]) hx hb dX5_odds_186 hl (by decide) rfl (fun ls hl => ?_)
                refine lv_goto (tgt := 166) hx hb dX5_odds_188 (by decide) ?_
                exact ih_lpG (j + 1) (by omega) _ _ (hT.resolve_left (fun h => c_170 (lg_cmp0.mpr h))) (by rw [← hR]; exact (if_neg (fun h => c_170 (lg_cmp0.mpr h))).symm) _ _ hst ls (lv_sub hl [3, 4, 5, 6, 7, 8, 9, 1, 0] rfl)
          exact lpG 1000 0 (by omega) _ _ hT0 rfl _ _ hst ls (lv_sub hl [2, 3, 4, 5, 6, 7, 8, 1, 0] rfl)
      | succ q9 ih_lpS =>
        intro j hi H locs hst ls hl
        refine lv_iload hx hb dX5_odds_91 (lv_at hl 8 rfl) ?_
        refine lv_iload_n hx hb dX5_odds_93 rfl (lv_at hl 1 rfl) ?_
        refine lv_icmp_gt (tgt := 153) hx hb dX5_odds_94 (by decide) (fun c_94 => absurd c_94 ((nI_nlt (by omega) (by omega)))) (fun c_94 => ?_)
        refine lv_iload hx hb dX5_odds_97 (lv_at hl 8 rfl) ?_
        refine lv_iload_n hx hb dX5_odds_99 rfl (lv_at hl 2 rfl) ?_
        refine lv_icmp_gt (tgt := 153) hx hb dX5_odds_100 (by decide) (fun c_100 => absurd c_100 ((nI_nlt (by omega) (by omega)))) (fun c_100 => ?_)
        refine lv_lload hx hb dX5_odds_103 (lv_at hl 6 rfl) ?_
        refine lv_lload hx hb dX5_odds_105 (lv_at hl 7 rfl) ?_
        refine lv_iload_n hx hb dX5_odds_107 rfl (lv_at hl 3 rfl) ?_
        refine lv_i2l hx hb dX5_odds_108 rfl ?_
        refine lv_iload hx hb dX5_odds_109 (lv_at hl 8 rfl) ?_
        refine c_l hst (r_S (As := [.long ((a).toInt64), .int (nI j)]) (rest := [.long (wfC N j), .long (wfS N a.toInt64 (b - a).toInt64 j)]) am hst hl (k_X5_power hadI (N := j) (by omega)) kRX5_118 smX5_power ⟨Nat.le_of_ble_eq_true rfl, Nat.le_of_ble_eq_true rfl⟩ rfl rfl (Nat.le_of_ble_eq_true rfl) dX5_odds_111 ⟨Nat.le_of_ble_eq_true rfl, Nat.le_of_ble_eq_true rfl⟩) (fun H locs hst => ?_)
        refine lv_lmul hx hb dX5_odds_114 ?_
        refine lv_iload hx hb dX5_odds_115 (lv_at hl 4 rfl) ?_
        refine lv_iload_n hx hb dX5_odds_117 rfl (lv_at hl 3 rfl) ?_
        refine lv_isub hx hb dX5_odds_118 ?_
        refine lv_i2l hx hb dX5_odds_119 rfl ?_
        refine lv_iload_n hx hb dX5_odds_120 rfl (lv_at hl 1 rfl) ?_
        refine lv_iload hx hb dX5_odds_121 (lv_at hl 8 rfl) ?_
        refine lv_isub hx hb dX5_odds_123 ?_
        rw [show nI N - nI j = nI (N - j) from pk_sub (by omega)]
        refine c_l hst (r_S (As := [.long ((b - a).toInt64), .int (nI (N - j))]) (rest := [.long ((wfC N j) * (powL ((a).toInt64) j)), .long (wfS N a.toInt64 (b - a).toInt64 j)]) am hst hl (k_X5_power hadI (N := N - j) (by omega)) kRX5_118 smX5_power ⟨Nat.le_of_ble_eq_true rfl, Nat.le_of_ble_eq_true rfl⟩ rfl rfl (Nat.le_of_ble_eq_true rfl) dX5_odds_124 ⟨Nat.le_of_ble_eq_true rfl, Nat.le_of_ble_eq_true rfl⟩) (fun H locs hst => ?_)
        refine lv_lmul hx hb dX5_odds_127 ?_
        refine lv_ladd hx hb dX5_odds_128 ?_
        refine lv_lstore (lv' := [(7, .long ((wfS N a.toInt64 (b - a).toInt64 j) + (((wfC N j) * (powL ((a).toInt64) j)) * (powL ((b - a).toInt64) (N - j))))), (0, .ref (ad 53)), (1, .int (nI N)), (2, .int (nI u)), (3, .int a), (4, .int b), (5, .int pt), (9, .long (wfC N j)), (11, .int (nI j))]) hx hb dX5_odds_129 hl (by decide) rfl (fun ls hl => ?_)
        refine lv_lload hx hb dX5_odds_131 (lv_at hl 7 rfl) ?_
        refine lv_iload_n hx hb dX5_odds_133 rfl (lv_at hl 2 rfl) ?_
        refine lv_iload hx hb dX5_odds_134 (lv_at hl 8 rfl) ?_
        refine lv_isub hx hb dX5_odds_136 ?_
        rw [show nI N - nI j = nI (N - j) from pk_sub (by omega)]
        refine lv_i2l hx hb dX5_odds_137 rfl ?_
        refine lv_lmul hx hb dX5_odds_138 ?_
        refine lv_iload hx hb dX5_odds_139 (lv_at hl 8 rfl) ?_
        refine lv_iconst (v := 1) hx hb dX5_odds_141 (by decide) ?_
        refine lv_iadd hx hb dX5_odds_142 ?_
        rw [nI_1]
        refine lv_i2l hx hb dX5_odds_143 rfl ?_
        refine lv_ldiv hx hb dX5_odds_144 (fun h => by have h2 : (lN (j + 1)) = lN 0 := (nI_l (by omega)).symm.trans h; exact absurd ((lN_eq (by omega) (by omega)).mp h2) (by omega)) ?_
        refine lv_lstore (lv' := [(9, .long (((wfC N j) * ((nI (N - j)).toInt64)) / ((nI (j + 1)).toInt64))), (7, .long ((wfS N a.toInt64 (b - a).toInt64 j) + (((wfC N j) * (powL ((a).toInt64) j)) * (powL ((b - a).toInt64) (N - j))))), (0, .ref (ad 53)), (1, .int (nI N)), (2, .int (nI u)), (3, .int a), (4, .int b), (5, .int pt), (11, .int (nI j))]) hx hb dX5_odds_145 hl (by decide) rfl (fun ls hl => ?_)
        refine lv_iinc (v := nI (j + 1)) (lv' := [(11, .int (nI (j + 1))), (9, .long (((wfC N j) * ((nI (N - j)).toInt64)) / ((nI (j + 1)).toInt64))), (7, .long ((wfS N a.toInt64 (b - a).toInt64 j) + (((wfC N j) * (powL ((a).toInt64) j)) * (powL ((b - a).toInt64) (N - j))))), (0, .ref (ad 53)), (1, .int (nI N)), (2, .int (nI u)), (3, .int a), (4, .int b), (5, .int pt)]) hx hb dX5_odds_147 hl (k := 8) rfl (nI_1 j) (by decide) rfl (fun ls hl => ?_)
        refine lv_goto (tgt := 91) hx hb dX5_odds_150 (by decide) ?_
        exact ih_lpS (j + 1) (by omega) _ _ hst ls (lv_sub hl [3, 4, 5, 6, 7, 8, 2, 1, 0] rfl)
    exact lpS ((min N u + 1)) 0 (by omega) _ _ hst ls (lv_sub hl [4, 5, 6, 7, 8, 9, 2, 1, 0] rfl)
  · skip
    refine lv_iload hx hb dX5_odds_50 (lv_at hl 6 rfl) ?_
    refine lv_iconst (v := 1) hx hb dX5_odds_52 (by decide) ?_
    refine lv_icmp_eq (tgt := 60) hx hb dX5_odds_53 (by decide) (fun c_53 => ?_) (fun c_53 => absurd ((hp.resolve_left c_47)) c_53)
    refine lv_iload hx hb dX5_odds_60 (lv_at hl 0 rfl) ?_
    refine lv_if_eq (tgt := 69) hx hb dX5_odds_62 (by decide) (fun c_62 => absurd c_62 ((show ¬ (1 : Int32) = 0 by decide))) (fun c_62 => ?_)
    refine lv_iconst (v := 0) hx hb dX5_odds_65 (by decide) ?_
    refine lv_goto (tgt := 70) hx hb dX5_odds_66 (by decide) ?_
    refine w_putI am hst (k := 0) (by decide) (fun _ _ _ => cE_M) rfl inT5 tyX5 tyX5_ok nmX5 (by decide) fRX5_73 (fun _ _ _ => rfl) (fun _ _ _ => Nat.le_of_ble_eq_true rfl) rfl rfl rfl rfl dX5_odds_70 (fun H locs hst => ?_)
    refine lv_aload_n hx hb dX5_odds_73 rfl (lv_at hl 1 rfl) ?_
    refine w_getI am hst (k := 0) (by decide) (fun _ _ _ => cE_M) rfl inT5 (by decide) (fun _ _ _ => rfl) fRX5_73 dX5_odds_74 ?_
    rw [show (u2 I 53 0 0) 53 0 = 0 from (u2_eq _ _ _ _)]
    refine lv_if_le (tgt := 82) hx hb dX5_odds_77 (by decide) (fun c_77 => ?_) (fun c_77 => absurd ((show (0 : Int32) ≤ 0 by decide)) c_77)
    refine lv_lconst (v := 0) hx hb dX5_odds_82 (by decide) ?_
    refine lv_lstore (lv' := [(7, .long 0), (6, .int 1), (0, .ref (ad 53)), (1, .int (nI N)), (2, .int (nI u)), (3, .int a), (4, .int b), (5, .int pt)]) hx hb dX5_odds_83 hl (by decide) rfl (fun ls hl => ?_)
    refine lv_lconst (v := 1) hx hb dX5_odds_85 (by decide) ?_
    refine lv_lstore (lv' := [(9, .long 1), (7, .long 0), (6, .int 1), (0, .ref (ad 53)), (1, .int (nI N)), (2, .int (nI u)), (3, .int a), (4, .int b), (5, .int pt)]) hx hb dX5_odds_86 hl (by decide) rfl (fun ls hl => ?_)
    refine lv_iconst (v := 0) hx hb dX5_odds_88 (by decide) ?_
    refine lv_istore (lv' := [(11, .int 0), (9, .long 1), (7, .long 0), (6, .int 1), (0, .ref (ad 53)), (1, .int (nI N)), (2, .int (nI u)), (3, .int a), (4, .int b), (5, .int pt)]) hx hb dX5_odds_89 hl (by decide) rfl (fun ls hl => ?_)
    have lpS : ∀ (q9 j : Nat), q9 + j = (min N u + 1) → ∀ (H : Heap) (locs : List Loc), St D cy ad s.heap (u2 I 53 0 0) G J H locs → ∀ ls, lv_has ls 17 [(0, .ref (ad 53)), (1, .int (nI N)), (2, .int (nI u)), (3, .int a), (4, .int b), (5, .int pt), (7, .long (wfS N a.toInt64 (b - a).toInt64 j)), (9, .long (wfC N j)), (11, .int (nI j))] → W p l e (rmK 1 0 0 25) (s.setDrawn s.drawn) m [.ref (ad 53), .int (nI N), .int (nI u), .int a, .int b, .int pt].toArray below meth cd H locs 0 0 (MQ below (qL D cy ad (oddM N u a b pt) (u2 I 53 0 0) G J s.heap.size) [.ref (ad 53), .int (nI N), .int (nI u), .int a, .int b, .int pt].toArray s ((rmK 1 0 0 25)).cells ((rmK 1 0 0 25)).slots (aA ad s.heap.size)) (F0 m 91 ls []) := by
      intro q9
      induction q9 with
      | zero =>
        intro j hi H locs hst ls hl
        obtain rfl : (min N u + 1) = j := by omega
        rcases Nat.lt_or_ge u N with q | q
        · skip
          refine lv_iload hx hb dX5_odds_91 (lv_at hl 8 rfl) ?_
          refine lv_iload_n hx hb dX5_odds_93 rfl (lv_at hl 1 rfl) ?_
          refine lv_icmp_gt (tgt := 153) hx hb dX5_odds_94 (by decide) (fun c_94 => absurd c_94 ((nI_nlt (by omega) (by omega)))) (fun c_94 => ?_)
          refine lv_iload hx hb dX5_odds_97 (lv_at hl 8 rfl) ?_
          refine lv_iload_n hx hb dX5_odds_99 rfl (lv_at hl 2 rfl) ?_
          refine lv_icmp_gt (tgt := 153) hx hb dX5_odds_100 (by decide) (fun c_100 => ?_) (fun c_100 => absurd ((nI_lt (by omega) (by omega))) c_100)
          refine lv_lload hx hb dX5_odds_153 (lv_at hl 6 rfl) ?_
          refine lv_lstore (lv' := [(11, .long (wfS N a.toInt64 (b - a).toInt64 ((min N u + 1)))), (0, .ref (ad 53)), (1, .int (nI N)), (2, .int (nI u)), (3, .int a), (4, .int b), (5, .int pt), (7, .long (wfS N a.toInt64 (b - a).toInt64 ((min N u + 1)))), (9, .long (wfC N ((min N u + 1))))]) hx hb dX5_odds_155 hl (by decide) rfl (fun ls hl => ?_)
          refine lv_iload hx hb dX5_odds_157 (lv_at hl 5 rfl) ?_
          refine lv_i2l hx hb dX5_odds_159 rfl ?_
          refine lv_iload_n hx hb dX5_odds_160 rfl (lv_at hl 2 rfl) ?_
          refine c_l hst (r_S (As := [.long ((b).toInt64), .int (nI N)]) (rest := []) am hst hl (k_X5_power hadI (N := N) (by omega)) kRX5_118 smX5_power ⟨Nat.le_of_ble_eq_true rfl, Nat.le_of_ble_eq_true rfl⟩ rfl rfl (Nat.le_of_ble_eq_true rfl) dX5_odds_161 ⟨Nat.le_of_ble_eq_true rfl, Nat.le_of_ble_eq_true rfl⟩) (fun H locs hst => ?_)
          refine lv_lstore (lv' := [(13, .long (powL ((b).toInt64) N)), (11, .long (wfS N a.toInt64 (b - a).toInt64 ((min N u + 1)))), (0, .ref (ad 53)), (1, .int (nI N)), (2, .int (nI u)), (3, .int a), (4, .int b), (5, .int pt), (7, .long (wfS N a.toInt64 (b - a).toInt64 ((min N u + 1)))), (9, .long (wfC N ((min N u + 1))))]) hx hb dX5_odds_164 hl (by decide) rfl (fun ls hl => ?_)
          have lpG : ∀ (q8 j : Nat), q8 + j = 1000 → ∀ x y : Int64, gT q8 x y → gE q8 x y = gE 1000 (oddF N u a b) (oddA N b) → ∀ (H : Heap) (locs : List Loc), St D cy ad s.heap (u2 I 53 0 0) G J H locs → ∀ ls, lv_has ls 17 [(0, .ref (ad 53)), (1, .int (nI N)), (2, .int (nI u)), (3, .int a), (4, .int b), (5, .int pt), (7, .long (wfS N a.toInt64 (b - a).toInt64 ((min N u + 1)))), (11, .long x), (13, .long y)] → W p l e (rmK 1 0 0 25) (s.setDrawn s.drawn) m [.ref (ad 53), .int (nI N), .int (nI u), .int a, .int b, .int pt].toArray below meth cd H locs 0 0 (MQ below (qL D cy ad (oddM N u a b pt) (u2 I 53 0 0) G J s.heap.size) [.ref (ad 53), .int (nI N), .int (nI u), .int a, .int b, .int pt].toArray s ((rmK 1 0 0 25)).cells ((rmK 1 0 0 25)).slots (aA ad s.heap.size)) (F0 m 166 ls []) := by
            intro q8
            induction q8 with
            | zero =>
              intro j hi x y hT hR H locs hst ls hl
              obtain rfl : 1000 = j := by omega
              exact hT.elim
            | succ q8 ih_lpG =>
              intro j hi x y hT hR H locs hst ls hl
              refine lv_lload hx hb dX5_odds_166 (lv_at hl 8 rfl) ?_
              refine lv_lconst (v := 0) hx hb dX5_odds_168 (by decide) ?_
              refine W.lcmp hx hb dX5_odds_169 ?_
              refine lv_if_eq (tgt := 191) hx hb dX5_odds_170 (by decide) (fun c_170 => ?_) (fun c_170 => ?_)
              · skip
                refine lv_iload hx hb dX5_odds_191 (lv_at hl 5 rfl) ?_
                refine lv_if_ne (tgt := 204) hx hb dX5_odds_193 (by decide) (fun c_193 => ?_) (fun c_193 => ?_)
                · skip
                  refine lv_iload hx hb dX5_odds_204 (lv_at hl 4 rfl) ?_
                  refine lv_i2l hx hb dX5_odds_206 rfl ?_
                  refine lv_iload_n hx hb dX5_odds_207 rfl (lv_at hl 1 rfl) ?_
                  refine c_l hst (r_S (As := [.long ((b).toInt64), .int (nI N)]) (rest := []) am hst hl (k_X5_power hadI (N := N) (by omega)) kRX5_118 smX5_power ⟨Nat.le_of_ble_eq_true rfl, Nat.le_of_ble_eq_true rfl⟩ rfl rfl (Nat.le_of_ble_eq_true rfl) dX5_odds_208 ⟨Nat.le_of_ble_eq_true rfl, Nat.le_of_ble_eq_true rfl⟩) (fun H locs hst => ?_)
                  refine lv_lload hx hb dX5_odds_211 (lv_at hl 7 rfl) ?_
                  refine lv_ldiv hx hb dX5_odds_213 (fun h => hg (by rw [← hR, gE, if_pos (lg_cmp0.mp c_170)]; exact h)) ?_
                  exact e_l hx hb hr hlk hst (by rw [oddM, ← hR, gE, if_pos (lg_cmp0.mp c_170), if_neg c_193]; rfl) dX5_odds_214
                · skip
                  refine lv_lload hx hb dX5_odds_196 (lv_at hl 6 rfl) ?_
                  refine lv_lload hx hb dX5_odds_198 (lv_at hl 7 rfl) ?_
                  refine lv_ldiv hx hb dX5_odds_200 (fun h => hg (by rw [← hR, gE, if_pos (lg_cmp0.mp c_170)]; exact h)) ?_
                  refine lv_goto (tgt := 214) hx hb dX5_odds_201 (by decide) ?_
                  exact e_l hx hb hr hlk hst (by rw [oddM, ← hR, gE, if_pos (lg_cmp0.mp c_170), if_pos c_193]; rfl) dX5_odds_214
              · skip
                refine lv_lload hx hb dX5_odds_173 (lv_at hl 7 rfl) ?_
                refine lv_lload hx hb dX5_odds_175 (lv_at hl 8 rfl) ?_
                refine lv_lrem hx hb dX5_odds_177 (fun h => c_170 (lg_cmp0.mpr h)) ?_
                refine lv_lstore (lv' := [(15, .long (x - x / y * y)), (0, .ref (ad 53)), (1, .int (nI N)), (2, .int (nI u)), (3, .int a), (4, .int b), (5, .int pt), (7, .long (wfS N a.toInt64 (b - a).toInt64 ((min N u + 1)))), (11, .long x), (13, .long y)]) hx hb dX5_odds_178 hl (by decide) rfl (fun ls hl => ?_)
                refine lv_lload hx hb dX5_odds_180 (lv_at hl 9 rfl) ?_
                refine lv_lstore (lv' := [(11, .long y), (15, .long (x - x / y * y)), (0, .ref (ad 53)), (1, .int (nI N)), (2, .int (nI u)), (3, .int a), (4, .int b), (5, .int pt), (7, .long (wfS N a.toInt64 (b - a).toInt64 ((min N u + 1)))), (13, .long y)]) hx hb dX5_odds_182 hl (by decide) rfl (fun ls hl => ?_)
                refine lv_lload hx hb dX5_odds_184 (lv_at hl 1 rfl) ?_
                refine lv_lstore (lv' := [(13, .long (x - x / y * y)), (11, .long y), (15, .long (x - x / y * y)), (0, .ref (ad 53)), (1, .int (nI N)), (2, .int (nI u)), (3, .int a), (4, .int b), (5, .int pt), (7, .long (wfS N a.toInt64 (b - a).toInt64 ((min N u + 1))))]) hx hb dX5_odds_186 hl (by decide) rfl (fun ls hl => ?_)
                refine lv_goto (tgt := 166) hx hb dX5_odds_188 (by decide) ?_
                exact ih_lpG (j + 1) (by omega) _ _ (hT.resolve_left (fun h => c_170 (lg_cmp0.mpr h))) (by rw [← hR]; exact (if_neg (fun h => c_170 (lg_cmp0.mpr h))).symm) _ _ hst ls (lv_sub hl [3, 4, 5, 6, 7, 8, 9, 1, 0] rfl)
          exact lpG 1000 0 (by omega) _ _ hT0 rfl _ _ hst ls (lv_sub hl [2, 3, 4, 5, 6, 7, 8, 1, 0] rfl)
        · skip
          refine lv_iload hx hb dX5_odds_91 (lv_at hl 8 rfl) ?_
          refine lv_iload_n hx hb dX5_odds_93 rfl (lv_at hl 1 rfl) ?_
          refine lv_icmp_gt (tgt := 153) hx hb dX5_odds_94 (by decide) (fun c_94 => ?_) (fun c_94 => absurd ((nI_lt (by omega) (by omega))) c_94)
          refine lv_lload hx hb dX5_odds_153 (lv_at hl 6 rfl) ?_
          refine lv_lstore (lv' := [(11, .long (wfS N a.toInt64 (b - a).toInt64 ((min N u + 1)))), (0, .ref (ad 53)), (1, .int (nI N)), (2, .int (nI u)), (3, .int a), (4, .int b), (5, .int pt), (7, .long (wfS N a.toInt64 (b - a).toInt64 ((min N u + 1)))), (9, .long (wfC N ((min N u + 1))))]) hx hb dX5_odds_155 hl (by decide) rfl (fun ls hl => ?_)
          refine lv_iload hx hb dX5_odds_157 (lv_at hl 5 rfl) ?_
          refine lv_i2l hx hb dX5_odds_159 rfl ?_
          refine lv_iload_n hx hb dX5_odds_160 rfl (lv_at hl 2 rfl) ?_
          refine c_l hst (r_S (As := [.long ((b).toInt64), .int (nI N)]) (rest := []) am hst hl (k_X5_power hadI (N := N) (by omega)) kRX5_118 smX5_power ⟨Nat.le_of_ble_eq_true rfl, Nat.le_of_ble_eq_true rfl⟩ rfl rfl (Nat.le_of_ble_eq_true rfl) dX5_odds_161 ⟨Nat.le_of_ble_eq_true rfl, Nat.le_of_ble_eq_true rfl⟩) (fun H locs hst => ?_)
          refine lv_lstore (lv' := [(13, .long (powL ((b).toInt64) N)), (11, .long (wfS N a.toInt64 (b - a).toInt64 ((min N u + 1)))), (0, .ref (ad 53)), (1, .int (nI N)), (2, .int (nI u)), (3, .int a), (4, .int b), (5, .int pt), (7, .long (wfS N a.toInt64 (b - a).toInt64 ((min N u + 1)))), (9, .long (wfC N ((min N u + 1))))]) hx hb dX5_odds_164 hl (by decide) rfl (fun ls hl => ?_)
          have lpG : ∀ (q8 j : Nat), q8 + j = 1000 → ∀ x y : Int64, gT q8 x y → gE q8 x y = gE 1000 (oddF N u a b) (oddA N b) → ∀ (H : Heap) (locs : List Loc), St D cy ad s.heap (u2 I 53 0 0) G J H locs → ∀ ls, lv_has ls 17 [(0, .ref (ad 53)), (1, .int (nI N)), (2, .int (nI u)), (3, .int a), (4, .int b), (5, .int pt), (7, .long (wfS N a.toInt64 (b - a).toInt64 ((min N u + 1)))), (11, .long x), (13, .long y)] → W p l e (rmK 1 0 0 25) (s.setDrawn s.drawn) m [.ref (ad 53), .int (nI N), .int (nI u), .int a, .int b, .int pt].toArray below meth cd H locs 0 0 (MQ below (qL D cy ad (oddM N u a b pt) (u2 I 53 0 0) G J s.heap.size) [.ref (ad 53), .int (nI N), .int (nI u), .int a, .int b, .int pt].toArray s ((rmK 1 0 0 25)).cells ((rmK 1 0 0 25)).slots (aA ad s.heap.size)) (F0 m 166 ls []) := by
            intro q8
            induction q8 with
            | zero =>
              intro j hi x y hT hR H locs hst ls hl
              obtain rfl : 1000 = j := by omega
              exact hT.elim
            | succ q8 ih_lpG =>
              intro j hi x y hT hR H locs hst ls hl
              refine lv_lload hx hb dX5_odds_166 (lv_at hl 8 rfl) ?_
              refine lv_lconst (v := 0) hx hb dX5_odds_168 (by decide) ?_
              refine W.lcmp hx hb dX5_odds_169 ?_
              refine lv_if_eq (tgt := 191) hx hb dX5_odds_170 (by decide) (fun c_170 => ?_) (fun c_170 => ?_)
              · skip
                refine lv_iload hx hb dX5_odds_191 (lv_at hl 5 rfl) ?_
                refine lv_if_ne (tgt := 204) hx hb dX5_odds_193 (by decide) (fun c_193 => ?_) (fun c_193 => ?_)
                · skip
                  refine lv_iload hx hb dX5_odds_204 (lv_at hl 4 rfl) ?_
                  refine lv_i2l hx hb dX5_odds_206 rfl ?_
                  refine lv_iload_n hx hb dX5_odds_207 rfl (lv_at hl 1 rfl) ?_
                  refine c_l hst (r_S (As := [.long ((b).toInt64), .int (nI N)]) (rest := []) am hst hl (k_X5_power hadI (N := N) (by omega)) kRX5_118 smX5_power ⟨Nat.le_of_ble_eq_true rfl, Nat.le_of_ble_eq_true rfl⟩ rfl rfl (Nat.le_of_ble_eq_true rfl) dX5_odds_208 ⟨Nat.le_of_ble_eq_true rfl, Nat.le_of_ble_eq_true rfl⟩) (fun H locs hst => ?_)
                  refine lv_lload hx hb dX5_odds_211 (lv_at hl 7 rfl) ?_
                  refine lv_ldiv hx hb dX5_odds_213 (fun h => hg (by rw [← hR, gE, if_pos (lg_cmp0.mp c_170)]; exact h)) ?_
                  exact e_l hx hb hr hlk hst (by rw [oddM, ← hR, gE, if_pos (lg_cmp0.mp c_170), if_neg c_193]; rfl) dX5_odds_214
                · skip
                  refine lv_lload hx hb dX5_odds_196 (lv_at hl 6 rfl) ?_
                  refine lv_lload hx hb dX5_odds_198 (lv_at hl 7 rfl) ?_
                  refine lv_ldiv hx hb dX5_odds_200 (fun h => hg (by rw [← hR, gE, if_pos (lg_cmp0.mp c_170)]; exact h)) ?_
                  refine lv_goto (tgt := 214) hx hb dX5_odds_201 (by decide) ?_
                  exact e_l hx hb hr hlk hst (by rw [oddM, ← hR, gE, if_pos (lg_cmp0.mp c_170), if_pos c_193]; rfl) dX5_odds_214
              · skip
                refine lv_lload hx hb dX5_odds_173 (lv_at hl 7 rfl) ?_
                refine lv_lload hx hb dX5_odds_175 (lv_at hl 8 rfl) ?_
                refine lv_lrem hx hb dX5_odds_177 (fun h => c_170 (lg_cmp0.mpr h)) ?_
                refine lv_lstore (lv' := [(15, .long (x - x / y * y)), (0, .ref (ad 53)), (1, .int (nI N)), (2, .int (nI u)), (3, .int a), (4, .int b), (5, .int pt), (7, .long (wfS N a.toInt64 (b - a).toInt64 ((min N u + 1)))), (11, .long x), (13, .long y)]) hx hb dX5_odds_178 hl (by decide) rfl (fun ls hl => ?_)
                refine lv_lload hx hb dX5_odds_180 (lv_at hl 9 rfl) ?_
                refine lv_lstore (lv' := [(11, .long y), (15, .long (x - x / y * y)), (0, .ref (ad 53)), (1, .int (nI N)), (2, .int (nI u)), (3, .int a), (4, .int b), (5, .int pt), (7, .long (wfS N a.toInt64 (b - a).toInt64 ((min N u + 1)))), (13, .long y)]) hx hb dX5_odds_182 hl (by decide) rfl (fun ls hl => ?_)
                refine lv_lload hx hb dX5_odds_184 (lv_at hl 1 rfl) ?_
                refine lv_lstore (lv' := [(13, .long (x - x / y * y)), (11, .long y), (15, .long (x - x / y * y)), (0, .ref (ad 53)), (1, .int (nI N)), (2, .int (nI u)), (3, .int a), (4, .int b), (5, .int pt), (7, .long (wfS N a.toInt64 (b - a).toInt64 ((min N u + 1))))]) hx hb dX5_odds_186 hl (by decide) rfl (fun ls hl => ?_)
                refine lv_goto (tgt := 166) hx hb dX5_odds_188 (by decide) ?_
                exact ih_lpG (j + 1) (by omega) _ _ (hT.resolve_left (fun h => c_170 (lg_cmp0.mpr h))) (by rw [← hR]; exact (if_neg (fun h => c_170 (lg_cmp0.mpr h))).symm) _ _ hst ls (lv_sub hl [3, 4, 5, 6, 7, 8, 9, 1, 0] rfl)
          exact lpG 1000 0 (by omega) _ _ hT0 rfl _ _ hst ls (lv_sub hl [2, 3, 4, 5, 6, 7, 8, 1, 0] rfl)
      | succ q9 ih_lpS =>
        intro j hi H locs hst ls hl
        refine lv_iload hx hb dX5_odds_91 (lv_at hl 8 rfl) ?_
        refine lv_iload_n hx hb dX5_odds_93 rfl (lv_at hl 1 rfl) ?_
        refine lv_icmp_gt (tgt := 153) hx hb dX5_odds_94 (by decide) (fun c_94 => absurd c_94 ((nI_nlt (by omega) (by omega)))) (fun c_94 => ?_)
        refine lv_iload hx hb dX5_odds_97 (lv_at hl 8 rfl) ?_
        refine lv_iload_n hx hb dX5_odds_99 rfl (lv_at hl 2 rfl) ?_
        refine lv_icmp_gt (tgt := 153) hx hb dX5_odds_100 (by decide) (fun c_100 => absurd c_100 ((nI_nlt (by omega) (by omega)))) (fun c_100 => ?_)
        refine lv_lload hx hb dX5_odds_103 (lv_at hl 6 rfl) ?_
        refine lv_lload hx hb dX5_odds_105 (lv_at hl 7 rfl) ?_
        refine lv_iload_n hx hb dX5_odds_107 rfl (lv_at hl 3 rfl) ?_
        refine lv_i2l hx hb dX5_odds_108 rfl ?_
        refine lv_iload hx hb dX5_odds_109 (lv_at hl 8 rfl) ?_
        refine c_l hst (r_S (As := [.long ((a).toInt64), .int (nI j)]) (rest := [.long (wfC N j), .long (wfS N a.toInt64 (b - a).toInt64 j)]) am hst hl (k_X5_power hadI (N := j) (by omega)) kRX5_118 smX5_power ⟨Nat.le_of_ble_eq_true rfl, Nat.le_of_ble_eq_true rfl⟩ rfl rfl (Nat.le_of_ble_eq_true rfl) dX5_odds_111 ⟨Nat.le_of_ble_eq_true rfl, Nat.le_of_ble_eq_true rfl⟩) (fun H locs hst => ?_)
        refine lv_lmul hx hb dX5_odds_114 ?_
        refine lv_iload hx hb dX5_odds_115 (lv_at hl 4 rfl) ?_
        refine lv_iload_n hx hb dX5_odds_117 rfl (lv_at hl 3 rfl) ?_
        refine lv_isub hx hb dX5_odds_118 ?_
        refine lv_i2l hx hb dX5_odds_119 rfl ?_
        refine lv_iload_n hx hb dX5_odds_120 rfl (lv_at hl 1 rfl) ?_
        refine lv_iload hx hb dX5_odds_121 (lv_at hl 8 rfl) ?_
        refine lv_isub hx hb dX5_odds_123 ?_
        rw [show nI N - nI j = nI (N - j) from pk_sub (by omega)]
        refine c_l hst (r_S (As := [.long ((b - a).toInt64), .int (nI (N - j))]) (rest := [.long ((wfC N j) * (powL ((a).toInt64) j)), .long (wfS N a.toInt64 (b - a).toInt64 j)]) am hst hl (k_X5_power hadI (N := N - j) (by omega)) kRX5_118 smX5_power ⟨Nat.le_of_ble_eq_true rfl, Nat.le_of_ble_eq_true rfl⟩ rfl rfl (Nat.le_of_ble_eq_true rfl) dX5_odds_124 ⟨Nat.le_of_ble_eq_true rfl, Nat.le_of_ble_eq_true rfl⟩) (fun H locs hst => ?_)
        refine lv_lmul hx hb dX5_odds_127 ?_
        refine lv_ladd hx hb dX5_odds_128 ?_
        refine lv_lstore (lv' := [(7, .long ((wfS N a.toInt64 (b - a).toInt64 j) + (((wfC N j) * (powL ((a).toInt64) j)) * (powL ((b - a).toInt64) (N - j))))), (0, .ref (ad 53)), (1, .int (nI N)), (2, .int (nI u)), (3, .int a), (4, .int b), (5, .int pt), (9, .long (wfC N j)), (11, .int (nI j))]) hx hb dX5_odds_129 hl (by decide) rfl (fun ls hl => ?_)
        refine lv_lload hx hb dX5_odds_131 (lv_at hl 7 rfl) ?_
        refine lv_iload_n hx hb dX5_odds_133 rfl (lv_at hl 2 rfl) ?_
        refine lv_iload hx hb dX5_odds_134 (lv_at hl 8 rfl) ?_
        refine lv_isub hx hb dX5_odds_136 ?_
        rw [show nI N - nI j = nI (N - j) from pk_sub (by omega)]
        refine lv_i2l hx hb dX5_odds_137 rfl ?_
        refine lv_lmul hx hb dX5_odds_138 ?_
        refine lv_iload hx hb dX5_odds_139 (lv_at hl 8 rfl) ?_
        refine lv_iconst (v := 1) hx hb dX5_odds_141 (by decide) ?_
        refine lv_iadd hx hb dX5_odds_142 ?_
        rw [nI_1]
        refine lv_i2l hx hb dX5_odds_143 rfl ?_
        refine lv_ldiv hx hb dX5_odds_144 (fun h => by have h2 : (lN (j + 1)) = lN 0 := (nI_l (by omega)).symm.trans h; exact absurd ((lN_eq (by omega) (by omega)).mp h2) (by omega)) ?_
        refine lv_lstore (lv' := [(9, .long (((wfC N j) * ((nI (N - j)).toInt64)) / ((nI (j + 1)).toInt64))), (7, .long ((wfS N a.toInt64 (b - a).toInt64 j) + (((wfC N j) * (powL ((a).toInt64) j)) * (powL ((b - a).toInt64) (N - j))))), (0, .ref (ad 53)), (1, .int (nI N)), (2, .int (nI u)), (3, .int a), (4, .int b), (5, .int pt), (11, .int (nI j))]) hx hb dX5_odds_145 hl (by decide) rfl (fun ls hl => ?_)
        refine lv_iinc (v := nI (j + 1)) (lv' := [(11, .int (nI (j + 1))), (9, .long (((wfC N j) * ((nI (N - j)).toInt64)) / ((nI (j + 1)).toInt64))), (7, .long ((wfS N a.toInt64 (b - a).toInt64 j) + (((wfC N j) * (powL ((a).toInt64) j)) * (powL ((b - a).toInt64) (N - j))))), (0, .ref (ad 53)), (1, .int (nI N)), (2, .int (nI u)), (3, .int a), (4, .int b), (5, .int pt)]) hx hb dX5_odds_147 hl (k := 8) rfl (nI_1 j) (by decide) rfl (fun ls hl => ?_)
        refine lv_goto (tgt := 91) hx hb dX5_odds_150 (by decide) ?_
        exact ih_lpS (j + 1) (by omega) _ _ hst ls (lv_sub hl [3, 4, 5, 6, 7, 8, 2, 1, 0] rfl)
    exact lpS ((min N u + 1)) 0 (by omega) _ _ hst ls (lv_sub hl [4, 5, 6, 7, 8, 9, 2, 1, 0] rfl)

set_option maxHeartbeats 4000000 in
set_option maxRecDepth 100000 in
theorem x1_X5_odds {l : Launch} {D : va_G} {cy ad : Nat → Nat} {I : Im} {G : Dm} {J : Jm} (hadI : adI ad) {v u a b pt : Int32} (hp : ¬ pt = 0 ∧ ¬ pt = 1) : kM l yX5_odds (.code yX5_odds cX5_odds 17 (some .long)) (rmK 1 0 0 25) D cy ad [.ref (ad 53), .int v, .int u, .int a, .int b, .int pt] I G J (qL D cy ad 0 (u2 I 53 0 1) G J) := by
  refine start_M hadI (by decide +kernel) (Nat.le_of_ble_eq_true rfl) ?_
  intro p e s m below meth cd am hx hb hr hlk hst ls hl
  have hl : lv_has ls 17 [(0, .ref (ad 53)), (1, .int v), (2, .int u), (3, .int a), (4, .int b), (5, .int pt)] := hl
  refine lv_iload_n hx hb dX5_odds_0 rfl (lv_at hl 1 rfl) ?_
  refine lv_if_lt (tgt := 41) hx hb dX5_odds_1 (by decide) (fun c_1 => ?_) (fun c_1 => ?_)
  · skip
    refine lv_iconst (v := 0) hx hb dX5_odds_41 (by decide) ?_
    refine lv_istore (lv' := [(6, .int 0), (0, .ref (ad 53)), (1, .int v), (2, .int u), (3, .int a), (4, .int b), (5, .int pt)]) hx hb dX5_odds_42 hl (by decide) rfl (fun ls hl => ?_)
    refine lv_aload_n hx hb dX5_odds_44 rfl (lv_at hl 1 rfl) ?_
    refine lv_iload hx hb dX5_odds_45 (lv_at hl 6 rfl) ?_
    refine lv_if_eq (tgt := 60) hx hb dX5_odds_47 (by decide) (fun c_47 => absurd c_47 hp.1) (fun c_47 => ?_)
    refine lv_iload hx hb dX5_odds_50 (lv_at hl 6 rfl) ?_
    refine lv_iconst (v := 1) hx hb dX5_odds_52 (by decide) ?_
    refine lv_icmp_eq (tgt := 60) hx hb dX5_odds_53 (by decide) (fun c_53 => absurd c_53 hp.2) (fun c_53 => ?_)
    refine lv_iconst (v := 1) hx hb dX5_odds_56 (by decide) ?_
    refine lv_goto (tgt := 70) hx hb dX5_odds_57 (by decide) ?_
    refine w_putI am hst (k := 0) (by decide) (fun _ _ _ => cE_M) rfl inT5 tyX5 tyX5_ok nmX5 (by decide) fRX5_73 (fun _ _ _ => rfl) (fun _ _ _ => Nat.le_of_ble_eq_true rfl) rfl rfl rfl rfl dX5_odds_70 (fun H locs hst => ?_)
    refine lv_aload_n hx hb dX5_odds_73 rfl (lv_at hl 1 rfl) ?_
    refine w_getI am hst (k := 0) (by decide) (fun _ _ _ => cE_M) rfl inT5 (by decide) (fun _ _ _ => rfl) fRX5_73 dX5_odds_74 ?_
    rw [show (u2 I 53 0 1) 53 0 = 1 from (u2_eq _ _ _ _)]
    refine lv_if_le (tgt := 82) hx hb dX5_odds_77 (by decide) (fun c_77 => absurd c_77 ((show ¬ (1 : Int32) ≤ 0 by decide))) (fun c_77 => ?_)
    refine lv_lconst (v := 0) hx hb dX5_odds_80 (by decide) ?_
    exact e_l hx hb hr hlk hst rfl dX5_odds_81
  · skip
    refine lv_iload_n hx hb dX5_odds_4 rfl (lv_at hl 1 rfl) ?_
    refine lv_bipush (v := 12) hx hb dX5_odds_5 (by decide) ?_
    refine lv_icmp_gt (tgt := 41) hx hb dX5_odds_7 (by decide) (fun c_7 => ?_) (fun c_7 => ?_)
    · skip
      refine lv_iconst (v := 0) hx hb dX5_odds_41 (by decide) ?_
      refine lv_istore (lv' := [(6, .int 0), (0, .ref (ad 53)), (1, .int v), (2, .int u), (3, .int a), (4, .int b), (5, .int pt)]) hx hb dX5_odds_42 hl (by decide) rfl (fun ls hl => ?_)
      refine lv_aload_n hx hb dX5_odds_44 rfl (lv_at hl 1 rfl) ?_
      refine lv_iload hx hb dX5_odds_45 (lv_at hl 6 rfl) ?_
      refine lv_if_eq (tgt := 60) hx hb dX5_odds_47 (by decide) (fun c_47 => absurd c_47 hp.1) (fun c_47 => ?_)
      refine lv_iload hx hb dX5_odds_50 (lv_at hl 6 rfl) ?_
      refine lv_iconst (v := 1) hx hb dX5_odds_52 (by decide) ?_
      refine lv_icmp_eq (tgt := 60) hx hb dX5_odds_53 (by decide) (fun c_53 => absurd c_53 hp.2) (fun c_53 => ?_)
      refine lv_iconst (v := 1) hx hb dX5_odds_56 (by decide) ?_
      refine lv_goto (tgt := 70) hx hb dX5_odds_57 (by decide) ?_
      refine w_putI am hst (k := 0) (by decide) (fun _ _ _ => cE_M) rfl inT5 tyX5 tyX5_ok nmX5 (by decide) fRX5_73 (fun _ _ _ => rfl) (fun _ _ _ => Nat.le_of_ble_eq_true rfl) rfl rfl rfl rfl dX5_odds_70 (fun H locs hst => ?_)
      refine lv_aload_n hx hb dX5_odds_73 rfl (lv_at hl 1 rfl) ?_
      refine w_getI am hst (k := 0) (by decide) (fun _ _ _ => cE_M) rfl inT5 (by decide) (fun _ _ _ => rfl) fRX5_73 dX5_odds_74 ?_
      rw [show (u2 I 53 0 1) 53 0 = 1 from (u2_eq _ _ _ _)]
      refine lv_if_le (tgt := 82) hx hb dX5_odds_77 (by decide) (fun c_77 => absurd c_77 ((show ¬ (1 : Int32) ≤ 0 by decide))) (fun c_77 => ?_)
      refine lv_lconst (v := 0) hx hb dX5_odds_80 (by decide) ?_
      exact e_l hx hb hr hlk hst rfl dX5_odds_81
    · skip
      refine lv_iload_n hx hb dX5_odds_10 rfl (lv_at hl 2 rfl) ?_
      refine lv_if_lt (tgt := 41) hx hb dX5_odds_11 (by decide) (fun c_11 => ?_) (fun c_11 => ?_)
      · skip
        refine lv_iconst (v := 0) hx hb dX5_odds_41 (by decide) ?_
        refine lv_istore (lv' := [(6, .int 0), (0, .ref (ad 53)), (1, .int v), (2, .int u), (3, .int a), (4, .int b), (5, .int pt)]) hx hb dX5_odds_42 hl (by decide) rfl (fun ls hl => ?_)
        refine lv_aload_n hx hb dX5_odds_44 rfl (lv_at hl 1 rfl) ?_
        refine lv_iload hx hb dX5_odds_45 (lv_at hl 6 rfl) ?_
        refine lv_if_eq (tgt := 60) hx hb dX5_odds_47 (by decide) (fun c_47 => absurd c_47 hp.1) (fun c_47 => ?_)
        refine lv_iload hx hb dX5_odds_50 (lv_at hl 6 rfl) ?_
        refine lv_iconst (v := 1) hx hb dX5_odds_52 (by decide) ?_
        refine lv_icmp_eq (tgt := 60) hx hb dX5_odds_53 (by decide) (fun c_53 => absurd c_53 hp.2) (fun c_53 => ?_)
        refine lv_iconst (v := 1) hx hb dX5_odds_56 (by decide) ?_
        refine lv_goto (tgt := 70) hx hb dX5_odds_57 (by decide) ?_
        refine w_putI am hst (k := 0) (by decide) (fun _ _ _ => cE_M) rfl inT5 tyX5 tyX5_ok nmX5 (by decide) fRX5_73 (fun _ _ _ => rfl) (fun _ _ _ => Nat.le_of_ble_eq_true rfl) rfl rfl rfl rfl dX5_odds_70 (fun H locs hst => ?_)
        refine lv_aload_n hx hb dX5_odds_73 rfl (lv_at hl 1 rfl) ?_
        refine w_getI am hst (k := 0) (by decide) (fun _ _ _ => cE_M) rfl inT5 (by decide) (fun _ _ _ => rfl) fRX5_73 dX5_odds_74 ?_
        rw [show (u2 I 53 0 1) 53 0 = 1 from (u2_eq _ _ _ _)]
        refine lv_if_le (tgt := 82) hx hb dX5_odds_77 (by decide) (fun c_77 => absurd c_77 ((show ¬ (1 : Int32) ≤ 0 by decide))) (fun c_77 => ?_)
        refine lv_lconst (v := 0) hx hb dX5_odds_80 (by decide) ?_
        exact e_l hx hb hr hlk hst rfl dX5_odds_81
      · skip
        refine lv_iload hx hb dX5_odds_14 (lv_at hl 4 rfl) ?_
        refine lv_iconst (v := 1) hx hb dX5_odds_16 (by decide) ?_
        refine lv_icmp_lt (tgt := 41) hx hb dX5_odds_17 (by decide) (fun c_17 => ?_) (fun c_17 => ?_)
        · skip
          refine lv_iconst (v := 0) hx hb dX5_odds_41 (by decide) ?_
          refine lv_istore (lv' := [(6, .int 0), (0, .ref (ad 53)), (1, .int v), (2, .int u), (3, .int a), (4, .int b), (5, .int pt)]) hx hb dX5_odds_42 hl (by decide) rfl (fun ls hl => ?_)
          refine lv_aload_n hx hb dX5_odds_44 rfl (lv_at hl 1 rfl) ?_
          refine lv_iload hx hb dX5_odds_45 (lv_at hl 6 rfl) ?_
          refine lv_if_eq (tgt := 60) hx hb dX5_odds_47 (by decide) (fun c_47 => absurd c_47 hp.1) (fun c_47 => ?_)
          refine lv_iload hx hb dX5_odds_50 (lv_at hl 6 rfl) ?_
          refine lv_iconst (v := 1) hx hb dX5_odds_52 (by decide) ?_
          refine lv_icmp_eq (tgt := 60) hx hb dX5_odds_53 (by decide) (fun c_53 => absurd c_53 hp.2) (fun c_53 => ?_)
          refine lv_iconst (v := 1) hx hb dX5_odds_56 (by decide) ?_
          refine lv_goto (tgt := 70) hx hb dX5_odds_57 (by decide) ?_
          refine w_putI am hst (k := 0) (by decide) (fun _ _ _ => cE_M) rfl inT5 tyX5 tyX5_ok nmX5 (by decide) fRX5_73 (fun _ _ _ => rfl) (fun _ _ _ => Nat.le_of_ble_eq_true rfl) rfl rfl rfl rfl dX5_odds_70 (fun H locs hst => ?_)
          refine lv_aload_n hx hb dX5_odds_73 rfl (lv_at hl 1 rfl) ?_
          refine w_getI am hst (k := 0) (by decide) (fun _ _ _ => cE_M) rfl inT5 (by decide) (fun _ _ _ => rfl) fRX5_73 dX5_odds_74 ?_
          rw [show (u2 I 53 0 1) 53 0 = 1 from (u2_eq _ _ _ _)]
          refine lv_if_le (tgt := 82) hx hb dX5_odds_77 (by decide) (fun c_77 => absurd c_77 ((show ¬ (1 : Int32) ≤ 0 by decide))) (fun c_77 => ?_)
          refine lv_lconst (v := 0) hx hb dX5_odds_80 (by decide) ?_
          exact e_l hx hb hr hlk hst rfl dX5_odds_81
        · skip
          refine lv_iload hx hb dX5_odds_20 (lv_at hl 4 rfl) ?_
          refine lv_bipush (v := 16) hx hb dX5_odds_22 (by decide) ?_
          refine lv_icmp_gt (tgt := 41) hx hb dX5_odds_24 (by decide) (fun c_24 => ?_) (fun c_24 => ?_)
          · skip
            refine lv_iconst (v := 0) hx hb dX5_odds_41 (by decide) ?_
            refine lv_istore (lv' := [(6, .int 0), (0, .ref (ad 53)), (1, .int v), (2, .int u), (3, .int a), (4, .int b), (5, .int pt)]) hx hb dX5_odds_42 hl (by decide) rfl (fun ls hl => ?_)
            refine lv_aload_n hx hb dX5_odds_44 rfl (lv_at hl 1 rfl) ?_
            refine lv_iload hx hb dX5_odds_45 (lv_at hl 6 rfl) ?_
            refine lv_if_eq (tgt := 60) hx hb dX5_odds_47 (by decide) (fun c_47 => absurd c_47 hp.1) (fun c_47 => ?_)
            refine lv_iload hx hb dX5_odds_50 (lv_at hl 6 rfl) ?_
            refine lv_iconst (v := 1) hx hb dX5_odds_52 (by decide) ?_
            refine lv_icmp_eq (tgt := 60) hx hb dX5_odds_53 (by decide) (fun c_53 => absurd c_53 hp.2) (fun c_53 => ?_)
            refine lv_iconst (v := 1) hx hb dX5_odds_56 (by decide) ?_
            refine lv_goto (tgt := 70) hx hb dX5_odds_57 (by decide) ?_
            refine w_putI am hst (k := 0) (by decide) (fun _ _ _ => cE_M) rfl inT5 tyX5 tyX5_ok nmX5 (by decide) fRX5_73 (fun _ _ _ => rfl) (fun _ _ _ => Nat.le_of_ble_eq_true rfl) rfl rfl rfl rfl dX5_odds_70 (fun H locs hst => ?_)
            refine lv_aload_n hx hb dX5_odds_73 rfl (lv_at hl 1 rfl) ?_
            refine w_getI am hst (k := 0) (by decide) (fun _ _ _ => cE_M) rfl inT5 (by decide) (fun _ _ _ => rfl) fRX5_73 dX5_odds_74 ?_
            rw [show (u2 I 53 0 1) 53 0 = 1 from (u2_eq _ _ _ _)]
            refine lv_if_le (tgt := 82) hx hb dX5_odds_77 (by decide) (fun c_77 => absurd c_77 ((show ¬ (1 : Int32) ≤ 0 by decide))) (fun c_77 => ?_)
            refine lv_lconst (v := 0) hx hb dX5_odds_80 (by decide) ?_
            exact e_l hx hb hr hlk hst rfl dX5_odds_81
          · skip
            refine lv_iload_n hx hb dX5_odds_27 rfl (lv_at hl 3 rfl) ?_
            refine lv_if_lt (tgt := 41) hx hb dX5_odds_28 (by decide) (fun c_28 => ?_) (fun c_28 => ?_)
            · skip
              refine lv_iconst (v := 0) hx hb dX5_odds_41 (by decide) ?_
              refine lv_istore (lv' := [(6, .int 0), (0, .ref (ad 53)), (1, .int v), (2, .int u), (3, .int a), (4, .int b), (5, .int pt)]) hx hb dX5_odds_42 hl (by decide) rfl (fun ls hl => ?_)
              refine lv_aload_n hx hb dX5_odds_44 rfl (lv_at hl 1 rfl) ?_
              refine lv_iload hx hb dX5_odds_45 (lv_at hl 6 rfl) ?_
              refine lv_if_eq (tgt := 60) hx hb dX5_odds_47 (by decide) (fun c_47 => absurd c_47 hp.1) (fun c_47 => ?_)
              refine lv_iload hx hb dX5_odds_50 (lv_at hl 6 rfl) ?_
              refine lv_iconst (v := 1) hx hb dX5_odds_52 (by decide) ?_
              refine lv_icmp_eq (tgt := 60) hx hb dX5_odds_53 (by decide) (fun c_53 => absurd c_53 hp.2) (fun c_53 => ?_)
              refine lv_iconst (v := 1) hx hb dX5_odds_56 (by decide) ?_
              refine lv_goto (tgt := 70) hx hb dX5_odds_57 (by decide) ?_
              refine w_putI am hst (k := 0) (by decide) (fun _ _ _ => cE_M) rfl inT5 tyX5 tyX5_ok nmX5 (by decide) fRX5_73 (fun _ _ _ => rfl) (fun _ _ _ => Nat.le_of_ble_eq_true rfl) rfl rfl rfl rfl dX5_odds_70 (fun H locs hst => ?_)
              refine lv_aload_n hx hb dX5_odds_73 rfl (lv_at hl 1 rfl) ?_
              refine w_getI am hst (k := 0) (by decide) (fun _ _ _ => cE_M) rfl inT5 (by decide) (fun _ _ _ => rfl) fRX5_73 dX5_odds_74 ?_
              rw [show (u2 I 53 0 1) 53 0 = 1 from (u2_eq _ _ _ _)]
              refine lv_if_le (tgt := 82) hx hb dX5_odds_77 (by decide) (fun c_77 => absurd c_77 ((show ¬ (1 : Int32) ≤ 0 by decide))) (fun c_77 => ?_)
              refine lv_lconst (v := 0) hx hb dX5_odds_80 (by decide) ?_
              exact e_l hx hb hr hlk hst rfl dX5_odds_81
            · skip
              refine lv_iload_n hx hb dX5_odds_31 rfl (lv_at hl 3 rfl) ?_
              refine lv_iload hx hb dX5_odds_32 (lv_at hl 4 rfl) ?_
              refine lv_icmp_gt (tgt := 41) hx hb dX5_odds_34 (by decide) (fun c_34 => ?_) (fun c_34 => ?_)
              · skip
                refine lv_iconst (v := 0) hx hb dX5_odds_41 (by decide) ?_
                refine lv_istore (lv' := [(6, .int 0), (0, .ref (ad 53)), (1, .int v), (2, .int u), (3, .int a), (4, .int b), (5, .int pt)]) hx hb dX5_odds_42 hl (by decide) rfl (fun ls hl => ?_)
                refine lv_aload_n hx hb dX5_odds_44 rfl (lv_at hl 1 rfl) ?_
                refine lv_iload hx hb dX5_odds_45 (lv_at hl 6 rfl) ?_
                refine lv_if_eq (tgt := 60) hx hb dX5_odds_47 (by decide) (fun c_47 => absurd c_47 hp.1) (fun c_47 => ?_)
                refine lv_iload hx hb dX5_odds_50 (lv_at hl 6 rfl) ?_
                refine lv_iconst (v := 1) hx hb dX5_odds_52 (by decide) ?_
                refine lv_icmp_eq (tgt := 60) hx hb dX5_odds_53 (by decide) (fun c_53 => absurd c_53 hp.2) (fun c_53 => ?_)
                refine lv_iconst (v := 1) hx hb dX5_odds_56 (by decide) ?_
                refine lv_goto (tgt := 70) hx hb dX5_odds_57 (by decide) ?_
                refine w_putI am hst (k := 0) (by decide) (fun _ _ _ => cE_M) rfl inT5 tyX5 tyX5_ok nmX5 (by decide) fRX5_73 (fun _ _ _ => rfl) (fun _ _ _ => Nat.le_of_ble_eq_true rfl) rfl rfl rfl rfl dX5_odds_70 (fun H locs hst => ?_)
                refine lv_aload_n hx hb dX5_odds_73 rfl (lv_at hl 1 rfl) ?_
                refine w_getI am hst (k := 0) (by decide) (fun _ _ _ => cE_M) rfl inT5 (by decide) (fun _ _ _ => rfl) fRX5_73 dX5_odds_74 ?_
                rw [show (u2 I 53 0 1) 53 0 = 1 from (u2_eq _ _ _ _)]
                refine lv_if_le (tgt := 82) hx hb dX5_odds_77 (by decide) (fun c_77 => absurd c_77 ((show ¬ (1 : Int32) ≤ 0 by decide))) (fun c_77 => ?_)
                refine lv_lconst (v := 0) hx hb dX5_odds_80 (by decide) ?_
                exact e_l hx hb hr hlk hst rfl dX5_odds_81
              · skip
                refine lv_iconst (v := 1) hx hb dX5_odds_37 (by decide) ?_
                refine lv_goto (tgt := 42) hx hb dX5_odds_38 (by decide) ?_
                refine lv_istore (lv' := [(6, .int 1), (0, .ref (ad 53)), (1, .int v), (2, .int u), (3, .int a), (4, .int b), (5, .int pt)]) hx hb dX5_odds_42 hl (by decide) rfl (fun ls hl => ?_)
                refine lv_aload_n hx hb dX5_odds_44 rfl (lv_at hl 1 rfl) ?_
                refine lv_iload hx hb dX5_odds_45 (lv_at hl 6 rfl) ?_
                refine lv_if_eq (tgt := 60) hx hb dX5_odds_47 (by decide) (fun c_47 => absurd c_47 hp.1) (fun c_47 => ?_)
                refine lv_iload hx hb dX5_odds_50 (lv_at hl 6 rfl) ?_
                refine lv_iconst (v := 1) hx hb dX5_odds_52 (by decide) ?_
                refine lv_icmp_eq (tgt := 60) hx hb dX5_odds_53 (by decide) (fun c_53 => absurd c_53 hp.2) (fun c_53 => ?_)
                refine lv_iconst (v := 1) hx hb dX5_odds_56 (by decide) ?_
                refine lv_goto (tgt := 70) hx hb dX5_odds_57 (by decide) ?_
                refine w_putI am hst (k := 0) (by decide) (fun _ _ _ => cE_M) rfl inT5 tyX5 tyX5_ok nmX5 (by decide) fRX5_73 (fun _ _ _ => rfl) (fun _ _ _ => Nat.le_of_ble_eq_true rfl) rfl rfl rfl rfl dX5_odds_70 (fun H locs hst => ?_)
                refine lv_aload_n hx hb dX5_odds_73 rfl (lv_at hl 1 rfl) ?_
                refine w_getI am hst (k := 0) (by decide) (fun _ _ _ => cE_M) rfl inT5 (by decide) (fun _ _ _ => rfl) fRX5_73 dX5_odds_74 ?_
                rw [show (u2 I 53 0 1) 53 0 = 1 from (u2_eq _ _ _ _)]
                refine lv_if_le (tgt := 82) hx hb dX5_odds_77 (by decide) (fun c_77 => absurd c_77 ((show ¬ (1 : Int32) ≤ 0 by decide))) (fun c_77 => ?_)
                refine lv_lconst (v := 0) hx hb dX5_odds_80 (by decide) ?_
                exact e_l hx hb hr hlk hst rfl dX5_odds_81

set_option maxHeartbeats 4000000 in
set_option maxRecDepth 100000 in
theorem x2_X5_odds {l : Launch} {D : va_G} {cy ad : Nat → Nat} {I : Im} {G : Dm} {J : Jm} (hadI : adI ad) {v u a b pt : Int32} (hp : pt = 0 ∨ pt = 1) (hv : v < 0 ∨ 12 < v ∨ u < 0 ∨ bShare a b 16 = false) : kM l yX5_odds (.code yX5_odds cX5_odds 17 (some .long)) (rmK 1 0 0 25) D cy ad [.ref (ad 53), .int v, .int u, .int a, .int b, .int pt] I G J (qL D cy ad 0 (u2 I 53 0 2) G J) := by
  refine start_M hadI (by decide +kernel) (Nat.le_of_ble_eq_true rfl) ?_
  intro p e s m below meth cd am hx hb hr hlk hst ls hl
  have hl : lv_has ls 17 [(0, .ref (ad 53)), (1, .int v), (2, .int u), (3, .int a), (4, .int b), (5, .int pt)] := hl
  refine lv_iload_n hx hb dX5_odds_0 rfl (lv_at hl 1 rfl) ?_
  refine lv_if_lt (tgt := 41) hx hb dX5_odds_1 (by decide) (fun c_1 => ?_) (fun c_1 => ?_)
  · skip
    refine lv_iconst (v := 0) hx hb dX5_odds_41 (by decide) ?_
    refine lv_istore (lv' := [(6, .int 0), (0, .ref (ad 53)), (1, .int v), (2, .int u), (3, .int a), (4, .int b), (5, .int pt)]) hx hb dX5_odds_42 hl (by decide) rfl (fun ls hl => ?_)
    refine lv_aload_n hx hb dX5_odds_44 rfl (lv_at hl 1 rfl) ?_
    refine lv_iload hx hb dX5_odds_45 (lv_at hl 6 rfl) ?_
    refine lv_if_eq (tgt := 60) hx hb dX5_odds_47 (by decide) (fun c_47 => ?_) (fun c_47 => ?_)
    · skip
      refine lv_iload hx hb dX5_odds_60 (lv_at hl 0 rfl) ?_
      refine lv_if_eq (tgt := 69) hx hb dX5_odds_62 (by decide) (fun c_62 => ?_) (fun c_62 => absurd ((show (0 : Int32) = 0 by decide)) c_62)
      refine lv_iconst (v := 2) hx hb dX5_odds_69 (by decide) ?_
      refine w_putI am hst (k := 0) (by decide) (fun _ _ _ => cE_M) rfl inT5 tyX5 tyX5_ok nmX5 (by decide) fRX5_73 (fun _ _ _ => rfl) (fun _ _ _ => Nat.le_of_ble_eq_true rfl) rfl rfl rfl rfl dX5_odds_70 (fun H locs hst => ?_)
      refine lv_aload_n hx hb dX5_odds_73 rfl (lv_at hl 1 rfl) ?_
      refine w_getI am hst (k := 0) (by decide) (fun _ _ _ => cE_M) rfl inT5 (by decide) (fun _ _ _ => rfl) fRX5_73 dX5_odds_74 ?_
      rw [show (u2 I 53 0 2) 53 0 = 2 from (u2_eq _ _ _ _)]
      refine lv_if_le (tgt := 82) hx hb dX5_odds_77 (by decide) (fun c_77 => absurd c_77 ((show ¬ (2 : Int32) ≤ 0 by decide))) (fun c_77 => ?_)
      refine lv_lconst (v := 0) hx hb dX5_odds_80 (by decide) ?_
      exact e_l hx hb hr hlk hst rfl dX5_odds_81
    · skip
      refine lv_iload hx hb dX5_odds_50 (lv_at hl 6 rfl) ?_
      refine lv_iconst (v := 1) hx hb dX5_odds_52 (by decide) ?_
      refine lv_icmp_eq (tgt := 60) hx hb dX5_odds_53 (by decide) (fun c_53 => ?_) (fun c_53 => absurd ((hp.resolve_left c_47)) c_53)
      refine lv_iload hx hb dX5_odds_60 (lv_at hl 0 rfl) ?_
      refine lv_if_eq (tgt := 69) hx hb dX5_odds_62 (by decide) (fun c_62 => ?_) (fun c_62 => absurd ((show (0 : Int32) = 0 by decide)) c_62)
      refine lv_iconst (v := 2) hx hb dX5_odds_69 (by decide) ?_
      refine w_putI am hst (k := 0) (by decide) (fun _ _ _ => cE_M) rfl inT5 tyX5 tyX5_ok nmX5 (by decide) fRX5_73 (fun _ _ _ => rfl) (fun _ _ _ => Nat.le_of_ble_eq_true rfl) rfl rfl rfl rfl dX5_odds_70 (fun H locs hst => ?_)
      refine lv_aload_n hx hb dX5_odds_73 rfl (lv_at hl 1 rfl) ?_
      refine w_getI am hst (k := 0) (by decide) (fun _ _ _ => cE_M) rfl inT5 (by decide) (fun _ _ _ => rfl) fRX5_73 dX5_odds_74 ?_
      rw [show (u2 I 53 0 2) 53 0 = 2 from (u2_eq _ _ _ _)]
      refine lv_if_le (tgt := 82) hx hb dX5_odds_77 (by decide) (fun c_77 => absurd c_77 ((show ¬ (2 : Int32) ≤ 0 by decide))) (fun c_77 => ?_)
      refine lv_lconst (v := 0) hx hb dX5_odds_80 (by decide) ?_
      exact e_l hx hb hr hlk hst rfl dX5_odds_81
  · skip
    refine lv_iload_n hx hb dX5_odds_4 rfl (lv_at hl 1 rfl) ?_
    refine lv_bipush (v := 12) hx hb dX5_odds_5 (by decide) ?_
    refine lv_icmp_gt (tgt := 41) hx hb dX5_odds_7 (by decide) (fun c_7 => ?_) (fun c_7 => ?_)
    · skip
      refine lv_iconst (v := 0) hx hb dX5_odds_41 (by decide) ?_
      refine lv_istore (lv' := [(6, .int 0), (0, .ref (ad 53)), (1, .int v), (2, .int u), (3, .int a), (4, .int b), (5, .int pt)]) hx hb dX5_odds_42 hl (by decide) rfl (fun ls hl => ?_)
      refine lv_aload_n hx hb dX5_odds_44 rfl (lv_at hl 1 rfl) ?_
      refine lv_iload hx hb dX5_odds_45 (lv_at hl 6 rfl) ?_
      refine lv_if_eq (tgt := 60) hx hb dX5_odds_47 (by decide) (fun c_47 => ?_) (fun c_47 => ?_)
      · skip
        refine lv_iload hx hb dX5_odds_60 (lv_at hl 0 rfl) ?_
        refine lv_if_eq (tgt := 69) hx hb dX5_odds_62 (by decide) (fun c_62 => ?_) (fun c_62 => absurd ((show (0 : Int32) = 0 by decide)) c_62)
        refine lv_iconst (v := 2) hx hb dX5_odds_69 (by decide) ?_
        refine w_putI am hst (k := 0) (by decide) (fun _ _ _ => cE_M) rfl inT5 tyX5 tyX5_ok nmX5 (by decide) fRX5_73 (fun _ _ _ => rfl) (fun _ _ _ => Nat.le_of_ble_eq_true rfl) rfl rfl rfl rfl dX5_odds_70 (fun H locs hst => ?_)
        refine lv_aload_n hx hb dX5_odds_73 rfl (lv_at hl 1 rfl) ?_
        refine w_getI am hst (k := 0) (by decide) (fun _ _ _ => cE_M) rfl inT5 (by decide) (fun _ _ _ => rfl) fRX5_73 dX5_odds_74 ?_
        rw [show (u2 I 53 0 2) 53 0 = 2 from (u2_eq _ _ _ _)]
        refine lv_if_le (tgt := 82) hx hb dX5_odds_77 (by decide) (fun c_77 => absurd c_77 ((show ¬ (2 : Int32) ≤ 0 by decide))) (fun c_77 => ?_)
        refine lv_lconst (v := 0) hx hb dX5_odds_80 (by decide) ?_
        exact e_l hx hb hr hlk hst rfl dX5_odds_81
      · skip
        refine lv_iload hx hb dX5_odds_50 (lv_at hl 6 rfl) ?_
        refine lv_iconst (v := 1) hx hb dX5_odds_52 (by decide) ?_
        refine lv_icmp_eq (tgt := 60) hx hb dX5_odds_53 (by decide) (fun c_53 => ?_) (fun c_53 => absurd ((hp.resolve_left c_47)) c_53)
        refine lv_iload hx hb dX5_odds_60 (lv_at hl 0 rfl) ?_
        refine lv_if_eq (tgt := 69) hx hb dX5_odds_62 (by decide) (fun c_62 => ?_) (fun c_62 => absurd ((show (0 : Int32) = 0 by decide)) c_62)
        refine lv_iconst (v := 2) hx hb dX5_odds_69 (by decide) ?_
        refine w_putI am hst (k := 0) (by decide) (fun _ _ _ => cE_M) rfl inT5 tyX5 tyX5_ok nmX5 (by decide) fRX5_73 (fun _ _ _ => rfl) (fun _ _ _ => Nat.le_of_ble_eq_true rfl) rfl rfl rfl rfl dX5_odds_70 (fun H locs hst => ?_)
        refine lv_aload_n hx hb dX5_odds_73 rfl (lv_at hl 1 rfl) ?_
        refine w_getI am hst (k := 0) (by decide) (fun _ _ _ => cE_M) rfl inT5 (by decide) (fun _ _ _ => rfl) fRX5_73 dX5_odds_74 ?_
        rw [show (u2 I 53 0 2) 53 0 = 2 from (u2_eq _ _ _ _)]
        refine lv_if_le (tgt := 82) hx hb dX5_odds_77 (by decide) (fun c_77 => absurd c_77 ((show ¬ (2 : Int32) ≤ 0 by decide))) (fun c_77 => ?_)
        refine lv_lconst (v := 0) hx hb dX5_odds_80 (by decide) ?_
        exact e_l hx hb hr hlk hst rfl dX5_odds_81
    · skip
      refine lv_iload_n hx hb dX5_odds_10 rfl (lv_at hl 2 rfl) ?_
      refine lv_if_lt (tgt := 41) hx hb dX5_odds_11 (by decide) (fun c_11 => ?_) (fun c_11 => ?_)
      · skip
        refine lv_iconst (v := 0) hx hb dX5_odds_41 (by decide) ?_
        refine lv_istore (lv' := [(6, .int 0), (0, .ref (ad 53)), (1, .int v), (2, .int u), (3, .int a), (4, .int b), (5, .int pt)]) hx hb dX5_odds_42 hl (by decide) rfl (fun ls hl => ?_)
        refine lv_aload_n hx hb dX5_odds_44 rfl (lv_at hl 1 rfl) ?_
        refine lv_iload hx hb dX5_odds_45 (lv_at hl 6 rfl) ?_
        refine lv_if_eq (tgt := 60) hx hb dX5_odds_47 (by decide) (fun c_47 => ?_) (fun c_47 => ?_)
        · skip
          refine lv_iload hx hb dX5_odds_60 (lv_at hl 0 rfl) ?_
          refine lv_if_eq (tgt := 69) hx hb dX5_odds_62 (by decide) (fun c_62 => ?_) (fun c_62 => absurd ((show (0 : Int32) = 0 by decide)) c_62)
          refine lv_iconst (v := 2) hx hb dX5_odds_69 (by decide) ?_
          refine w_putI am hst (k := 0) (by decide) (fun _ _ _ => cE_M) rfl inT5 tyX5 tyX5_ok nmX5 (by decide) fRX5_73 (fun _ _ _ => rfl) (fun _ _ _ => Nat.le_of_ble_eq_true rfl) rfl rfl rfl rfl dX5_odds_70 (fun H locs hst => ?_)
          refine lv_aload_n hx hb dX5_odds_73 rfl (lv_at hl 1 rfl) ?_
          refine w_getI am hst (k := 0) (by decide) (fun _ _ _ => cE_M) rfl inT5 (by decide) (fun _ _ _ => rfl) fRX5_73 dX5_odds_74 ?_
          rw [show (u2 I 53 0 2) 53 0 = 2 from (u2_eq _ _ _ _)]
          refine lv_if_le (tgt := 82) hx hb dX5_odds_77 (by decide) (fun c_77 => absurd c_77 ((show ¬ (2 : Int32) ≤ 0 by decide))) (fun c_77 => ?_)
          refine lv_lconst (v := 0) hx hb dX5_odds_80 (by decide) ?_
          exact e_l hx hb hr hlk hst rfl dX5_odds_81
        · skip
          refine lv_iload hx hb dX5_odds_50 (lv_at hl 6 rfl) ?_
          refine lv_iconst (v := 1) hx hb dX5_odds_52 (by decide) ?_
          refine lv_icmp_eq (tgt := 60) hx hb dX5_odds_53 (by decide) (fun c_53 => ?_) (fun c_53 => absurd ((hp.resolve_left c_47)) c_53)
          refine lv_iload hx hb dX5_odds_60 (lv_at hl 0 rfl) ?_
          refine lv_if_eq (tgt := 69) hx hb dX5_odds_62 (by decide) (fun c_62 => ?_) (fun c_62 => absurd ((show (0 : Int32) = 0 by decide)) c_62)
          refine lv_iconst (v := 2) hx hb dX5_odds_69 (by decide) ?_
          refine w_putI am hst (k := 0) (by decide) (fun _ _ _ => cE_M) rfl inT5 tyX5 tyX5_ok nmX5 (by decide) fRX5_73 (fun _ _ _ => rfl) (fun _ _ _ => Nat.le_of_ble_eq_true rfl) rfl rfl rfl rfl dX5_odds_70 (fun H locs hst => ?_)
          refine lv_aload_n hx hb dX5_odds_73 rfl (lv_at hl 1 rfl) ?_
          refine w_getI am hst (k := 0) (by decide) (fun _ _ _ => cE_M) rfl inT5 (by decide) (fun _ _ _ => rfl) fRX5_73 dX5_odds_74 ?_
          rw [show (u2 I 53 0 2) 53 0 = 2 from (u2_eq _ _ _ _)]
          refine lv_if_le (tgt := 82) hx hb dX5_odds_77 (by decide) (fun c_77 => absurd c_77 ((show ¬ (2 : Int32) ≤ 0 by decide))) (fun c_77 => ?_)
          refine lv_lconst (v := 0) hx hb dX5_odds_80 (by decide) ?_
          exact e_l hx hb hr hlk hst rfl dX5_odds_81
      · skip
        refine lv_iload hx hb dX5_odds_14 (lv_at hl 4 rfl) ?_
        refine lv_iconst (v := 1) hx hb dX5_odds_16 (by decide) ?_
        refine lv_icmp_lt (tgt := 41) hx hb dX5_odds_17 (by decide) (fun c_17 => ?_) (fun c_17 => ?_)
        · skip
          refine lv_iconst (v := 0) hx hb dX5_odds_41 (by decide) ?_
          refine lv_istore (lv' := [(6, .int 0), (0, .ref (ad 53)), (1, .int v), (2, .int u), (3, .int a), (4, .int b), (5, .int pt)]) hx hb dX5_odds_42 hl (by decide) rfl (fun ls hl => ?_)
          refine lv_aload_n hx hb dX5_odds_44 rfl (lv_at hl 1 rfl) ?_
          refine lv_iload hx hb dX5_odds_45 (lv_at hl 6 rfl) ?_
          refine lv_if_eq (tgt := 60) hx hb dX5_odds_47 (by decide) (fun c_47 => ?_) (fun c_47 => ?_)
          · skip
            refine lv_iload hx hb dX5_odds_60 (lv_at hl 0 rfl) ?_
            refine lv_if_eq (tgt := 69) hx hb dX5_odds_62 (by decide) (fun c_62 => ?_) (fun c_62 => absurd ((show (0 : Int32) = 0 by decide)) c_62)
            refine lv_iconst (v := 2) hx hb dX5_odds_69 (by decide) ?_
            refine w_putI am hst (k := 0) (by decide) (fun _ _ _ => cE_M) rfl inT5 tyX5 tyX5_ok nmX5 (by decide) fRX5_73 (fun _ _ _ => rfl) (fun _ _ _ => Nat.le_of_ble_eq_true rfl) rfl rfl rfl rfl dX5_odds_70 (fun H locs hst => ?_)
            refine lv_aload_n hx hb dX5_odds_73 rfl (lv_at hl 1 rfl) ?_
            refine w_getI am hst (k := 0) (by decide) (fun _ _ _ => cE_M) rfl inT5 (by decide) (fun _ _ _ => rfl) fRX5_73 dX5_odds_74 ?_
            rw [show (u2 I 53 0 2) 53 0 = 2 from (u2_eq _ _ _ _)]
            refine lv_if_le (tgt := 82) hx hb dX5_odds_77 (by decide) (fun c_77 => absurd c_77 ((show ¬ (2 : Int32) ≤ 0 by decide))) (fun c_77 => ?_)
            refine lv_lconst (v := 0) hx hb dX5_odds_80 (by decide) ?_
            exact e_l hx hb hr hlk hst rfl dX5_odds_81
          · skip
            refine lv_iload hx hb dX5_odds_50 (lv_at hl 6 rfl) ?_
            refine lv_iconst (v := 1) hx hb dX5_odds_52 (by decide) ?_
            refine lv_icmp_eq (tgt := 60) hx hb dX5_odds_53 (by decide) (fun c_53 => ?_) (fun c_53 => absurd ((hp.resolve_left c_47)) c_53)
            refine lv_iload hx hb dX5_odds_60 (lv_at hl 0 rfl) ?_
            refine lv_if_eq (tgt := 69) hx hb dX5_odds_62 (by decide) (fun c_62 => ?_) (fun c_62 => absurd ((show (0 : Int32) = 0 by decide)) c_62)
            refine lv_iconst (v := 2) hx hb dX5_odds_69 (by decide) ?_
            refine w_putI am hst (k := 0) (by decide) (fun _ _ _ => cE_M) rfl inT5 tyX5 tyX5_ok nmX5 (by decide) fRX5_73 (fun _ _ _ => rfl) (fun _ _ _ => Nat.le_of_ble_eq_true rfl) rfl rfl rfl rfl dX5_odds_70 (fun H locs hst => ?_)
            refine lv_aload_n hx hb dX5_odds_73 rfl (lv_at hl 1 rfl) ?_
            refine w_getI am hst (k := 0) (by decide) (fun _ _ _ => cE_M) rfl inT5 (by decide) (fun _ _ _ => rfl) fRX5_73 dX5_odds_74 ?_
            rw [show (u2 I 53 0 2) 53 0 = 2 from (u2_eq _ _ _ _)]
            refine lv_if_le (tgt := 82) hx hb dX5_odds_77 (by decide) (fun c_77 => absurd c_77 ((show ¬ (2 : Int32) ≤ 0 by decide))) (fun c_77 => ?_)
            refine lv_lconst (v := 0) hx hb dX5_odds_80 (by decide) ?_
            exact e_l hx hb hr hlk hst rfl dX5_odds_81
        · skip
          refine lv_iload hx hb dX5_odds_20 (lv_at hl 4 rfl) ?_
          refine lv_bipush (v := 16) hx hb dX5_odds_22 (by decide) ?_
          refine lv_icmp_gt (tgt := 41) hx hb dX5_odds_24 (by decide) (fun c_24 => ?_) (fun c_24 => ?_)
          · skip
            refine lv_iconst (v := 0) hx hb dX5_odds_41 (by decide) ?_
            refine lv_istore (lv' := [(6, .int 0), (0, .ref (ad 53)), (1, .int v), (2, .int u), (3, .int a), (4, .int b), (5, .int pt)]) hx hb dX5_odds_42 hl (by decide) rfl (fun ls hl => ?_)
            refine lv_aload_n hx hb dX5_odds_44 rfl (lv_at hl 1 rfl) ?_
            refine lv_iload hx hb dX5_odds_45 (lv_at hl 6 rfl) ?_
            refine lv_if_eq (tgt := 60) hx hb dX5_odds_47 (by decide) (fun c_47 => ?_) (fun c_47 => ?_)
            · skip
              refine lv_iload hx hb dX5_odds_60 (lv_at hl 0 rfl) ?_
              refine lv_if_eq (tgt := 69) hx hb dX5_odds_62 (by decide) (fun c_62 => ?_) (fun c_62 => absurd ((show (0 : Int32) = 0 by decide)) c_62)
              refine lv_iconst (v := 2) hx hb dX5_odds_69 (by decide) ?_
              refine w_putI am hst (k := 0) (by decide) (fun _ _ _ => cE_M) rfl inT5 tyX5 tyX5_ok nmX5 (by decide) fRX5_73 (fun _ _ _ => rfl) (fun _ _ _ => Nat.le_of_ble_eq_true rfl) rfl rfl rfl rfl dX5_odds_70 (fun H locs hst => ?_)
              refine lv_aload_n hx hb dX5_odds_73 rfl (lv_at hl 1 rfl) ?_
              refine w_getI am hst (k := 0) (by decide) (fun _ _ _ => cE_M) rfl inT5 (by decide) (fun _ _ _ => rfl) fRX5_73 dX5_odds_74 ?_
              rw [show (u2 I 53 0 2) 53 0 = 2 from (u2_eq _ _ _ _)]
              refine lv_if_le (tgt := 82) hx hb dX5_odds_77 (by decide) (fun c_77 => absurd c_77 ((show ¬ (2 : Int32) ≤ 0 by decide))) (fun c_77 => ?_)
              refine lv_lconst (v := 0) hx hb dX5_odds_80 (by decide) ?_
              exact e_l hx hb hr hlk hst rfl dX5_odds_81
            · skip
              refine lv_iload hx hb dX5_odds_50 (lv_at hl 6 rfl) ?_
              refine lv_iconst (v := 1) hx hb dX5_odds_52 (by decide) ?_
              refine lv_icmp_eq (tgt := 60) hx hb dX5_odds_53 (by decide) (fun c_53 => ?_) (fun c_53 => absurd ((hp.resolve_left c_47)) c_53)
              refine lv_iload hx hb dX5_odds_60 (lv_at hl 0 rfl) ?_
              refine lv_if_eq (tgt := 69) hx hb dX5_odds_62 (by decide) (fun c_62 => ?_) (fun c_62 => absurd ((show (0 : Int32) = 0 by decide)) c_62)
              refine lv_iconst (v := 2) hx hb dX5_odds_69 (by decide) ?_
              refine w_putI am hst (k := 0) (by decide) (fun _ _ _ => cE_M) rfl inT5 tyX5 tyX5_ok nmX5 (by decide) fRX5_73 (fun _ _ _ => rfl) (fun _ _ _ => Nat.le_of_ble_eq_true rfl) rfl rfl rfl rfl dX5_odds_70 (fun H locs hst => ?_)
              refine lv_aload_n hx hb dX5_odds_73 rfl (lv_at hl 1 rfl) ?_
              refine w_getI am hst (k := 0) (by decide) (fun _ _ _ => cE_M) rfl inT5 (by decide) (fun _ _ _ => rfl) fRX5_73 dX5_odds_74 ?_
              rw [show (u2 I 53 0 2) 53 0 = 2 from (u2_eq _ _ _ _)]
              refine lv_if_le (tgt := 82) hx hb dX5_odds_77 (by decide) (fun c_77 => absurd c_77 ((show ¬ (2 : Int32) ≤ 0 by decide))) (fun c_77 => ?_)
              refine lv_lconst (v := 0) hx hb dX5_odds_80 (by decide) ?_
              exact e_l hx hb hr hlk hst rfl dX5_odds_81
          · skip
            refine lv_iload_n hx hb dX5_odds_27 rfl (lv_at hl 3 rfl) ?_
            refine lv_if_lt (tgt := 41) hx hb dX5_odds_28 (by decide) (fun c_28 => ?_) (fun c_28 => ?_)
            · skip
              refine lv_iconst (v := 0) hx hb dX5_odds_41 (by decide) ?_
              refine lv_istore (lv' := [(6, .int 0), (0, .ref (ad 53)), (1, .int v), (2, .int u), (3, .int a), (4, .int b), (5, .int pt)]) hx hb dX5_odds_42 hl (by decide) rfl (fun ls hl => ?_)
              refine lv_aload_n hx hb dX5_odds_44 rfl (lv_at hl 1 rfl) ?_
              refine lv_iload hx hb dX5_odds_45 (lv_at hl 6 rfl) ?_
              refine lv_if_eq (tgt := 60) hx hb dX5_odds_47 (by decide) (fun c_47 => ?_) (fun c_47 => ?_)
              · skip
                refine lv_iload hx hb dX5_odds_60 (lv_at hl 0 rfl) ?_
                refine lv_if_eq (tgt := 69) hx hb dX5_odds_62 (by decide) (fun c_62 => ?_) (fun c_62 => absurd ((show (0 : Int32) = 0 by decide)) c_62)
                refine lv_iconst (v := 2) hx hb dX5_odds_69 (by decide) ?_
                refine w_putI am hst (k := 0) (by decide) (fun _ _ _ => cE_M) rfl inT5 tyX5 tyX5_ok nmX5 (by decide) fRX5_73 (fun _ _ _ => rfl) (fun _ _ _ => Nat.le_of_ble_eq_true rfl) rfl rfl rfl rfl dX5_odds_70 (fun H locs hst => ?_)
                refine lv_aload_n hx hb dX5_odds_73 rfl (lv_at hl 1 rfl) ?_
                refine w_getI am hst (k := 0) (by decide) (fun _ _ _ => cE_M) rfl inT5 (by decide) (fun _ _ _ => rfl) fRX5_73 dX5_odds_74 ?_
                rw [show (u2 I 53 0 2) 53 0 = 2 from (u2_eq _ _ _ _)]
                refine lv_if_le (tgt := 82) hx hb dX5_odds_77 (by decide) (fun c_77 => absurd c_77 ((show ¬ (2 : Int32) ≤ 0 by decide))) (fun c_77 => ?_)
                refine lv_lconst (v := 0) hx hb dX5_odds_80 (by decide) ?_
                exact e_l hx hb hr hlk hst rfl dX5_odds_81
              · skip
                refine lv_iload hx hb dX5_odds_50 (lv_at hl 6 rfl) ?_
                refine lv_iconst (v := 1) hx hb dX5_odds_52 (by decide) ?_
                refine lv_icmp_eq (tgt := 60) hx hb dX5_odds_53 (by decide) (fun c_53 => ?_) (fun c_53 => absurd ((hp.resolve_left c_47)) c_53)
                refine lv_iload hx hb dX5_odds_60 (lv_at hl 0 rfl) ?_
                refine lv_if_eq (tgt := 69) hx hb dX5_odds_62 (by decide) (fun c_62 => ?_) (fun c_62 => absurd ((show (0 : Int32) = 0 by decide)) c_62)
                refine lv_iconst (v := 2) hx hb dX5_odds_69 (by decide) ?_
                refine w_putI am hst (k := 0) (by decide) (fun _ _ _ => cE_M) rfl inT5 tyX5 tyX5_ok nmX5 (by decide) fRX5_73 (fun _ _ _ => rfl) (fun _ _ _ => Nat.le_of_ble_eq_true rfl) rfl rfl rfl rfl dX5_odds_70 (fun H locs hst => ?_)
                refine lv_aload_n hx hb dX5_odds_73 rfl (lv_at hl 1 rfl) ?_
                refine w_getI am hst (k := 0) (by decide) (fun _ _ _ => cE_M) rfl inT5 (by decide) (fun _ _ _ => rfl) fRX5_73 dX5_odds_74 ?_
                rw [show (u2 I 53 0 2) 53 0 = 2 from (u2_eq _ _ _ _)]
                refine lv_if_le (tgt := 82) hx hb dX5_odds_77 (by decide) (fun c_77 => absurd c_77 ((show ¬ (2 : Int32) ≤ 0 by decide))) (fun c_77 => ?_)
                refine lv_lconst (v := 0) hx hb dX5_odds_80 (by decide) ?_
                exact e_l hx hb hr hlk hst rfl dX5_odds_81
            · skip
              refine lv_iload_n hx hb dX5_odds_31 rfl (lv_at hl 3 rfl) ?_
              refine lv_iload hx hb dX5_odds_32 (lv_at hl 4 rfl) ?_
              refine lv_icmp_gt (tgt := 41) hx hb dX5_odds_34 (by decide) (fun c_34 => ?_) (fun c_34 => absurd (((((bShN (((hv.resolve_left c_1).resolve_left c_7).resolve_left c_11)).resolve_left c_17).resolve_left c_24).resolve_left c_28)) c_34)
              refine lv_iconst (v := 0) hx hb dX5_odds_41 (by decide) ?_
              refine lv_istore (lv' := [(6, .int 0), (0, .ref (ad 53)), (1, .int v), (2, .int u), (3, .int a), (4, .int b), (5, .int pt)]) hx hb dX5_odds_42 hl (by decide) rfl (fun ls hl => ?_)
              refine lv_aload_n hx hb dX5_odds_44 rfl (lv_at hl 1 rfl) ?_
              refine lv_iload hx hb dX5_odds_45 (lv_at hl 6 rfl) ?_
              refine lv_if_eq (tgt := 60) hx hb dX5_odds_47 (by decide) (fun c_47 => ?_) (fun c_47 => ?_)
              · skip
                refine lv_iload hx hb dX5_odds_60 (lv_at hl 0 rfl) ?_
                refine lv_if_eq (tgt := 69) hx hb dX5_odds_62 (by decide) (fun c_62 => ?_) (fun c_62 => absurd ((show (0 : Int32) = 0 by decide)) c_62)
                refine lv_iconst (v := 2) hx hb dX5_odds_69 (by decide) ?_
                refine w_putI am hst (k := 0) (by decide) (fun _ _ _ => cE_M) rfl inT5 tyX5 tyX5_ok nmX5 (by decide) fRX5_73 (fun _ _ _ => rfl) (fun _ _ _ => Nat.le_of_ble_eq_true rfl) rfl rfl rfl rfl dX5_odds_70 (fun H locs hst => ?_)
                refine lv_aload_n hx hb dX5_odds_73 rfl (lv_at hl 1 rfl) ?_
                refine w_getI am hst (k := 0) (by decide) (fun _ _ _ => cE_M) rfl inT5 (by decide) (fun _ _ _ => rfl) fRX5_73 dX5_odds_74 ?_
                rw [show (u2 I 53 0 2) 53 0 = 2 from (u2_eq _ _ _ _)]
                refine lv_if_le (tgt := 82) hx hb dX5_odds_77 (by decide) (fun c_77 => absurd c_77 ((show ¬ (2 : Int32) ≤ 0 by decide))) (fun c_77 => ?_)
                refine lv_lconst (v := 0) hx hb dX5_odds_80 (by decide) ?_
                exact e_l hx hb hr hlk hst rfl dX5_odds_81
              · skip
                refine lv_iload hx hb dX5_odds_50 (lv_at hl 6 rfl) ?_
                refine lv_iconst (v := 1) hx hb dX5_odds_52 (by decide) ?_
                refine lv_icmp_eq (tgt := 60) hx hb dX5_odds_53 (by decide) (fun c_53 => ?_) (fun c_53 => absurd ((hp.resolve_left c_47)) c_53)
                refine lv_iload hx hb dX5_odds_60 (lv_at hl 0 rfl) ?_
                refine lv_if_eq (tgt := 69) hx hb dX5_odds_62 (by decide) (fun c_62 => ?_) (fun c_62 => absurd ((show (0 : Int32) = 0 by decide)) c_62)
                refine lv_iconst (v := 2) hx hb dX5_odds_69 (by decide) ?_
                refine w_putI am hst (k := 0) (by decide) (fun _ _ _ => cE_M) rfl inT5 tyX5 tyX5_ok nmX5 (by decide) fRX5_73 (fun _ _ _ => rfl) (fun _ _ _ => Nat.le_of_ble_eq_true rfl) rfl rfl rfl rfl dX5_odds_70 (fun H locs hst => ?_)
                refine lv_aload_n hx hb dX5_odds_73 rfl (lv_at hl 1 rfl) ?_
                refine w_getI am hst (k := 0) (by decide) (fun _ _ _ => cE_M) rfl inT5 (by decide) (fun _ _ _ => rfl) fRX5_73 dX5_odds_74 ?_
                rw [show (u2 I 53 0 2) 53 0 = 2 from (u2_eq _ _ _ _)]
                refine lv_if_le (tgt := 82) hx hb dX5_odds_77 (by decide) (fun c_77 => absurd c_77 ((show ¬ (2 : Int32) ≤ 0 by decide))) (fun c_77 => ?_)
                refine lv_lconst (v := 0) hx hb dX5_odds_80 (by decide) ?_
                exact e_l hx hb hr hlk hst rfl dX5_odds_81

