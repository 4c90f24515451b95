/-! the reference: its helpers -/
def mBt (X A B : UInt64) : Bool := decide (¬ Op.cmpValue (FP.dcmp X A) CmpOp.l < 0) && decide (¬ 0 < Op.cmpValue (FP.dcmp X B) CmpOp.g)
def mOK (I : Im) : Prop := ∀ b, b < 32 → ∃ r, r ≤ 8 ∧ I 55 b = nI r
theorem mOK_u {I : Im} {c k : Nat} {v : Int32} (h : mOK I) (hc : c ≠ 55) : mOK (u2 I c k v) := fun b hb => by
  obtain ⟨r, h1, h2⟩ := h b hb
  exact ⟨r, h1, (u2_ne (fun q => hc q.1.symm)).trans h2⟩
def mCompl (I : Im) (G : Dm) (k : Nat) : Bool := decide (¬ I 55 k ≤ 0) && decide (¬ Op.cmpValue (FP.dcmp (G 56 k) 0) CmpOp.l ≤ 0)
def mSum (G : Dm) (b : Nat) : Nat → UInt64 | 0 => 0 | r + 1 => Ad (mSum G b r) (G 54 (8 * b + r))
def mTerm (I : Im) (G : Dm) (b i : Nat) : UInt64 := if i = 0 then 4607182418800017408 else if i = 2 then Sb 4607182418800017408 (G 57 b) else Dv (Ad (Dv (mSum G b (I 55 b).toNatClampNeg) (FP.i2d (I 55 b))) (G 56 b)) 4611686018427387904
def ma1 (I : Im) (b i : Nat) (G : Dm) : Nat → Dm | 0 => G | j + 1 => u2 (ma1 I b i G j) 61 (3 * i + j) (Ad (ma1 I b i G j 61 (3 * i + j)) (Mu (mTerm I (ma1 I b i G j) b i) (mTerm I (ma1 I b i G j) b j)))
def ma0 (I : Im) (b : Nat) (G : Dm) : Nat → Dm | 0 => G | i + 1 => u2 (ma1 I b i (ma0 I b G i) 3) 62 i (Ad (ma1 I b i (ma0 I b G i) 3 62 i) (Mu (mTerm I (ma1 I b i (ma0 I b G i) 3) b i) (ma1 I b i (ma0 I b G i) 3 58 b)))
def mTold (I : Im) (G : Dm) (b : Nat) (c0 c1 c2 : UInt64) : UInt64 := Ad (Ad (Mu c0 (mTerm I G b 0)) (Mu c1 (mTerm I G b 1))) (Mu c2 (mTerm I G b 2))
theorem nI_lin (i j : Nat) : (3 : Int32) * nI i + nI j = nI (3 * i + j) := by rw [show (3 : Int32) = nI 3 from rfl, pk_mul, nI_add]
theorem nI_lin8 (i j : Nat) : (8 : Int32) * nI i + nI j = nI (8 * i + j) := by rw [show (8 : Int32) = nI 8 from rfl, pk_mul, nI_add]
theorem nI_4 (i : Nat) : (4 : Int32) * nI i = nI (4 * i) := by rw [show (4 : Int32) = nI 4 from rfl, pk_mul]
set_option maxHeartbeats 4000000 in
set_option maxRecDepth 100000 in
theorem k_X5_thrown {l : Launch} {D : va_G} {cy ad : Nat → Nat} {I : Im} {G : Dm} {J : Jm} (hadI : adI ad)  : kM l yX5_thrown (.code yX5_thrown cX5_thrown 1 (some .int)) (rmK 0 0 0 0) D cy ad [.ref (ad 53)] I G J (qI D cy ad (I 53 0) I G J) := by
  refine start_M hadI (by decide +kernel) (Nat.le_of_ble_eq_true rfl) ?_
  intro p e s m below meth cd am hx hb hr hlk hst ls hl
  have hl : lv_has ls 1 [(0, .ref (ad 53))] := hl
  refine lv_aload_n hx hb dX5_thrown_0 rfl (lv_at hl 0 rfl) ?_
  refine w_getI am hst (k := 0) (by decide) (fun _ _ _ => cE_M) rfl inT5 (by decide) (fun _ _ _ => rfl) fRX5_73 dX5_thrown_1 ?_
  exact e_i hx hb hr hlk hst rfl rfl dX5_thrown_4

set_option maxHeartbeats 4000000 in
set_option maxRecDepth 100000 in
theorem k_X5_between {l : Launch} {D : va_G} {cy ad : Nat → Nat} {I : Im} {G : Dm} {J : Jm} (hadI : adI ad) {x X a A b B : UInt64} (hxX : cn x = X) (haA : cn a = A) (hbB : cn b = B) : kM l yX5_between (.code yX5_between cX5_between 6 (some .boolean)) (rmK 0 0 0 0) D cy ad [.double x, .double a, .double b] I G J (qI D cy ad (zB (mBt X A B)) I G J) := by
  refine start_M hadI (by decide +kernel) (Nat.le_of_ble_eq_true rfl) ?_
  intro p e s m below meth cd am hx hb hr hlk hst ls hl
  have hl : lv_has ls 6 [(0, .double x), (2, .double a), (4, .double b)] := hl
  refine lv_dload_n hx hb dX5_between_0 rfl (lv_at hl 0 rfl) ?_
  refine lv_dload_n hx hb dX5_between_1 rfl (lv_at hl 1 rfl) ?_
  refine w_dcmp hx hb hxX haA dX5_between_2 ?_
  refine lv_if_lt (tgt := 17) hx hb dX5_between_3 (by decide) (fun c_3 => ?_) (fun c_3 => ?_)
  · skip
    refine lv_iconst (v := 0) hx hb dX5_between_17 (by decide) ?_
    exact e_i hx hb hr hlk hst rfl (by simp only [mBt, zB, c_3, not_true_eq_false, not_false_eq_true, decide_true, decide_false, Bool.true_and, Bool.false_and, Bool.and_true, Bool.and_false, Bool.and_self, if_true, if_false, ite_true, ite_false, reduceIte, Bool.false_eq_true]) dX5_between_18
  · skip
    refine lv_dload_n hx hb dX5_between_6 rfl (lv_at hl 0 rfl) ?_
    refine lv_dload hx hb dX5_between_7 (lv_at hl 2 rfl) ?_
    refine w_dcmp hx hb hxX hbB dX5_between_9 ?_
    refine lv_if_gt (tgt := 17) hx hb dX5_between_10 (by decide) (fun c_10 => ?_) (fun c_10 => ?_)
    · skip
      refine lv_iconst (v := 0) hx hb dX5_between_17 (by decide) ?_
      exact e_i hx hb hr hlk hst rfl (by simp only [mBt, zB, c_3, c_10, not_true_eq_false, not_false_eq_true, decide_true, decide_false, Bool.true_and, Bool.false_and, Bool.and_true, Bool.and_false, Bool.and_self, if_true, if_false, ite_true, ite_false, reduceIte, Bool.false_eq_true]) dX5_between_18
    · skip
      refine lv_iconst (v := 1) hx hb dX5_between_13 (by decide) ?_
      refine lv_goto (tgt := 18) hx hb dX5_between_14 (by decide) ?_
      exact e_i hx hb hr hlk hst rfl (by simp only [mBt, zB, c_3, c_10, not_true_eq_false, not_false_eq_true, decide_true, decide_false, Bool.true_and, Bool.false_and, Bool.and_true, Bool.and_false, Bool.and_self, if_true, if_false, ite_true, ite_false, reduceIte, Bool.false_eq_true]) dX5_between_18

set_option maxHeartbeats 4000000 in
set_option maxRecDepth 100000 in
theorem k_X5_noBoard {l : Launch} {D : va_G} {cy ad : Nat → Nat} {I : Im} {G : Dm} {J : Jm} (hadI : adI ad) {n k : Nat} (hn : I 53 2 = nI n) (hk : k < n) (hn2 : n ≤ 32) : kM l yX5_noBoard (.code yX5_noBoard cX5_noBoard 2 (some .boolean)) (rmK 0 0 0 0) D cy ad [.ref (ad 53), .int (nI k)] I G J (qI D cy ad 0 I G J) := by
  refine start_M hadI (by decide +kernel) (Nat.le_of_ble_eq_true rfl) ?_
  intro p e s m below meth cd am hx hb hr hlk hst ls hl
  have hl : lv_has ls 2 [(0, .ref (ad 53)), (1, .int (nI k))] := hl
  refine lv_iload_n hx hb dX5_noBoard_0 rfl (lv_at hl 1 rfl) ?_
  refine lv_if_lt (tgt := 12) hx hb dX5_noBoard_1 (by decide) (fun c_1 => absurd c_1 (nI_pos (by omega))) (fun c_1 => ?_)
  refine lv_iload_n hx hb dX5_noBoard_4 rfl (lv_at hl 1 rfl) ?_
  refine lv_aload_n hx hb dX5_noBoard_5 rfl (lv_at hl 0 rfl) ?_
  refine w_getI am hst (k := 2) (by decide) (fun _ _ _ => cE_M) rfl inT5 (by decide) (fun _ _ _ => rfl) fRX5_76 dX5_noBoard_6 ?_
  refine lv_icmp_lt (tgt := 16) hx hb dX5_noBoard_9 (by decide) (fun c_9 => ?_) (fun c_9 => absurd ((by rw [hn]; exact nI_lt hk (by omega))) c_9)
  refine lv_iconst (v := 0) hx hb dX5_noBoard_16 (by decide) ?_
  exact e_i hx hb hr hlk hst rfl rfl dX5_noBoard_17

set_option maxHeartbeats 4000000 in
set_option maxRecDepth 100000 in
theorem x_X5_noBoard {l : Launch} {D : va_G} {cy ad : Nat → Nat} {I : Im} {G : Dm} {J : Jm} (hadI : adI ad) {v : Int32} (hv : v < 0 ∨ ¬ v < I 53 2) : kM l yX5_noBoard (.code yX5_noBoard cX5_noBoard 2 (some .boolean)) (rmK 0 0 0 0) D cy ad [.ref (ad 53), .int v] I G J (qI D cy ad 1 I G J) := by
  refine start_M hadI (by decide +kernel) (Nat.le_of_ble_eq_true rfl) ?_
  intro p e s m below meth cd am hx hb hr hlk hst ls hl
  have hl : lv_has ls 2 [(0, .ref (ad 53)), (1, .int v)] := hl
  refine lv_iload_n hx hb dX5_noBoard_0 rfl (lv_at hl 1 rfl) ?_
  refine lv_if_lt (tgt := 12) hx hb dX5_noBoard_1 (by decide) (fun c_1 => ?_) (fun c_1 => ?_)
  · skip
    refine lv_iconst (v := 1) hx hb dX5_noBoard_12 (by decide) ?_
    refine lv_goto (tgt := 17) hx hb dX5_noBoard_13 (by decide) ?_
    exact e_i hx hb hr hlk hst rfl rfl dX5_noBoard_17
  · skip
    refine lv_iload_n hx hb dX5_noBoard_4 rfl (lv_at hl 1 rfl) ?_
    refine lv_aload_n hx hb dX5_noBoard_5 rfl (lv_at hl 0 rfl) ?_
    refine w_getI am hst (k := 2) (by decide) (fun _ _ _ => cE_M) rfl inT5 (by decide) (fun _ _ _ => rfl) fRX5_76 dX5_noBoard_6 ?_
    refine lv_icmp_lt (tgt := 16) hx hb dX5_noBoard_9 (by decide) (fun c_9 => absurd c_9 (hv.resolve_left c_1)) (fun c_9 => ?_)
    refine lv_iconst (v := 1) hx hb dX5_noBoard_12 (by decide) ?_
    refine lv_goto (tgt := 17) hx hb dX5_noBoard_13 (by decide) ?_
    exact e_i hx hb hr hlk hst rfl rfl dX5_noBoard_17

set_option maxHeartbeats 4000000 in
set_option maxRecDepth 100000 in
theorem k_X5_isComplete {l : Launch} {D : va_G} {cy ad : Nat → Nat} {I : Im} {G : Dm} {J : Jm} (hadI : adI ad) {k : Nat} (hk : k < 32) : kM l yX5_isComplete (.code yX5_isComplete cX5_isComplete 2 (some .boolean)) (rmK 0 0 0 0) D cy ad [.ref (ad 53), .int (nI k)] I G J (qI D cy ad (zB (mCompl I G k)) I G J) := by
  refine start_M hadI (by decide +kernel) (Nat.le_of_ble_eq_true rfl) ?_
  intro p e s m below meth cd am hx hb hr hlk hst ls hl
  have hl : lv_has ls 2 [(0, .ref (ad 53)), (1, .int (nI k))] := hl
  refine lv_aload_n hx hb dX5_isComplete_0 rfl (lv_at hl 0 rfl) ?_
  refine w_getR am hst (k := 4) (b := ad 55) (by decide) (fun _ _ _ => cE_M) rfl inT5 (by decide) (fun _ _ _ => rfl) fRX5_13 dX5_isComplete_1 ?_
  refine lv_iload_n hx hb dX5_isComplete_4 rfl (lv_at hl 1 rfl) ?_
  refine w_iald am hst (by decide) (fun _ _ _ => cE_55) (n := k) (nI_clamp (by omega)) (vp_in_nI (by omega) (by decide)) dX5_isComplete_5 ?_
  refine lv_if_le (tgt := 24) hx hb dX5_isComplete_6 (by decide) (fun c_6 => ?_) (fun c_6 => ?_)
  · skip
    refine lv_iconst (v := 0) hx hb dX5_isComplete_24 (by decide) ?_
    exact e_i hx hb hr hlk hst rfl (by simp only [mCompl, zB, c_6, not_true_eq_false, not_false_eq_true, decide_true, decide_false, Bool.true_and, Bool.false_and, Bool.and_true, Bool.and_false, Bool.and_self, if_true, if_false, ite_true, ite_false, reduceIte, Bool.false_eq_true]) dX5_isComplete_25
  · skip
    refine lv_aload_n hx hb dX5_isComplete_9 rfl (lv_at hl 0 rfl) ?_
    refine w_getR am hst (k := 5) (b := ad 56) (by decide) (fun _ _ _ => cE_M) rfl inT5 (by decide) (fun _ _ _ => rfl) fRX5_17 dX5_isComplete_10 ?_
    refine lv_iload_n hx hb dX5_isComplete_13 rfl (lv_at hl 1 rfl) ?_
    refine w_dald am hst (by decide) (fun _ _ _ => cE_56) (n := k) (nI_clamp (by omega)) (vp_in_nI (by omega) (by decide)) dX5_isComplete_14 (fun x1 hx1 => ?_)
    refine lv_dconst0 hx hb dX5_isComplete_15 ?_
    refine w_dcmp hx hb hx1 cn_k0 dX5_isComplete_16 ?_
    refine lv_if_le (tgt := 24) hx hb dX5_isComplete_17 (by decide) (fun c_17 => ?_) (fun c_17 => ?_)
    · skip
      refine lv_iconst (v := 0) hx hb dX5_isComplete_24 (by decide) ?_
      exact e_i hx hb hr hlk hst rfl (by simp only [mCompl, zB, c_6, c_17, not_true_eq_false, not_false_eq_true, decide_true, decide_false, Bool.true_and, Bool.false_and, Bool.and_true, Bool.and_false, Bool.and_self, if_true, if_false, ite_true, ite_false, reduceIte, Bool.false_eq_true]) dX5_isComplete_25
    · skip
      refine lv_iconst (v := 1) hx hb dX5_isComplete_20 (by decide) ?_
      refine lv_goto (tgt := 25) hx hb dX5_isComplete_21 (by decide) ?_
      exact e_i hx hb hr hlk hst rfl (by simp only [mCompl, zB, c_6, c_17, not_true_eq_false, not_false_eq_true, decide_true, decide_false, Bool.true_and, Bool.false_and, Bool.and_true, Bool.and_false, Bool.and_self, if_true, if_false, ite_true, ite_false, reduceIte, Bool.false_eq_true]) dX5_isComplete_25

set_option maxHeartbeats 4000000 in
set_option maxRecDepth 100000 in
theorem k_X5_x {l : Launch} {D : va_G} {cy ad : Nat → Nat} {I : Im} {G : Dm} {J : Jm} (hadI : adI ad) {b i : Nat} (hm : mOK I) (hb32 : b < 32) (hi3 : i < 3) : kD l yX5_x (.code yX5_x cX5_x 6 (some .double)) (rmK 0 0 0 0) D cy ad [.ref (ad 53), .int (nI b), .int (nI i)] I G J (qD D cy ad (mTerm I G b i) I G J) := by
  refine start_D hadI (by decide +kernel) (Nat.le_of_ble_eq_true rfl) ?_
  intro p e s m below meth cd am hx hb hr hlk hst ls hl d0 hd
  have hl : lv_has ls 6 [(0, .ref (ad 53)), (1, .int (nI b)), (2, .int (nI i))] := hl
  obtain ⟨r, hr8, hrc⟩ := hm b hb32
  rcases (show i = 0 ∨ i = 1 ∨ i = 2 by omega) with rfl | rfl | rfl
  · skip
    refine lv_iload_n hx hb dX5_x_0 rfl (lv_at hl 2 rfl) ?_
    refine lv_if_ne (tgt := 6) hx hb dX5_x_1 (by decide) (fun c_1 => absurd rfl c_1) (fun c_1 => ?_)
    refine lv_dconst1 hx hb dX5_x_4 ?_
    exact e_dD hd hx hb hr hlk hst (by rw [cn_k4607182418800017408]; rfl) dX5_x_5
  · skip
    refine lv_iload_n hx hb dX5_x_0 rfl (lv_at hl 2 rfl) ?_
    refine lv_if_ne (tgt := 6) hx hb dX5_x_1 (by decide) (fun c_1 => ?_) (fun c_1 => absurd c_1 ((show ¬ nI 1 = 0 by decide)))
    refine lv_iload_n hx hb dX5_x_6 rfl (lv_at hl 2 rfl) ?_
    refine lv_iconst (v := 2) hx hb dX5_x_7 (by decide) ?_
    refine lv_icmp_ne (tgt := 20) hx hb dX5_x_8 (by decide) (fun c_8 => ?_) (fun c_8 => absurd c_8 ((show ¬ nI 1 = 2 by decide)))
    refine lv_dconst0 hx hb dX5_x_20 ?_
    refine lv_dstore_n (lv' := [(3, .double FP.dconst0), (0, .ref (ad 53)), (1, .int (nI b)), (2, .int (nI 1))]) hx hb dX5_x_21 rfl hl (by decide) rfl (fun ls hl => ?_)
    refine lv_iconst (v := 0) hx hb dX5_x_22 (by decide) ?_
    refine lv_istore (lv' := [(5, .int 0), (3, .double FP.dconst0), (0, .ref (ad 53)), (1, .int (nI b)), (2, .int (nI 1))]) hx hb dX5_x_23 hl (by decide) rfl (fun ls hl => ?_)
    have lp0 : ∀ (n i : Nat), n + i = r → ∀ x : UInt64, cn x = mSum G b i → ∀ d0 : Drawn, s.drawn.sameBut d0 lw_cs → ∀ (H : Heap) (locs : List Loc), St D cy ad s.heap I G J H locs → ∀ ls, lv_has ls 6 [(0, .ref (ad 53)), (1, .int (nI b)), (2, .int (nI 1)), (3, .double x), (5, .int (nI i))] → W p l e (rmK 0 0 0 0) (s.setDrawn d0) m [.ref (ad 53), .int (nI b), .int (nI 1)].toArray below meth cd H locs 0 0 (MQD lw_cs below (qD D cy ad (mTerm I G b 1) I G J s.heap.size) [.ref (ad 53), .int (nI b), .int (nI 1)].toArray s ((rmK 0 0 0 0)).cells ((rmK 0 0 0 0)).slots (aA ad s.heap.size)) (F0 m 25 ls []) := by
      intro n
      induction n with
      | zero =>
        intro i hi x hxs d0 hd H locs hst ls hl
        obtain rfl : r = i := by omega
        refine lv_iload hx hb dX5_x_25 (lv_at hl 4 rfl) ?_
        refine lv_aload_n hx hb dX5_x_27 rfl (lv_at hl 0 rfl) ?_
        refine w_getR am hst (k := 4) (b := ad 55) (by decide) (fun _ _ _ => cE_M) rfl inT5 (by decide) (fun _ _ _ => rfl) fRX5_13 dX5_x_28 ?_
        refine lv_iload_n hx hb dX5_x_31 rfl (lv_at hl 1 rfl) ?_
        refine w_iald am hst (by decide) (fun _ _ _ => cE_55) (n := b) (nI_clamp (by omega)) (vp_in_nI (by omega) (by decide)) dX5_x_32 ?_
        rw [hrc]
        refine lv_icmp_ge (tgt := 57) hx hb dX5_x_33 (by decide) (fun c_33 => ?_) (fun c_33 => absurd ((nI_le (Nat.le_refl _) (by omega))) c_33)
        refine lv_dload_n hx hb dX5_x_57 rfl (lv_at hl 3 rfl) ?_
        refine lv_aload_n hx hb dX5_x_58 rfl (lv_at hl 0 rfl) ?_
        refine w_getR am hst (k := 4) (b := ad 55) (by decide) (fun _ _ _ => cE_M) rfl inT5 (by decide) (fun _ _ _ => rfl) fRX5_13 dX5_x_59 ?_
        refine lv_iload_n hx hb dX5_x_62 rfl (lv_at hl 1 rfl) ?_
        refine w_iald am hst (by decide) (fun _ _ _ => cE_55) (n := b) (nI_clamp (by omega)) (vp_in_nI (by omega) (by decide)) dX5_x_63 ?_
        rw [hrc]
        refine w_i2d hx hb dX5_x_64 (fun x1 hx1 => ?_)
        refine w_ddiv hd hx hb hxs hx1 dX5_x_65 (fun x2 d0 hx2 hd => ?_)
        refine lv_aload_n hx hb dX5_x_66 rfl (lv_at hl 0 rfl) ?_
        refine w_getR am hst (k := 5) (b := ad 56) (by decide) (fun _ _ _ => cE_M) rfl inT5 (by decide) (fun _ _ _ => rfl) fRX5_17 dX5_x_67 ?_
        refine lv_iload_n hx hb dX5_x_70 rfl (lv_at hl 1 rfl) ?_
        refine w_dald am hst (by decide) (fun _ _ _ => cE_56) (n := b) (nI_clamp (by omega)) (vp_in_nI (by omega) (by decide)) dX5_x_71 (fun x3 hx3 => ?_)
        refine w_dadd hd hx hb hx2 hx3 dX5_x_72 (fun x4 d0 hx4 hd => ?_)
        refine lv_ldc2d hx hb am.2.2.2.1 (amT am _ wRX5_93) dX5_x_73 ?_
        refine w_ddiv hd hx hb hx4 cn_k4611686018427387904 dX5_x_76 (fun x5 d0 hx5 hd => ?_)
        exact e_dD hd hx hb hr hlk hst (by rw [hx5]; unfold mTerm; rw [if_neg (by decide), if_neg (by decide), hrc, nI_clamp (by omega)]) dX5_x_77
      | succ n ih_lp0 =>
        intro i hi x hxs d0 hd H locs hst ls hl
        refine lv_iload hx hb dX5_x_25 (lv_at hl 4 rfl) ?_
        refine lv_aload_n hx hb dX5_x_27 rfl (lv_at hl 0 rfl) ?_
        refine w_getR am hst (k := 4) (b := ad 55) (by decide) (fun _ _ _ => cE_M) rfl inT5 (by decide) (fun _ _ _ => rfl) fRX5_13 dX5_x_28 ?_
        refine lv_iload_n hx hb dX5_x_31 rfl (lv_at hl 1 rfl) ?_
        refine w_iald am hst (by decide) (fun _ _ _ => cE_55) (n := b) (nI_clamp (by omega)) (vp_in_nI (by omega) (by decide)) dX5_x_32 ?_
        rw [hrc]
        refine lv_icmp_ge (tgt := 57) hx hb dX5_x_33 (by decide) (fun c_33 => absurd c_33 ((nI_ge (by omega) (by omega)))) (fun c_33 => ?_)
        refine lv_dload_n hx hb dX5_x_36 rfl (lv_at hl 3 rfl) ?_
        refine lv_aload_n hx hb dX5_x_37 rfl (lv_at hl 0 rfl) ?_
        refine w_getR am hst (k := 3) (b := ad 54) (by decide) (fun _ _ _ => cE_M) rfl inT5 (by decide) (fun _ _ _ => rfl) fRX5_7 dX5_x_38 ?_
        refine lv_bipush (v := 8) hx hb dX5_x_41 (by decide) ?_
        refine lv_iload_n hx hb dX5_x_43 rfl (lv_at hl 1 rfl) ?_
        refine lv_imul hx hb dX5_x_44 ?_
        refine lv_iload hx hb dX5_x_45 (lv_at hl 4 rfl) ?_
        refine lv_iadd hx hb dX5_x_47 ?_
        rw [nI_lin8]
        refine w_dald am hst (by decide) (fun _ _ _ => cE_54) (n := 8 * b + i) (nI_clamp (by omega)) (vp_in_nI (by omega) (by decide)) dX5_x_48 (fun x6 hx6 => ?_)
        refine w_dadd hd hx hb hxs hx6 dX5_x_49 (fun x7 d0 hx7 hd => ?_)
        refine lv_dstore_n (lv' := [(3, .double x7), (0, .ref (ad 53)), (1, .int (nI b)), (2, .int (nI 1)), (5, .int (nI i))]) hx hb dX5_x_50 rfl hl (by decide) rfl (fun ls hl => ?_)
        refine lv_iinc (v := nI (i + 1)) (lv' := [(5, .int (nI (i + 1))), (3, .double x7), (0, .ref (ad 53)), (1, .int (nI b)), (2, .int (nI 1))]) hx hb dX5_x_51 hl (k := 4) rfl (nI_1 i) (by decide) rfl (fun ls hl => ?_)
        refine lv_goto (tgt := 25) hx hb dX5_x_54 (by decide) ?_
        exact ih_lp0 (i + 1) (by omega) _ hx7 d0 hd _ _ hst ls (lv_sub hl [2, 3, 4, 1, 0] rfl)
    exact lp0 r 0 (by omega) _ cn_k0 d0 hd _ _ hst ls (lv_sub hl [2, 3, 4, 1, 0] rfl)
  · skip
    refine lv_iload_n hx hb dX5_x_0 rfl (lv_at hl 2 rfl) ?_
    refine lv_if_ne (tgt := 6) hx hb dX5_x_1 (by decide) (fun c_1 => ?_) (fun c_1 => absurd c_1 ((show ¬ nI 2 = 0 by decide)))
    refine lv_iload_n hx hb dX5_x_6 rfl (lv_at hl 2 rfl) ?_
    refine lv_iconst (v := 2) hx hb dX5_x_7 (by decide) ?_
    refine lv_icmp_ne (tgt := 20) hx hb dX5_x_8 (by decide) (fun c_8 => absurd rfl c_8) (fun c_8 => ?_)
    refine lv_dconst1 hx hb dX5_x_11 ?_
    refine lv_aload_n hx hb dX5_x_12 rfl (lv_at hl 0 rfl) ?_
    refine w_getR am hst (k := 6) (b := ad 57) (by decide) (fun _ _ _ => cE_M) rfl inT5 (by decide) (fun _ _ _ => rfl) fRX5_20 dX5_x_13 ?_
    refine lv_iload_n hx hb dX5_x_16 rfl (lv_at hl 1 rfl) ?_
    refine w_dald am hst (by decide) (fun _ _ _ => cE_57) (n := b) (nI_clamp (by omega)) (vp_in_nI (by omega) (by decide)) dX5_x_17 (fun x1 hx1 => ?_)
    refine w_dsub hd hx hb cn_k4607182418800017408 hx1 dX5_x_18 (fun x2 d0 hx2 hd => ?_)
    exact e_dD hd hx hb hr hlk hst (by rw [hx2]; rfl) dX5_x_19

set_option maxHeartbeats 4000000 in
set_option maxRecDepth 100000 in
theorem k_X5_told {l : Launch} {D : va_G} {cy ad : Nat → Nat} {I : Im} {G : Dm} {J : Jm} (hadI : adI ad) {b : Nat} {c0 c1 c2 C0 C1 C2 : UInt64} (hm : mOK I) (hb : b < 32) (hc0 : cn c0 = C0) (hc1 : cn c1 = C1) (hc2 : cn c2 = C2) : kD l yX5_told (.code yX5_told cX5_told 8 (some .double)) (rmK 1 0 0 25) D cy ad [.ref (ad 53), .int (nI b), .double c0, .double c1, .double c2] I G J (qD D cy ad (mTold I G b C0 C1 C2) I G J) := by
  refine start_D hadI (by decide +kernel) (Nat.le_of_ble_eq_true rfl) ?_
  intro p e s m below meth cd am hx hb hr hlk hst ls hl d0 hd
  have hl : lv_has ls 8 [(0, .ref (ad 53)), (1, .int (nI b)), (2, .double c0), (4, .double c1), (6, .double c2)] := hl
  refine lv_dload_n hx hb dX5_told_0 rfl (lv_at hl 2 rfl) ?_
  refine lv_aload_n hx hb dX5_told_1 rfl (lv_at hl 0 rfl) ?_
  refine lv_iload_n hx hb dX5_told_2 rfl (lv_at hl 1 rfl) ?_
  refine lv_iconst (v := 0) hx hb dX5_told_3 (by decide) ?_
  refine c_dD hd hst (r_VD (As := [.int (nI b), .int (nI 0)]) (rest := [.double c0]) am hst hl (k_X5_x hadI (b := b) (i := 0) hm (by omega) (by omega)) kRX5_95 imX5_x slX5_x ⟨Nat.le_of_ble_eq_true rfl, Nat.le_of_ble_eq_true rfl⟩ (by decide) (fun _ _ _ => cE_M) rfl rfl rfl (Nat.le_of_ble_eq_true rfl) dX5_told_4 ⟨Nat.le_of_ble_eq_true rfl, Nat.le_of_ble_eq_true rfl⟩) (fun x1 d0 H locs hx1 hd hst => ?_)
  refine w_dmul hd hx hb hc0 hx1 dX5_told_7 (fun x2 d0 hx2 hd => ?_)
  refine lv_dload hx hb dX5_told_8 (lv_at hl 3 rfl) ?_
  refine lv_aload_n hx hb dX5_told_10 rfl (lv_at hl 0 rfl) ?_
  refine lv_iload_n hx hb dX5_told_11 rfl (lv_at hl 1 rfl) ?_
  refine lv_iconst (v := 1) hx hb dX5_told_12 (by decide) ?_
  refine c_dD hd hst (r_VD (As := [.int (nI b), .int (nI 1)]) (rest := [.double c1, .double x2]) am hst hl (k_X5_x hadI (b := b) (i := 1) hm (by omega) (by omega)) kRX5_95 imX5_x slX5_x ⟨Nat.le_of_ble_eq_true rfl, Nat.le_of_ble_eq_true rfl⟩ (by decide) (fun _ _ _ => cE_M) rfl rfl rfl (Nat.le_of_ble_eq_true rfl) dX5_told_13 ⟨Nat.le_of_ble_eq_true rfl, Nat.le_of_ble_eq_true rfl⟩) (fun x3 d0 H locs hx3 hd hst => ?_)
  refine w_dmul hd hx hb hc1 hx3 dX5_told_16 (fun x4 d0 hx4 hd => ?_)
  refine w_dadd hd hx hb hx2 hx4 dX5_told_17 (fun x5 d0 hx5 hd => ?_)
  refine lv_dload hx hb dX5_told_18 (lv_at hl 4 rfl) ?_
  refine lv_aload_n hx hb dX5_told_20 rfl (lv_at hl 0 rfl) ?_
  refine lv_iload_n hx hb dX5_told_21 rfl (lv_at hl 1 rfl) ?_
  refine lv_iconst (v := 2) hx hb dX5_told_22 (by decide) ?_
  refine c_dD hd hst (r_VD (As := [.int (nI b), .int (nI 2)]) (rest := [.double c2, .double x5]) am hst hl (k_X5_x hadI (b := b) (i := 2) hm (by omega) (by omega)) kRX5_95 imX5_x slX5_x ⟨Nat.le_of_ble_eq_true rfl, Nat.le_of_ble_eq_true rfl⟩ (by decide) (fun _ _ _ => cE_M) rfl rfl rfl (Nat.le_of_ble_eq_true rfl) dX5_told_23 ⟨Nat.le_of_ble_eq_true rfl, Nat.le_of_ble_eq_true rfl⟩) (fun x6 d0 H locs hx6 hd hst => ?_)
  refine w_dmul hd hx hb hc2 hx6 dX5_told_26 (fun x7 d0 hx7 hd => ?_)
  refine w_dadd hd hx hb hx5 hx7 dX5_told_27 (fun x8 d0 hx8 hd => ?_)
  exact e_dD hd hx hb hr hlk hst hx8 dX5_told_28

set_option maxHeartbeats 4000000 in
set_option maxRecDepth 100000 in
theorem k_X5_power {l : Launch} {D : va_G} {cy ad : Nat → Nat} {I : Im} {G : Dm} {J : Jm} (hadI : adI ad) {b : Int64} {N : Nat} (hN : N < 100) : kM l yX5_power (.code yX5_power cX5_power 6 (some .long)) (rmK 0 0 0 0) D cy ad [.long b, .int (nI N)] I G J (qL D cy ad (powL b N) I G J) := by
  refine start_M hadI (by decide +kernel) (Nat.le_of_ble_eq_true rfl) ?_
  intro p e s m below meth cd am hx hb hr hlk hst ls hl
  have hl : lv_has ls 6 [(0, .long b), (2, .int (nI N))] := hl
  refine lv_lconst (v := 1) hx hb dX5_power_0 (by decide) ?_
  refine lv_lstore_n (lv' := [(3, .long 1), (0, .long b), (2, .int (nI N))]) hx hb dX5_power_1 rfl hl (by decide) rfl (fun ls hl => ?_)
  refine lv_iconst (v := 0) hx hb dX5_power_2 (by decide) ?_
  refine lv_istore (lv' := [(5, .int 0), (3, .long 1), (0, .long b), (2, .int (nI N))]) hx hb dX5_power_3 hl (by decide) rfl (fun ls hl => ?_)
  have lp0 : ∀ (n i : Nat), n + i = N → ∀ (H : Heap) (locs : List Loc), St D cy ad s.heap I G J H locs → ∀ ls, lv_has ls 6 [(0, .long b), (2, .int (nI N)), (3, .long (powL b i)), (5, .int (nI i))] → W p l e (rmK 0 0 0 0) (s.setDrawn s.drawn) m [.long b, .int (nI N)].toArray below meth cd H locs 0 0 (MQ below (qL D cy ad (powL b N) I G J s.heap.size) [.long b, .int (nI N)].toArray s ((rmK 0 0 0 0)).cells ((rmK 0 0 0 0)).slots (aA ad s.heap.size)) (F0 m 5 ls []) := by
    intro n
    induction n with
    | zero =>
      intro i hi H locs hst ls hl
      obtain rfl : N = i := by omega
      refine lv_iload hx hb dX5_power_5 (lv_at hl 3 rfl) ?_
      refine lv_iload_n hx hb dX5_power_7 rfl (lv_at hl 1 rfl) ?_
      refine lv_icmp_ge (tgt := 21) hx hb dX5_power_8 (by decide) (fun c_8 => ?_) (fun c_8 => absurd ((nI_le (Nat.le_refl _) (by omega))) c_8)
      refine lv_lload_n hx hb dX5_power_21 rfl (lv_at hl 2 rfl) ?_
      exact e_l hx hb hr hlk hst rfl dX5_power_22
    | succ n ih_lp0 =>
      intro i hi H locs hst ls hl
      refine lv_iload hx hb dX5_power_5 (lv_at hl 3 rfl) ?_
      refine lv_iload_n hx hb dX5_power_7 rfl (lv_at hl 1 rfl) ?_
      refine lv_icmp_ge (tgt := 21) hx hb dX5_power_8 (by decide) (fun c_8 => absurd c_8 ((nI_ge (by omega) (by omega)))) (fun c_8 => ?_)
      refine lv_lload_n hx hb dX5_power_11 rfl (lv_at hl 2 rfl) ?_
      refine lv_lload_n hx hb dX5_power_12 rfl (lv_at hl 0 rfl) ?_
      refine lv_lmul hx hb dX5_power_13 ?_
      refine lv_lstore_n (lv' := [(3, .long ((powL b i) * b)), (0, .long b), (2, .int (nI N)), (5, .int (nI i))]) hx hb dX5_power_14 rfl hl (by decide) rfl (fun ls hl => ?_)
      refine lv_iinc (v := nI (i + 1)) (lv' := [(5, .int (nI (i + 1))), (3, .long ((powL b i) * b)), (0, .long b), (2, .int (nI N))]) hx hb dX5_power_15 hl (k := 3) rfl (nI_1 i) (by decide) rfl (fun ls hl => ?_)
      refine lv_goto (tgt := 5) hx hb dX5_power_18 (by decide) ?_
      exact ih_lp0 (i + 1) (by omega) _ _ hst ls (lv_sub hl [2, 3, 1, 0] rfl)
  exact lp0 N 0 (by omega) _ _ hst ls (lv_sub hl [2, 3, 1, 0] rfl)

set_option maxHeartbeats 4000000 in
set_option maxRecDepth 100000 in
theorem k_X5_add {l : Launch} {D : va_G} {cy ad : Nat → Nat} {I : Im} {G : Dm} {J : Jm} (hadI : adI ad) {b : Nat} (hm : mOK I) (hb : b < 32) : kD l yX5_add (.code yX5_add cX5_add 4 none) (rmK 1 0 0 25) D cy ad [.ref (ad 53), .int (nI b)] I G J (qV D cy ad I (ma0 I b G 3) J) := by
  refine start_D hadI (by decide +kernel) (Nat.le_of_ble_eq_true rfl) ?_
  intro p e s m below meth cd am hx hb hr hlk hst ls hl d0 hd
  have hl : lv_has ls 4 [(0, .ref (ad 53)), (1, .int (nI b))] := hl
  refine lv_iconst (v := 0) hx hb dX5_add_0 (by decide) ?_
  refine lv_istore_n (lv' := [(2, .int 0), (0, .ref (ad 53)), (1, .int (nI b))]) hx hb dX5_add_1 rfl hl (by decide) rfl (fun ls hl => ?_)
  have lp0 : ∀ (n i : Nat), n + i = 3 → ∀ d0 : Drawn, s.drawn.sameBut d0 lw_cs → ∀ (H : Heap) (locs : List Loc), St D cy ad s.heap I (ma0 I b G i) J H locs → ∀ ls, lv_has ls 4 [(0, .ref (ad 53)), (1, .int (nI b)), (2, .int (nI i))] → W p l e (rmK 1 0 0 25) (s.setDrawn d0) m [.ref (ad 53), .int (nI b)].toArray below meth cd H locs 0 0 (MQD lw_cs below (qV D cy ad I (ma0 I b G 3) J s.heap.size) [.ref (ad 53), .int (nI b)].toArray s ((rmK 1 0 0 25)).cells ((rmK 1 0 0 25)).slots (aA ad s.heap.size)) (F0 m 2 ls []) := by
    intro n
    induction n with
    | zero =>
      intro i hi d0 hd H locs hst ls hl
      obtain rfl : 3 = i := by omega
      refine lv_iload_n hx hb dX5_add_2 rfl (lv_at hl 2 rfl) ?_
      refine lv_iconst (v := 3) hx hb dX5_add_3 (by decide) ?_
      refine lv_icmp_ge (tgt := 86) hx hb dX5_add_4 (by decide) (fun c_4 => ?_) (fun c_4 => absurd ((show (3 : Int32) ≤ nI 3 by decide)) c_4)
      exact e_vD hd hx hb hr hlk hst dX5_add_86
    | succ n ih_lp0 =>
      intro i hi d0 hd H locs hst ls hl
      refine lv_iload_n hx hb dX5_add_2 rfl (lv_at hl 2 rfl) ?_
      refine lv_iconst (v := 3) hx hb dX5_add_3 (by decide) ?_
      refine lv_icmp_ge (tgt := 86) hx hb dX5_add_4 (by decide) (fun c_4 => absurd c_4 ((nI_ge (b := 3) (by omega) (by decide)))) (fun c_4 => ?_)
      refine lv_iconst (v := 0) hx hb dX5_add_7 (by decide) ?_
      refine lv_istore_n (lv' := [(3, .int 0), (0, .ref (ad 53)), (1, .int (nI b)), (2, .int (nI i))]) hx hb dX5_add_8 rfl hl (by decide) rfl (fun ls hl => ?_)
      have lp1 : ∀ (n j : Nat), n + j = 3 → ∀ d0 : Drawn, s.drawn.sameBut d0 lw_cs → ∀ (H : Heap) (locs : List Loc), St D cy ad s.heap I (ma1 I b i (ma0 I b G i) j) J H locs → ∀ ls, lv_has ls 4 [(0, .ref (ad 53)), (1, .int (nI b)), (2, .int (nI i)), (3, .int (nI j))] → W p l e (rmK 1 0 0 25) (s.setDrawn d0) m [.ref (ad 53), .int (nI b)].toArray below meth cd H locs 0 0 (MQD lw_cs below (qV D cy ad I (ma0 I b G 3) J s.heap.size) [.ref (ad 53), .int (nI b)].toArray s ((rmK 1 0 0 25)).cells ((rmK 1 0 0 25)).slots (aA ad s.heap.size)) (F0 m 9 ls []) := by
        intro n
        induction n with
        | zero =>
          intro j hi d0 hd H locs hst ls hl
          obtain rfl : 3 = j := by omega
          refine lv_iload_n hx hb dX5_add_9 rfl (lv_at hl 3 rfl) ?_
          refine lv_iconst (v := 3) hx hb dX5_add_10 (by decide) ?_
          refine lv_icmp_ge (tgt := 54) hx hb dX5_add_11 (by decide) (fun c_11 => ?_) (fun c_11 => absurd ((show (3 : Int32) ≤ nI 3 by decide)) c_11)
          refine lv_aload_n hx hb dX5_add_54 rfl (lv_at hl 0 rfl) ?_
          refine w_getR am hst (k := 11) (b := ad 62) (by decide) (fun _ _ _ => cE_M) rfl inT5 (by decide) (fun _ _ _ => rfl) fRX5_36 dX5_add_55 ?_
          refine lv_iload_n hx hb dX5_add_58 rfl (lv_at hl 2 rfl) ?_
          refine lv_aload_n hx hb dX5_add_59 rfl (lv_at hl 0 rfl) ?_
          refine w_getR am hst (k := 11) (b := ad 62) (by decide) (fun _ _ _ => cE_M) rfl inT5 (by decide) (fun _ _ _ => rfl) fRX5_36 dX5_add_60 ?_
          refine lv_iload_n hx hb dX5_add_63 rfl (lv_at hl 2 rfl) ?_
          refine w_dald am hst (by decide) (fun _ _ _ => cE_62) (n := i) (nI_clamp (by omega)) (vp_in_nI (by omega) (by decide)) dX5_add_64 (fun x1 hx1 => ?_)
          refine lv_aload_n hx hb dX5_add_65 rfl (lv_at hl 0 rfl) ?_
          refine lv_iload_n hx hb dX5_add_66 rfl (lv_at hl 1 rfl) ?_
          refine lv_iload_n hx hb dX5_add_67 rfl (lv_at hl 2 rfl) ?_
          refine c_dD hd hst (r_VD (As := [.int (nI b), .int (nI i)]) (rest := [.double x1, .int (nI i), .ref (ad 62)]) am hst hl (k_X5_x hadI (b := b) (i := i) hm (by omega) (by omega)) kRX5_95 imX5_x slX5_x ⟨Nat.le_of_ble_eq_true rfl, Nat.le_of_ble_eq_true rfl⟩ (by decide) (fun _ _ _ => cE_M) rfl rfl rfl (Nat.le_of_ble_eq_true rfl) dX5_add_68 ⟨Nat.le_of_ble_eq_true rfl, Nat.le_of_ble_eq_true rfl⟩) (fun x2 d0 H locs hx2 hd hst => ?_)
          refine lv_aload_n hx hb dX5_add_71 rfl (lv_at hl 0 rfl) ?_
          refine w_getR am hst (k := 7) (b := ad 58) (by decide) (fun _ _ _ => cE_M) rfl inT5 (by decide) (fun _ _ _ => rfl) fRX5_23 dX5_add_72 ?_
          refine lv_iload_n hx hb dX5_add_75 rfl (lv_at hl 1 rfl) ?_
          refine w_dald am hst (by decide) (fun _ _ _ => cE_58) (n := b) (nI_clamp (by omega)) (vp_in_nI (by omega) (by decide)) dX5_add_76 (fun x3 hx3 => ?_)
          refine w_dmul hd hx hb hx2 hx3 dX5_add_77 (fun x4 d0 hx4 hd => ?_)
          refine w_dadd hd hx hb hx1 hx4 dX5_add_78 (fun x5 d0 hx5 hd => ?_)
          refine w_dast am hst hx5 (by decide) (fun _ _ _ => cE_62) (n := i) (nI_clamp (by omega)) (vp_in_nI (by omega) (by decide)) dX5_add_79 (fun H locs hst => ?_)
          refine lv_iinc (v := nI (i + 1)) (lv' := [(2, .int (nI (i + 1))), (0, .ref (ad 53)), (1, .int (nI b)), (3, .int (nI 3))]) hx hb dX5_add_80 hl (k := 2) rfl (nI_1 i) (by decide) rfl (fun ls hl => ?_)
          refine lv_goto (tgt := 2) hx hb dX5_add_83 (by decide) ?_
          exact ih_lp0 (i + 1) (by omega) d0 hd _ _ hst ls (lv_sub hl [1, 2, 0] rfl)
        | succ n ih_lp1 =>
          intro j hi d0 hd H locs hst ls hl
          refine lv_iload_n hx hb dX5_add_9 rfl (lv_at hl 3 rfl) ?_
          refine lv_iconst (v := 3) hx hb dX5_add_10 (by decide) ?_
          refine lv_icmp_ge (tgt := 54) hx hb dX5_add_11 (by decide) (fun c_11 => absurd c_11 ((nI_ge (b := 3) (by omega) (by decide)))) (fun c_11 => ?_)
          refine lv_aload_n hx hb dX5_add_14 rfl (lv_at hl 0 rfl) ?_
          refine w_getR am hst (k := 10) (b := ad 61) (by decide) (fun _ _ _ => cE_M) rfl inT5 (by decide) (fun _ _ _ => rfl) fRX5_33 dX5_add_15 ?_
          refine lv_iconst (v := 3) hx hb dX5_add_18 (by decide) ?_
          refine lv_iload_n hx hb dX5_add_19 rfl (lv_at hl 2 rfl) ?_
          refine lv_imul hx hb dX5_add_20 ?_
          refine lv_iload_n hx hb dX5_add_21 rfl (lv_at hl 3 rfl) ?_
          refine lv_iadd hx hb dX5_add_22 ?_
          rw [nI_lin]
          refine lv_aload_n hx hb dX5_add_23 rfl (lv_at hl 0 rfl) ?_
          refine w_getR am hst (k := 10) (b := ad 61) (by decide) (fun _ _ _ => cE_M) rfl inT5 (by decide) (fun _ _ _ => rfl) fRX5_33 dX5_add_24 ?_
          refine lv_iconst (v := 3) hx hb dX5_add_27 (by decide) ?_
          refine lv_iload_n hx hb dX5_add_28 rfl (lv_at hl 2 rfl) ?_
          refine lv_imul hx hb dX5_add_29 ?_
          refine lv_iload_n hx hb dX5_add_30 rfl (lv_at hl 3 rfl) ?_
          refine lv_iadd hx hb dX5_add_31 ?_
          rw [nI_lin]
          refine w_dald am hst (by decide) (fun _ _ _ => cE_61) (n := 3 * i + j) (nI_clamp (by omega)) (vp_in_nI (by omega) (by decide)) dX5_add_32 (fun x6 hx6 => ?_)
          refine lv_aload_n hx hb dX5_add_33 rfl (lv_at hl 0 rfl) ?_
          refine lv_iload_n hx hb dX5_add_34 rfl (lv_at hl 1 rfl) ?_
          refine lv_iload_n hx hb dX5_add_35 rfl (lv_at hl 2 rfl) ?_
          refine c_dD hd hst (r_VD (As := [.int (nI b), .int (nI i)]) (rest := [.double x6, .int (nI (3 * i + j)), .ref (ad 61)]) am hst hl (k_X5_x hadI (b := b) (i := i) hm (by omega) (by omega)) kRX5_95 imX5_x slX5_x ⟨Nat.le_of_ble_eq_true rfl, Nat.le_of_ble_eq_true rfl⟩ (by decide) (fun _ _ _ => cE_M) rfl rfl rfl (Nat.le_of_ble_eq_true rfl) dX5_add_36 ⟨Nat.le_of_ble_eq_true rfl, Nat.le_of_ble_eq_true rfl⟩) (fun x7 d0 H locs hx7 hd hst => ?_)
          refine lv_aload_n hx hb dX5_add_39 rfl (lv_at hl 0 rfl) ?_
          refine lv_iload_n hx hb dX5_add_40 rfl (lv_at hl 1 rfl) ?_
          refine lv_iload_n hx hb dX5_add_41 rfl (lv_at hl 3 rfl) ?_
          refine c_dD hd hst (r_VD (As := [.int (nI b), .int (nI j)]) (rest := [.double x7, .double x6, .int (nI (3 * i + j)), .ref (ad 61)]) am hst hl (k_X5_x hadI (b := b) (i := j) hm (by omega) (by omega)) kRX5_95 imX5_x slX5_x ⟨Nat.le_of_ble_eq_true rfl, Nat.le_of_ble_eq_true rfl⟩ (by decide) (fun _ _ _ => cE_M) rfl rfl rfl (Nat.le_of_ble_eq_true rfl) dX5_add_42 ⟨Nat.le_of_ble_eq_true rfl, Nat.le_of_ble_eq_true rfl⟩) (fun x8 d0 H locs hx8 hd hst => ?_)
          refine w_dmul hd hx hb hx7 hx8 dX5_add_45 (fun x9 d0 hx9 hd => ?_)
          refine w_dadd hd hx hb hx6 hx9 dX5_add_46 (fun x10 d0 hx10 hd => ?_)
          refine w_dast am hst hx10 (by decide) (fun _ _ _ => cE_61) (n := 3 * i + j) (nI_clamp (by omega)) (vp_in_nI (by omega) (by decide)) dX5_add_47 (fun H locs hst => ?_)
          refine lv_iinc (v := nI (j + 1)) (lv' := [(3, .int (nI (j + 1))), (0, .ref (ad 53)), (1, .int (nI b)), (2, .int (nI i))]) hx hb dX5_add_48 hl (k := 3) rfl (nI_1 j) (by decide) rfl (fun ls hl => ?_)
          refine lv_goto (tgt := 9) hx hb dX5_add_51 (by decide) ?_
          exact ih_lp1 (j + 1) (by omega) d0 hd _ _ hst ls (lv_sub hl [1, 2, 3, 0] rfl)
      exact lp1 3 0 (by omega) d0 hd _ _ hst ls (lv_sub hl [1, 2, 3, 0] rfl)
  exact lp0 3 0 (by omega) d0 hd _ _ hst ls (lv_sub hl [1, 2, 0] rfl)

