/-! references by days; the foretold values kept, how many are weak; powers, ways, divisors -/
def betw (I : Im) (G : Dm) (a b : Nat) (v : Int32) : UInt64 := Ad (G 52 a) (Dv (Mu (FP.i2d (v - I 51 a)) (Sb (G 52 b) (G 52 a))) (FP.i2d (I 51 b - I 51 a)))
def vaF (I : Im) (G : Dm) (v : Int32) : Nat → Nat → UInt64 → UInt64 | 0, _, x => x | n + 1, i, _ => if v = I 51 i then G 52 i else if i = 0 ∧ ¬ I 51 i ≤ v then G 52 i else if ¬ i = 0 ∧ ¬ v ≤ I 51 (i - 1) ∧ ¬ I 51 i ≤ v then betw I G (i - 1) i v else vaF I G v n (i + 1) (G 52 i)
def kf1 (I : Im) (G : Dm) : Nat → Dm | 0 => G | i + 1 => u2 (kf1 I G i) (2 + i) 7 (fore 34 I (kf1 I G i) (2 + i))
def enP (I : Im) (G : Dm) (X : UInt64) (i : Nat) : Bool := bFit I G (2 + i) && decide (¬ Op.cmpValue (FP.dcmp (G (2 + i) 7) X) CmpOp.l < 0)
def enQ (G : Dm) (L : UInt64) (i : Nat) : Bool := decide (¬ 0 ≤ Op.cmpValue (FP.dcmp (G (2 + i) 4) L) CmpOp.g)
def enC (I : Im) (G : Dm) (X : UInt64) : Nat → Nat | 0 => 0 | i + 1 => if enP I G X i = true then enC I G X i + 1 else enC I G X i
def enW (I : Im) (G : Dm) (X L : UInt64) : Nat → Nat | 0 => 0 | i + 1 => if (enP I G X i && enQ G L i) = true then enW I G X L i + 1 else enW I G X L i
def enR (I : Im) (G : Dm) (X L : UInt64) (a b : Int32) : Bool := decide (¬ a * nI (enC I G X 32) < nI (enW I G X L 32) * b)
def powL (b : Int64) : Nat → Int64 | 0 => 1 | n + 1 => powL b n * b
def wfC (N : Nat) : Nat → Int64 | 0 => 1 | k + 1 => wfC N k * (nI (N - k)).toInt64 / (nI (k + 1)).toInt64
def wfS (N : Nat) (a h : Int64) : Nat → Int64 | 0 => 0 | k + 1 => wfS N a h k + wfC N k * powL a k * powL h (N - k)
def gE : Nat → Int64 → Int64 → Int64 | 0, a, _ => a | n + 1, a, b => if b = 0 then a else gE n b (a - a / b * b)
set_option maxHeartbeats 4000000 in
set_option maxRecDepth 100000 in
theorem k_X3_between {l : Launch} {D : va_G} {cy ad : Nat → Nat} {I : Im} {G : Dm} {J : Jm} (hadI : adI ad) {a b : Nat} {v : Int32} (ha : a < 16) (hb16 : b < 16) : kD l yX3_between (.code yX3_between cX3_between 8 (some .double)) (rmK 0 0 0 0) D cy ad [.ref (ad 50), .int (nI a), .int (nI b), .int v] I G J (qD D cy ad (betw I G a b v) I G J) := by
  refine start_D hadI (by decide +kernel) (Nat.le_of_ble_eq_true rfl) ?_
  intro p e s m below meth cd am hx hb hr hlk hst ls hl d0 hd
  have hl : lv_has ls 8 [(0, .ref (ad 50)), (1, .int (nI a)), (2, .int (nI b)), (3, .int v)] := hl
  refine lv_iload_n hx hb dX3_between_0 rfl (lv_at hl 3 rfl) ?_
  refine lv_aload_n hx hb dX3_between_1 rfl (lv_at hl 0 rfl) ?_
  refine w_getR am hst (k := 0) (b := ad 51) (by decide) (fun _ _ _ => cE_50) rfl inT3 (by decide) (fun _ _ _ => rfl) fRX3_9 dX3_between_2 ?_
  refine lv_iload_n hx hb dX3_between_5 rfl (lv_at hl 1 rfl) ?_
  refine w_iald am hst (by decide) (fun _ _ _ => cE_51) (n := a) (nI_clamp (by omega)) (vp_in_nI (by omega) (by decide)) dX3_between_6 ?_
  refine lv_isub hx hb dX3_between_7 ?_
  refine w_i2d hx hb dX3_between_8 (fun x1 hx1 => ?_)
  refine lv_dstore (lv' := [(4, .double x1), (0, .ref (ad 50)), (1, .int (nI a)), (2, .int (nI b)), (3, .int v)]) hx hb dX3_between_9 hl (by decide) rfl (fun ls hl => ?_)
  refine lv_aload_n hx hb dX3_between_11 rfl (lv_at hl 1 rfl) ?_
  refine w_getR am hst (k := 0) (b := ad 51) (by decide) (fun _ _ _ => cE_50) rfl inT3 (by decide) (fun _ _ _ => rfl) fRX3_9 dX3_between_12 ?_
  refine lv_iload_n hx hb dX3_between_15 rfl (lv_at hl 3 rfl) ?_
  refine w_iald am hst (by decide) (fun _ _ _ => cE_51) (n := b) (nI_clamp (by omega)) (vp_in_nI (by omega) (by decide)) dX3_between_16 ?_
  refine lv_aload_n hx hb dX3_between_17 rfl (lv_at hl 1 rfl) ?_
  refine w_getR am hst (k := 0) (b := ad 51) (by decide) (fun _ _ _ => cE_50) rfl inT3 (by decide) (fun _ _ _ => rfl) fRX3_9 dX3_between_18 ?_
  refine lv_iload_n hx hb dX3_between_21 rfl (lv_at hl 2 rfl) ?_
  refine w_iald am hst (by decide) (fun _ _ _ => cE_51) (n := a) (nI_clamp (by omega)) (vp_in_nI (by omega) (by decide)) dX3_between_22 ?_
  refine lv_isub hx hb dX3_between_23 ?_
  refine w_i2d hx hb dX3_between_24 (fun x2 hx2 => ?_)
  refine lv_dstore (lv' := [(6, .double x2), (4, .double x1), (0, .ref (ad 50)), (1, .int (nI a)), (2, .int (nI b)), (3, .int v)]) hx hb dX3_between_25 hl (by decide) rfl (fun ls hl => ?_)
  refine lv_aload_n hx hb dX3_between_27 rfl (lv_at hl 2 rfl) ?_
  refine w_getR am hst (k := 1) (b := ad 52) (by decide) (fun _ _ _ => cE_50) rfl inT3 (by decide) (fun _ _ _ => rfl) fRX3_15 dX3_between_28 ?_
  refine lv_iload_n hx hb dX3_between_31 rfl (lv_at hl 3 rfl) ?_
  refine w_dald am hst (by decide) (fun _ _ _ => cE_52) (n := a) (nI_clamp (by omega)) (vp_in_nI (by omega) (by decide)) dX3_between_32 (fun x3 hx3 => ?_)
  refine lv_dload hx hb dX3_between_33 (lv_at hl 1 rfl) ?_
  refine lv_aload_n hx hb dX3_between_35 rfl (lv_at hl 2 rfl) ?_
  refine w_getR am hst (k := 1) (b := ad 52) (by decide) (fun _ _ _ => cE_50) rfl inT3 (by decide) (fun _ _ _ => rfl) fRX3_15 dX3_between_36 ?_
  refine lv_iload_n hx hb dX3_between_39 rfl (lv_at hl 4 rfl) ?_
  refine w_dald am hst (by decide) (fun _ _ _ => cE_52) (n := b) (nI_clamp (by omega)) (vp_in_nI (by omega) (by decide)) dX3_between_40 (fun x4 hx4 => ?_)
  refine lv_aload_n hx hb dX3_between_41 rfl (lv_at hl 2 rfl) ?_
  refine w_getR am hst (k := 1) (b := ad 52) (by decide) (fun _ _ _ => cE_50) rfl inT3 (by decide) (fun _ _ _ => rfl) fRX3_15 dX3_between_42 ?_
  refine lv_iload_n hx hb dX3_between_45 rfl (lv_at hl 3 rfl) ?_
  refine w_dald am hst (by decide) (fun _ _ _ => cE_52) (n := a) (nI_clamp (by omega)) (vp_in_nI (by omega) (by decide)) dX3_between_46 (fun x5 hx5 => ?_)
  refine w_dsub hd hx hb hx4 hx5 dX3_between_47 (fun x6 d0 hx6 hd => ?_)
  refine w_dmul hd hx hb hx1 hx6 dX3_between_48 (fun x7 d0 hx7 hd => ?_)
  refine lv_dload hx hb dX3_between_49 (lv_at hl 0 rfl) ?_
  refine w_ddiv hd hx hb hx7 hx2 dX3_between_51 (fun x8 d0 hx8 hd => ?_)
  refine w_dadd hd hx hb hx3 hx8 dX3_between_52 (fun x9 d0 hx9 hd => ?_)
  exact e_dD hd hx hb hr hlk hst hx9 dX3_between_53

set_option maxHeartbeats 4000000 in
set_option maxRecDepth 100000 in
theorem k_X3_valueAt {l : Launch} {D : va_G} {cy ad : Nat → Nat} {I : Im} {G : Dm} {J : Jm} (hadI : adI ad) {v : Int32} {cnt : Nat} (hcnt : I 50 2 = nI cnt) (hcnt2 : cnt ≤ 16) : kD l yX3_valueAt (.code yX3_valueAt cX3_valueAt 5 (some .double)) (rmK 1 0 0 27) D cy ad [.ref (ad 50), .int v] I G J (qD D cy ad (vaF I G v cnt 0 0) I G J) := by
  refine start_D hadI (by decide +kernel) (Nat.le_of_ble_eq_true rfl) ?_
  intro p e s m below meth cd am hx hb hr hlk hst ls hl d0 hd
  have hl : lv_has ls 5 [(0, .ref (ad 50)), (1, .int v)] := hl
  refine lv_dconst0 hx hb dX3_valueAt_0 ?_
  refine lv_dstore_n (lv' := [(2, .double FP.dconst0), (0, .ref (ad 50)), (1, .int v)]) hx hb dX3_valueAt_1 rfl hl (by decide) rfl (fun ls hl => ?_)
  refine lv_iconst (v := 0) hx hb dX3_valueAt_2 (by decide) ?_
  refine lv_istore (lv' := [(4, .int 0), (2, .double FP.dconst0), (0, .ref (ad 50)), (1, .int v)]) hx hb dX3_valueAt_3 hl (by decide) rfl (fun ls hl => ?_)
  have lp0 : ∀ (n i : Nat), n + i = cnt → ∀ x X : UInt64, cn x = X → vaF I G v n i X = vaF I G v cnt 0 0 → ∀ d0 : Drawn, s.drawn.sameBut d0 lw_cs → ∀ (H : Heap) (locs : List Loc), St D cy ad s.heap I G J H locs → ∀ ls, lv_has ls 5 [(0, .ref (ad 50)), (1, .int v), (2, .double x), (4, .int (nI i))] → W p l e (rmK 1 0 0 27) (s.setDrawn d0) m [.ref (ad 50), .int v].toArray below meth cd H locs 0 0 (MQD lw_cs below (qD D cy ad (vaF I G v cnt 0 0) I G J s.heap.size) [.ref (ad 50), .int v].toArray s ((rmK 1 0 0 27)).cells ((rmK 1 0 0 27)).slots (aA ad s.heap.size)) (F0 m 5 ls []) := by
    intro n
    induction n with
    | zero =>
      intro i hi x X hxX hR d0 hd H locs hst ls hl
      obtain rfl : cnt = i := by omega
      refine lv_iload hx hb dX3_valueAt_5 (lv_at hl 3 rfl) ?_
      refine lv_aload_n hx hb dX3_valueAt_7 rfl (lv_at hl 0 rfl) ?_
      refine w_getI am hst (k := 2) (by decide) (fun _ _ _ => cE_50) rfl inT3 (by decide) (fun _ _ _ => rfl) fRX3_23 dX3_valueAt_8 ?_
      rw [hcnt]
      refine lv_icmp_ge (tgt := 104) hx hb dX3_valueAt_11 (by decide) (fun c_11 => ?_) (fun c_11 => absurd ((nI_le (Nat.le_refl _) (by omega))) c_11)
      refine lv_dload_n hx hb dX3_valueAt_104 rfl (lv_at hl 2 rfl) ?_
      exact e_dD hd hx hb hr hlk hst (by rw [hxX]; exact hR) dX3_valueAt_105
    | succ n ih_lp0 =>
      intro i hi x X hxX hR d0 hd H locs hst ls hl
      refine lv_iload hx hb dX3_valueAt_5 (lv_at hl 3 rfl) ?_
      refine lv_aload_n hx hb dX3_valueAt_7 rfl (lv_at hl 0 rfl) ?_
      refine w_getI am hst (k := 2) (by decide) (fun _ _ _ => cE_50) rfl inT3 (by decide) (fun _ _ _ => rfl) fRX3_23 dX3_valueAt_8 ?_
      rw [hcnt]
      refine lv_icmp_ge (tgt := 104) hx hb dX3_valueAt_11 (by decide) (fun c_11 => absurd c_11 ((nI_ge (by omega) (by omega)))) (fun c_11 => ?_)
      refine lv_iload_n hx hb dX3_valueAt_14 rfl (lv_at hl 1 rfl) ?_
      refine lv_aload_n hx hb dX3_valueAt_15 rfl (lv_at hl 0 rfl) ?_
      refine w_getR am hst (k := 0) (b := ad 51) (by decide) (fun _ _ _ => cE_50) rfl inT3 (by decide) (fun _ _ _ => rfl) fRX3_9 dX3_valueAt_16 ?_
      refine lv_iload hx hb dX3_valueAt_19 (lv_at hl 3 rfl) ?_
      refine w_iald am hst (by decide) (fun _ _ _ => cE_51) (n := i) (nI_clamp (by omega)) (vp_in_nI (by omega) (by decide)) dX3_valueAt_21 ?_
      refine lv_icmp_eq (tgt := 41) hx hb dX3_valueAt_22 (by decide) (fun c_22 => ?_) (fun c_22 => ?_)
      · skip
        refine lv_aload_n hx hb dX3_valueAt_41 rfl (lv_at hl 0 rfl) ?_
        refine w_getR am hst (k := 1) (b := ad 52) (by decide) (fun _ _ _ => cE_50) rfl inT3 (by decide) (fun _ _ _ => rfl) fRX3_15 dX3_valueAt_42 ?_
        refine lv_iload hx hb dX3_valueAt_45 (lv_at hl 3 rfl) ?_
        refine w_dald am hst (by decide) (fun _ _ _ => cE_52) (n := i) (nI_clamp (by omega)) (vp_in_nI (by omega) (by decide)) dX3_valueAt_47 (fun x1 hx1 => ?_)
        exact e_dD hd hx hb hr hlk hst (by rw [hx1, ← hR, vaF, if_pos c_22]) dX3_valueAt_48
      · skip
        refine lv_iload hx hb dX3_valueAt_25 (lv_at hl 3 rfl) ?_
        refine lv_if_ne (tgt := 49) hx hb dX3_valueAt_27 (by decide) (fun c_27 => ?_) (fun c_27 => ?_)
        · skip
          refine lv_iload hx hb dX3_valueAt_49 (lv_at hl 3 rfl) ?_
          refine lv_if_le (tgt := 90) hx hb dX3_valueAt_51 (by decide) (fun c_51 => absurd c_51 ((nI_nle (Nat.pos_of_ne_zero (fun h => c_27 (by rw [h]; rfl))) (by omega)))) (fun c_51 => ?_)
          refine lv_aload_n hx hb dX3_valueAt_54 rfl (lv_at hl 0 rfl) ?_
          refine w_getR am hst (k := 0) (b := ad 51) (by decide) (fun _ _ _ => cE_50) rfl inT3 (by decide) (fun _ _ _ => rfl) fRX3_9 dX3_valueAt_55 ?_
          refine lv_iload hx hb dX3_valueAt_58 (lv_at hl 3 rfl) ?_
          refine lv_iconst (v := 1) hx hb dX3_valueAt_60 (by decide) ?_
          have hi1 : 0 < i := (Nat.pos_of_ne_zero (fun h => c_27 (by rw [h]; rfl)))
          refine lv_isub hx hb dX3_valueAt_61 ?_
          rw [show nI i - 1 = nI (i - 1) from pk_sub (b := 1) (by omega)]
          refine w_iald am hst (by decide) (fun _ _ _ => cE_51) (n := i - 1) (nI_clamp (by omega)) (vp_in_nI (by omega) (by decide)) dX3_valueAt_62 ?_
          refine lv_iload_n hx hb dX3_valueAt_63 rfl (lv_at hl 1 rfl) ?_
          refine lv_icmp_ge (tgt := 90) hx hb dX3_valueAt_64 (by decide) (fun c_64 => ?_) (fun c_64 => ?_)
          · skip
            refine lv_aload_n hx hb dX3_valueAt_90 rfl (lv_at hl 0 rfl) ?_
            refine w_getR am hst (k := 1) (b := ad 52) (by decide) (fun _ _ _ => cE_50) rfl inT3 (by decide) (fun _ _ _ => rfl) fRX3_15 dX3_valueAt_91 ?_
            refine lv_iload hx hb dX3_valueAt_94 (lv_at hl 3 rfl) ?_
            refine w_dald am hst (by decide) (fun _ _ _ => cE_52) (n := i) (nI_clamp (by omega)) (vp_in_nI (by omega) (by decide)) dX3_valueAt_96 (fun x2 hx2 => ?_)
            refine lv_dstore_n (lv' := [(2, .double x2), (0, .ref (ad 50)), (1, .int v), (4, .int (nI i))]) hx hb dX3_valueAt_97 rfl hl (by decide) rfl (fun ls hl => ?_)
            refine lv_iinc (v := nI (i + 1)) (lv' := [(4, .int (nI (i + 1))), (2, .double x2), (0, .ref (ad 50)), (1, .int v)]) hx hb dX3_valueAt_98 hl (k := 3) rfl (nI_1 i) (by decide) rfl (fun ls hl => ?_)
            refine lv_goto (tgt := 5) hx hb dX3_valueAt_101 (by decide) ?_
            exact ih_lp0 (i + 1) (by omega) x2 _ hx2 (by rw [← hR]; show _ = (if _ then _ else _); rw [if_neg c_22, if_neg (fun h => c_27 (by rw [h.1]; rfl)), if_neg (fun h => h.2.1 c_64)]) d0 hd _ _ hst ls (lv_sub hl [2, 3, 1, 0] rfl)
          · skip
            refine lv_iload_n hx hb dX3_valueAt_67 rfl (lv_at hl 1 rfl) ?_
            refine lv_aload_n hx hb dX3_valueAt_68 rfl (lv_at hl 0 rfl) ?_
            refine w_getR am hst (k := 0) (b := ad 51) (by decide) (fun _ _ _ => cE_50) rfl inT3 (by decide) (fun _ _ _ => rfl) fRX3_9 dX3_valueAt_69 ?_
            refine lv_iload hx hb dX3_valueAt_72 (lv_at hl 3 rfl) ?_
            refine w_iald am hst (by decide) (fun _ _ _ => cE_51) (n := i) (nI_clamp (by omega)) (vp_in_nI (by omega) (by decide)) dX3_valueAt_74 ?_
            refine lv_icmp_ge (tgt := 90) hx hb dX3_valueAt_75 (by decide) (fun c_75 => ?_) (fun c_75 => ?_)
            · skip
              refine lv_aload_n hx hb dX3_valueAt_90 rfl (lv_at hl 0 rfl) ?_
              refine w_getR am hst (k := 1) (b := ad 52) (by decide) (fun _ _ _ => cE_50) rfl inT3 (by decide) (fun _ _ _ => rfl) fRX3_15 dX3_valueAt_91 ?_
              refine lv_iload hx hb dX3_valueAt_94 (lv_at hl 3 rfl) ?_
              refine w_dald am hst (by decide) (fun _ _ _ => cE_52) (n := i) (nI_clamp (by omega)) (vp_in_nI (by omega) (by decide)) dX3_valueAt_96 (fun x3 hx3 => ?_)
              refine lv_dstore_n (lv' := [(2, .double x3), (0, .ref (ad 50)), (1, .int v), (4, .int (nI i))]) hx hb dX3_valueAt_97 rfl hl (by decide) rfl (fun ls hl => ?_)
              refine lv_iinc (v := nI (i + 1)) (lv' := [(4, .int (nI (i + 1))), (2, .double x3), (0, .ref (ad 50)), (1, .int v)]) hx hb dX3_valueAt_98 hl (k := 3) rfl (nI_1 i) (by decide) rfl (fun ls hl => ?_)
              refine lv_goto (tgt := 5) hx hb dX3_valueAt_101 (by decide) ?_
              exact ih_lp0 (i + 1) (by omega) x3 _ hx3 (by rw [← hR]; show _ = (if _ then _ else _); rw [if_neg c_22, if_neg (fun h => c_27 (by rw [h.1]; rfl)), if_neg (fun h => h.2.2 c_75)]) d0 hd _ _ hst ls (lv_sub hl [2, 3, 1, 0] rfl)
            · skip
              refine lv_aload_n hx hb dX3_valueAt_78 rfl (lv_at hl 0 rfl) ?_
              refine lv_iload hx hb dX3_valueAt_79 (lv_at hl 3 rfl) ?_
              refine lv_iconst (v := 1) hx hb dX3_valueAt_81 (by decide) ?_
              refine lv_isub hx hb dX3_valueAt_82 ?_
              rw [show nI i - 1 = nI (i - 1) from pk_sub (b := 1) (by omega)]
              refine lv_iload hx hb dX3_valueAt_83 (lv_at hl 3 rfl) ?_
              refine lv_iload_n hx hb dX3_valueAt_85 rfl (lv_at hl 1 rfl) ?_
              refine c_dD hd hst (r_VD (As := [.int (nI (i - 1)), .int (nI i), .int v]) (rest := []) am hst hl (k_X3_between hadI (a := i - 1) (b := i) (by omega) (by omega)) kRX3_26 imX3_between slX3_between ⟨Nat.le_of_ble_eq_true rfl, Nat.le_of_ble_eq_true rfl⟩ (by decide) (fun _ _ _ => cE_50) rfl rfl rfl (Nat.le_of_ble_eq_true rfl) dX3_valueAt_86 ⟨Nat.le_of_ble_eq_true rfl, Nat.le_of_ble_eq_true rfl⟩) (fun x4 d0 H locs hx4 hd hst => ?_)
              exact e_dD hd hx hb hr hlk hst (by rw [hx4, ← hR, vaF, if_neg c_22, if_neg (fun h => c_27 (by rw [h.1]; rfl)), if_pos ⟨fun h => c_27 (by rw [h]; rfl), c_64, c_75⟩]) dX3_valueAt_89
        · skip
          refine lv_iload_n hx hb dX3_valueAt_30 rfl (lv_at hl 1 rfl) ?_
          refine lv_aload_n hx hb dX3_valueAt_31 rfl (lv_at hl 0 rfl) ?_
          refine w_getR am hst (k := 0) (b := ad 51) (by decide) (fun _ _ _ => cE_50) rfl inT3 (by decide) (fun _ _ _ => rfl) fRX3_9 dX3_valueAt_32 ?_
          refine lv_iload hx hb dX3_valueAt_35 (lv_at hl 3 rfl) ?_
          refine w_iald am hst (by decide) (fun _ _ _ => cE_51) (n := i) (nI_clamp (by omega)) (vp_in_nI (by omega) (by decide)) dX3_valueAt_37 ?_
          refine lv_icmp_ge (tgt := 49) hx hb dX3_valueAt_38 (by decide) (fun c_38 => ?_) (fun c_38 => ?_)
          · skip
            refine lv_iload hx hb dX3_valueAt_49 (lv_at hl 3 rfl) ?_
            refine lv_if_le (tgt := 90) hx hb dX3_valueAt_51 (by decide) (fun c_51 => ?_) (fun c_51 => absurd ((by rw [c_27]; decide)) c_51)
            refine lv_aload_n hx hb dX3_valueAt_90 rfl (lv_at hl 0 rfl) ?_
            refine w_getR am hst (k := 1) (b := ad 52) (by decide) (fun _ _ _ => cE_50) rfl inT3 (by decide) (fun _ _ _ => rfl) fRX3_15 dX3_valueAt_91 ?_
            refine lv_iload hx hb dX3_valueAt_94 (lv_at hl 3 rfl) ?_
            refine w_dald am hst (by decide) (fun _ _ _ => cE_52) (n := i) (nI_clamp (by omega)) (vp_in_nI (by omega) (by decide)) dX3_valueAt_96 (fun x5 hx5 => ?_)
            refine lv_dstore_n (lv' := [(2, .double x5), (0, .ref (ad 50)), (1, .int v), (4, .int (nI i))]) hx hb dX3_valueAt_97 rfl hl (by decide) rfl (fun ls hl => ?_)
            refine lv_iinc (v := nI (i + 1)) (lv' := [(4, .int (nI (i + 1))), (2, .double x5), (0, .ref (ad 50)), (1, .int v)]) hx hb dX3_valueAt_98 hl (k := 3) rfl (nI_1 i) (by decide) rfl (fun ls hl => ?_)
            refine lv_goto (tgt := 5) hx hb dX3_valueAt_101 (by decide) ?_
            exact ih_lp0 (i + 1) (by omega) x5 _ hx5 (by rw [← hR]; show _ = (if _ then _ else _); rw [if_neg c_22, if_neg (fun h => h.2 c_38), if_neg (fun h => h.1 ((nI_eq (b := 0) (by omega) (by omega)).mp c_27))]) d0 hd _ _ hst ls (lv_sub hl [2, 3, 1, 0] rfl)
          · skip
            refine lv_aload_n hx hb dX3_valueAt_41 rfl (lv_at hl 0 rfl) ?_
            refine w_getR am hst (k := 1) (b := ad 52) (by decide) (fun _ _ _ => cE_50) rfl inT3 (by decide) (fun _ _ _ => rfl) fRX3_15 dX3_valueAt_42 ?_
            refine lv_iload hx hb dX3_valueAt_45 (lv_at hl 3 rfl) ?_
            refine w_dald am hst (by decide) (fun _ _ _ => cE_52) (n := i) (nI_clamp (by omega)) (vp_in_nI (by omega) (by decide)) dX3_valueAt_47 (fun x6 hx6 => ?_)
            exact e_dD hd hx hb hr hlk hst (by rw [hx6, ← hR, vaF, if_neg c_22, if_pos ⟨((nI_eq (b := 0) (by omega) (by omega)).mp c_27), c_38⟩]) dX3_valueAt_48
  exact lp0 cnt 0 (by omega) _ _ cn_k0 rfl d0 hd _ _ hst ls (lv_sub hl [2, 3, 1, 0] rfl)

set_option maxHeartbeats 4000000 in
set_option maxRecDepth 100000 in
theorem k_X4_keepForetold {l : Launch} {D : va_G} {cy ad : Nat → Nat} {I : Im} {G : Dm} {J : Jm} (hadI : adI ad)  : kD l yX4_keepForetold (.code yX4_keepForetold cX4_keepForetold 5 none) (rmK 3 0 0 62) D cy ad [.ref (ad 0)] I G J (qV D cy ad I (kf1 I G 32) J) := by
  refine start_D hadI (by decide +kernel) (Nat.le_of_ble_eq_true rfl) ?_
  intro p e s m below meth cd am hx hb hr hlk hst ls hl d0 hd
  have hl : lv_has ls 5 [(0, .ref (ad 0))] := hl
  refine lv_aload_n hx hb dX4_keepForetold_0 rfl (lv_at hl 0 rfl) ?_
  refine w_getR am hst (k := 1) (b := ad 1) (by decide) (fun _ _ _ => cE_S) rfl inT4 (by decide) (fun _ _ _ => rfl) fRX4_15 dX4_keepForetold_1 ?_
  refine lv_astore_n (lv' := [(1, .ref (ad 1)), (0, .ref (ad 0))]) hx hb dX4_keepForetold_4 rfl hl (by decide) rfl (fun ls hl => ?_)
  refine lv_aload_n hx hb dX4_keepForetold_5 rfl (lv_at hl 0 rfl) ?_
  refine w_alen am hst (t0 := 3) (v := 32) (by decide) _ (fun _ => cE_1) rfl rfl dX4_keepForetold_6 ?_
  refine lv_istore_n (lv' := [(2, .int 32), (1, .ref (ad 1)), (0, .ref (ad 0))]) hx hb dX4_keepForetold_7 rfl hl (by decide) rfl (fun ls hl => ?_)
  refine lv_iconst (v := 0) hx hb dX4_keepForetold_8 (by decide) ?_
  refine lv_istore_n (lv' := [(3, .int 0), (2, .int 32), (1, .ref (ad 1)), (0, .ref (ad 0))]) hx hb dX4_keepForetold_9 rfl hl (by decide) rfl (fun ls hl => ?_)
  have lp0 : ∀ (n i : Nat), n + i = 32 → ∀ d0 : Drawn, s.drawn.sameBut d0 lw_cs → ∀ (H : Heap) (locs : List Loc), St D cy ad s.heap I (kf1 I G i) J H locs → ∀ ls, lv_has ls 5 [(0, .ref (ad 0)), (1, .ref (ad 1)), (2, .int 32), (3, .int (nI i))] → W p l e (rmK 3 0 0 62) (s.setDrawn d0) m [.ref (ad 0)].toArray below meth cd H locs 0 0 (MQD lw_cs below (qV D cy ad I (kf1 I G 32) J s.heap.size) [.ref (ad 0)].toArray s ((rmK 3 0 0 62)).cells ((rmK 3 0 0 62)).slots (aA ad s.heap.size)) (F0 m 10 ls []) := by
    intro n
    induction n with
    | zero =>
      intro i hi d0 hd H locs hst ls hl
      obtain rfl : 32 = i := by omega
      refine lv_iload_n hx hb dX4_keepForetold_10 rfl (lv_at hl 3 rfl) ?_
      refine lv_iload_n hx hb dX4_keepForetold_11 rfl (lv_at hl 2 rfl) ?_
      refine lv_icmp_ge (tgt := 40) hx hb dX4_keepForetold_12 (by decide) (fun c_12 => ?_) (fun c_12 => absurd ((show (32 : Int32) ≤ nI 32 by decide)) c_12)
      exact e_vD hd hx hb hr hlk hst dX4_keepForetold_40
    | succ n ih_lp0 =>
      intro i hi d0 hd H locs hst ls hl
      refine lv_iload_n hx hb dX4_keepForetold_10 rfl (lv_at hl 3 rfl) ?_
      refine lv_iload_n hx hb dX4_keepForetold_11 rfl (lv_at hl 2 rfl) ?_
      refine lv_icmp_ge (tgt := 40) hx hb dX4_keepForetold_12 (by decide) (fun c_12 => absurd c_12 ((nI_ge (b := 32) (by omega) (by decide)))) (fun c_12 => ?_)
      refine lv_aload_n hx hb dX4_keepForetold_15 rfl (lv_at hl 1 rfl) ?_
      refine lv_iload_n hx hb dX4_keepForetold_16 rfl (lv_at hl 3 rfl) ?_
      refine w_aldR am hst (n := i) (nI_clamp (by omega)) (vp_in_nI (by omega) (by decide)) dX4_keepForetold_17 ?_
      refine lv_astore (lv' := [(4, .ref (ad (2 + i))), (0, .ref (ad 0)), (1, .ref (ad 1)), (2, .int 32), (3, .int (nI i))]) hx hb dX4_keepForetold_18 hl (by decide) rfl (fun ls hl => ?_)
      refine lv_aload hx hb dX4_keepForetold_20 (lv_at hl 0 rfl) ?_
      refine lv_aload_n hx hb dX4_keepForetold_22 rfl (lv_at hl 1 rfl) ?_
      refine w_getR am hst (k := 3) (b := ad 34) (by decide) (fun _ _ _ => cE_S) rfl inT4 (by decide) (fun _ _ _ => rfl) fRX4_23 dX4_keepForetold_23 ?_
      refine lv_aload hx hb dX4_keepForetold_26 (lv_at hl 0 rfl) ?_
      refine c_dD hd hst (r_ND (As := [.ref (ad (2 + i))]) (rest := [.ref (ad (2 + i))]) am hst hl (k_X2_foretell hadI (Or.inl rfl) (by omega)) kRX4_114 imX2_foretell slX2_foretell ⟨Nat.le_of_ble_eq_true rfl, Nat.le_of_ble_eq_true rfl⟩ (by omega) (fun _ _ _ => cE_F (Or.inl rfl)) rfl rfl rfl (Nat.le_of_ble_eq_true rfl) dX4_keepForetold_28 ⟨Nat.le_of_ble_eq_true rfl, Nat.le_of_ble_eq_true rfl⟩) (fun x1 d0 H locs hx1 hd hst => ?_)
      refine w_putDN am hst (k := 7) hx1 (by omega) (fun _ _ _ => cE_B (by omega)) rfl inT0 tyX0 tyX0_ok nmX0 (by decide) fRX4_202 (fun _ _ _ => rfl) (fun _ _ _ => Nat.le_of_ble_eq_true rfl) rfl rfl dX4_keepForetold_31 (fun H locs hst => ?_)
      refine lv_iinc (v := nI (i + 1)) (lv' := [(3, .int (nI (i + 1))), (4, .ref (ad (2 + i))), (0, .ref (ad 0)), (1, .ref (ad 1)), (2, .int 32)]) hx hb dX4_keepForetold_34 hl (k := 4) rfl (nI_1 i) (by decide) rfl (fun ls hl => ?_)
      refine lv_goto (tgt := 10) hx hb dX4_keepForetold_37 (by decide) ?_
      exact ih_lp0 (i + 1) (by omega) d0 hd _ _ hst ls (lv_sub hl [2, 3, 4, 0] rfl)
  exact lp0 32 0 (by omega) d0 hd _ _ hst ls (lv_sub hl [3, 2, 1, 0] rfl)

set_option maxHeartbeats 4000000 in
set_option maxRecDepth 100000 in
theorem k_X4_isEnough {l : Launch} {D : va_G} {cy ad : Nat → Nat} {I : Im} {G : Dm} {J : Jm} (hadI : adI ad) {x X y L : UInt64} {a b : Int32} (hxX : cn x = X) (hyL : cn y = L) : kM l yX4_isEnough (.code yX4_isEnough cX4_isEnough 13 (some .boolean)) (rmK 2 0 0 40) D cy ad [.ref (ad 0), .double x, .double y, .int a, .int b] I G J (qI D cy ad (zB (enR I G X L a b)) I G J) := by
  refine start_M hadI (by decide +kernel) (Nat.le_of_ble_eq_true rfl) ?_
  intro p e s m below meth cd am hx hb hr hlk hst ls hl
  have hl : lv_has ls 13 [(0, .ref (ad 0)), (1, .double x), (3, .double y), (5, .int a), (6, .int b)] := hl
  refine lv_iconst (v := 0) hx hb dX4_isEnough_0 (by decide) ?_
  refine lv_istore (lv' := [(7, .int 0), (0, .ref (ad 0)), (1, .double x), (3, .double y), (5, .int a), (6, .int b)]) hx hb dX4_isEnough_1 hl (by decide) rfl (fun ls hl => ?_)
  refine lv_iconst (v := 0) hx hb dX4_isEnough_3 (by decide) ?_
  refine lv_istore (lv' := [(8, .int 0), (7, .int 0), (0, .ref (ad 0)), (1, .double x), (3, .double y), (5, .int a), (6, .int b)]) hx hb dX4_isEnough_4 hl (by decide) rfl (fun ls hl => ?_)
  refine lv_aload_n hx hb dX4_isEnough_6 rfl (lv_at hl 2 rfl) ?_
  refine w_getR am hst (k := 1) (b := ad 1) (by decide) (fun _ _ _ => cE_S) rfl inT4 (by decide) (fun _ _ _ => rfl) fRX4_15 dX4_isEnough_7 ?_
  refine lv_astore (lv' := [(9, .ref (ad 1)), (8, .int 0), (7, .int 0), (0, .ref (ad 0)), (1, .double x), (3, .double y), (5, .int a), (6, .int b)]) hx hb dX4_isEnough_10 hl (by decide) rfl (fun ls hl => ?_)
  refine lv_aload hx hb dX4_isEnough_12 (lv_at hl 0 rfl) ?_
  refine w_alen am hst (t0 := 3) (v := 32) (by decide) _ (fun _ => cE_1) rfl rfl dX4_isEnough_14 ?_
  refine lv_istore (lv' := [(10, .int 32), (9, .ref (ad 1)), (8, .int 0), (7, .int 0), (0, .ref (ad 0)), (1, .double x), (3, .double y), (5, .int a), (6, .int b)]) hx hb dX4_isEnough_15 hl (by decide) rfl (fun ls hl => ?_)
  refine lv_iconst (v := 0) hx hb dX4_isEnough_17 (by decide) ?_
  refine lv_istore (lv' := [(11, .int 0), (10, .int 32), (9, .ref (ad 1)), (8, .int 0), (7, .int 0), (0, .ref (ad 0)), (1, .double x), (3, .double y), (5, .int a), (6, .int b)]) hx hb dX4_isEnough_18 hl (by decide) rfl (fun ls hl => ?_)
  have lp0 : ∀ (n i : Nat), n + i = 32 → ∀ (H : Heap) (locs : List Loc), St D cy ad s.heap I G J H locs → ∀ ls, lv_has ls 13 [(0, .ref (ad 0)), (1, .double x), (3, .double y), (5, .int a), (6, .int b), (7, .int (nI (enC I G X i))), (8, .int (nI (enW I G X L i))), (9, .ref (ad 1)), (10, .int 32), (11, .int (nI i))] → W p l e (rmK 2 0 0 40) (s.setDrawn s.drawn) m [.ref (ad 0), .double x, .double y, .int a, .int b].toArray below meth cd H locs 0 0 (MQ below (qI D cy ad (zB (enR I G X L a b)) I G J s.heap.size) [.ref (ad 0), .double x, .double y, .int a, .int b].toArray s ((rmK 2 0 0 40)).cells ((rmK 2 0 0 40)).slots (aA ad s.heap.size)) (F0 m 20 ls []) := by
    intro n
    induction n with
    | zero =>
      intro i hi H locs hst ls hl
      obtain rfl : 32 = i := by omega
      refine lv_iload hx hb dX4_isEnough_20 (lv_at hl 9 rfl) ?_
      refine lv_iload hx hb dX4_isEnough_22 (lv_at hl 8 rfl) ?_
      refine lv_icmp_ge (tgt := 74) hx hb dX4_isEnough_24 (by decide) (fun c_24 => ?_) (fun c_24 => absurd ((show (32 : Int32) ≤ nI 32 by decide)) c_24)
      refine lv_iload hx hb dX4_isEnough_74 (lv_at hl 6 rfl) ?_
      refine lv_iload hx hb dX4_isEnough_76 (lv_at hl 4 rfl) ?_
      refine lv_imul hx hb dX4_isEnough_78 ?_
      refine lv_iload hx hb dX4_isEnough_79 (lv_at hl 3 rfl) ?_
      refine lv_iload hx hb dX4_isEnough_81 (lv_at hl 5 rfl) ?_
      refine lv_imul hx hb dX4_isEnough_83 ?_
      refine lv_icmp_gt (tgt := 91) hx hb dX4_isEnough_84 (by decide) (fun c_84 => ?_) (fun c_84 => ?_)
      · skip
        refine lv_iconst (v := 0) hx hb dX4_isEnough_91 (by decide) ?_
        exact e_i hx hb hr hlk hst rfl (by simp only [enR, zB, c_84, not_true_eq_false, not_false_eq_true, decide_true, decide_false, Bool.true_and, Bool.false_and, Bool.and_true, Bool.and_false, Bool.and_self, if_true, if_false, ite_true, ite_false, reduceIte, Bool.false_eq_true]) dX4_isEnough_92
      · skip
        refine lv_iconst (v := 1) hx hb dX4_isEnough_87 (by decide) ?_
        refine lv_goto (tgt := 92) hx hb dX4_isEnough_88 (by decide) ?_
        exact e_i hx hb hr hlk hst rfl (by simp only [enR, zB, c_84, not_true_eq_false, not_false_eq_true, decide_true, decide_false, Bool.true_and, Bool.false_and, Bool.and_true, Bool.and_false, Bool.and_self, if_true, if_false, ite_true, ite_false, reduceIte, Bool.false_eq_true]) dX4_isEnough_92
    | succ n ih_lp0 =>
      intro i hi H locs hst ls hl
      refine lv_iload hx hb dX4_isEnough_20 (lv_at hl 9 rfl) ?_
      refine lv_iload hx hb dX4_isEnough_22 (lv_at hl 8 rfl) ?_
      refine lv_icmp_ge (tgt := 74) hx hb dX4_isEnough_24 (by decide) (fun c_24 => absurd c_24 ((nI_ge (b := 32) (by omega) (by decide)))) (fun c_24 => ?_)
      refine lv_aload hx hb dX4_isEnough_27 (lv_at hl 7 rfl) ?_
      refine lv_iload hx hb dX4_isEnough_29 (lv_at hl 9 rfl) ?_
      refine w_aldR am hst (n := i) (nI_clamp (by omega)) (vp_in_nI (by omega) (by decide)) dX4_isEnough_31 ?_
      refine lv_astore (lv' := [(12, .ref (ad (2 + i))), (0, .ref (ad 0)), (1, .double x), (3, .double y), (5, .int a), (6, .int b), (7, .int (nI (enC I G X i))), (8, .int (nI (enW I G X L i))), (9, .ref (ad 1)), (10, .int 32), (11, .int (nI i))]) hx hb dX4_isEnough_32 hl (by decide) rfl (fun ls hl => ?_)
      refine lv_aload hx hb dX4_isEnough_34 (lv_at hl 0 rfl) ?_
      refine c_i hst (r_N (As := []) (rest := []) am hst hl (k_X0_isFitted hadI (by omega)) kRX4_205 imX0_isFitted slX0_isFitted ⟨Nat.le_of_ble_eq_true rfl, Nat.le_of_ble_eq_true rfl⟩ (by omega) (fun _ _ _ => cE_B (by omega)) rfl rfl rfl (Nat.le_of_ble_eq_true rfl) dX4_isEnough_36 ⟨Nat.le_of_ble_eq_true rfl, Nat.le_of_ble_eq_true rfl⟩) (fun H locs hst => ?_)
      refine lv_if_eq (tgt := 68) hx hb dX4_isEnough_39 (by decide) (fun c_39 => ?_) (fun c_39 => ?_)
      · skip
        refine lv_iinc (v := nI (i + 1)) (lv' := [(11, .int (nI (i + 1))), (12, .ref (ad (2 + i))), (0, .ref (ad 0)), (1, .double x), (3, .double y), (5, .int a), (6, .int b), (7, .int (nI (enC I G X i))), (8, .int (nI (enW I G X L i))), (9, .ref (ad 1)), (10, .int 32)]) hx hb dX4_isEnough_68 hl (k := 10) rfl (nI_1 i) (by decide) rfl (fun ls hl => ?_)
        refine lv_goto (tgt := 20) hx hb dX4_isEnough_71 (by decide) ?_
        have ih2 := ih_lp0 (i + 1) (by omega) 
        rw [show enC I G X (i + 1) = enC I G X i from if_neg (by rw [show enP I G X i = false from by unfold enP; rw [zB_0.mp c_39]; rfl]; exact Bool.false_ne_true), show enW I G X L (i + 1) = enW I G X L i from if_neg (by rw [show enP I G X i = false from by unfold enP; rw [zB_0.mp c_39]; rfl]; exact Bool.false_ne_true)] at ih2
        exact ih2 _ _ hst ls (lv_sub hl [2, 3, 4, 5, 6, 7, 8, 9, 10, 0] rfl)
      · skip
        refine lv_aload hx hb dX4_isEnough_42 (lv_at hl 0 rfl) ?_
        refine w_getDN am hst (k := 7) (by omega) (fun _ _ _ => cE_B (by omega)) rfl inT0 (by decide) (fun _ _ _ => rfl) fRX4_202 dX4_isEnough_44 (fun x1 hx1 => ?_)
        refine lv_dload_n hx hb dX4_isEnough_47 rfl (lv_at hl 2 rfl) ?_
        refine w_dcmp hx hb hx1 hxX dX4_isEnough_48 ?_
        refine lv_if_lt (tgt := 68) hx hb dX4_isEnough_49 (by decide) (fun c_49 => ?_) (fun c_49 => ?_)
        · skip
          refine lv_iinc (v := nI (i + 1)) (lv' := [(11, .int (nI (i + 1))), (12, .ref (ad (2 + i))), (0, .ref (ad 0)), (1, .double x), (3, .double y), (5, .int a), (6, .int b), (7, .int (nI (enC I G X i))), (8, .int (nI (enW I G X L i))), (9, .ref (ad 1)), (10, .int 32)]) hx hb dX4_isEnough_68 hl (k := 10) rfl (nI_1 i) (by decide) rfl (fun ls hl => ?_)
          refine lv_goto (tgt := 20) hx hb dX4_isEnough_71 (by decide) ?_
          have ih2 := ih_lp0 (i + 1) (by omega) 
          rw [show enC I G X (i + 1) = enC I G X i from if_neg (by rw [show enP I G X i = false from by unfold enP; rw [zB_n0.mp c_39]; simp only [c_49, not_true_eq_false, not_false_eq_true, decide_true, decide_false, Bool.true_and, Bool.false_and, Bool.and_true, Bool.and_false, Bool.and_self, if_true, if_false, ite_true, ite_false, reduceIte, Bool.false_eq_true]]; exact Bool.false_ne_true), show enW I G X L (i + 1) = enW I G X L i from if_neg (by rw [show enP I G X i = false from by unfold enP; rw [zB_n0.mp c_39]; simp only [c_49, not_true_eq_false, not_false_eq_true, decide_true, decide_false, Bool.true_and, Bool.false_and, Bool.and_true, Bool.and_false, Bool.and_self, if_true, if_false, ite_true, ite_false, reduceIte, Bool.false_eq_true]]; exact Bool.false_ne_true)] at ih2
          exact ih2 _ _ hst ls (lv_sub hl [2, 3, 4, 5, 6, 7, 8, 9, 10, 0] rfl)
        · skip
          refine lv_iinc (v := nI (enC I G X i + 1)) (lv' := [(7, .int (nI (enC I G X i + 1))), (12, .ref (ad (2 + i))), (0, .ref (ad 0)), (1, .double x), (3, .double y), (5, .int a), (6, .int b), (8, .int (nI (enW I G X L i))), (9, .ref (ad 1)), (10, .int 32), (11, .int (nI i))]) hx hb dX4_isEnough_52 hl (k := 6) rfl (nI_1 (enC I G X i)) (by decide) rfl (fun ls hl => ?_)
          refine lv_aload hx hb dX4_isEnough_55 (lv_at hl 1 rfl) ?_
          refine w_getDN am hst (k := 4) (by omega) (fun _ _ _ => cE_B (by omega)) rfl inT0 (by decide) (fun _ _ _ => rfl) fRX4_96 dX4_isEnough_57 (fun x2 hx2 => ?_)
          refine lv_dload_n hx hb dX4_isEnough_60 rfl (lv_at hl 4 rfl) ?_
          refine w_dcmp hx hb hx2 hyL dX4_isEnough_61 ?_
          refine lv_if_ge (tgt := 68) hx hb dX4_isEnough_62 (by decide) (fun c_62 => ?_) (fun c_62 => ?_)
          · skip
            refine lv_iinc (v := nI (i + 1)) (lv' := [(11, .int (nI (i + 1))), (7, .int (nI (enC I G X i + 1))), (12, .ref (ad (2 + i))), (0, .ref (ad 0)), (1, .double x), (3, .double y), (5, .int a), (6, .int b), (8, .int (nI (enW I G X L i))), (9, .ref (ad 1)), (10, .int 32)]) hx hb dX4_isEnough_68 hl (k := 10) rfl (nI_1 i) (by decide) rfl (fun ls hl => ?_)
            refine lv_goto (tgt := 20) hx hb dX4_isEnough_71 (by decide) ?_
            have ih2 := ih_lp0 (i + 1) (by omega) 
            rw [show enC I G X (i + 1) = enC I G X i + 1 from if_pos (by unfold enP; rw [zB_n0.mp c_39]; simp only [c_49, not_true_eq_false, not_false_eq_true, decide_true, decide_false, Bool.true_and, Bool.false_and, Bool.and_true, Bool.and_false, Bool.and_self, if_true, if_false, ite_true, ite_false, reduceIte, Bool.false_eq_true]), show enW I G X L (i + 1) = enW I G X L i from if_neg (by rw [show enP I G X i = true from by unfold enP; rw [zB_n0.mp c_39]; simp only [c_49, not_true_eq_false, not_false_eq_true, decide_true, decide_false, Bool.true_and, Bool.false_and, Bool.and_true, Bool.and_false, Bool.and_self, if_true, if_false, ite_true, ite_false, reduceIte, Bool.false_eq_true]]; simp only [enQ, c_62, not_true_eq_false, not_false_eq_true, decide_true, decide_false, Bool.true_and, Bool.false_and, Bool.and_true, Bool.and_false, Bool.and_self, if_true, if_false, ite_true, ite_false, reduceIte, Bool.false_eq_true])] at ih2
            exact ih2 _ _ hst ls (lv_sub hl [3, 4, 5, 6, 7, 1, 8, 9, 10, 0] rfl)
          · skip
            refine lv_iinc (v := nI (enW I G X L i + 1)) (lv' := [(8, .int (nI (enW I G X L i + 1))), (7, .int (nI (enC I G X i + 1))), (12, .ref (ad (2 + i))), (0, .ref (ad 0)), (1, .double x), (3, .double y), (5, .int a), (6, .int b), (9, .ref (ad 1)), (10, .int 32), (11, .int (nI i))]) hx hb dX4_isEnough_65 hl (k := 7) rfl (nI_1 (enW I G X L i)) (by decide) rfl (fun ls hl => ?_)
            refine lv_iinc (v := nI (i + 1)) (lv' := [(11, .int (nI (i + 1))), (8, .int (nI (enW I G X L i + 1))), (7, .int (nI (enC I G X i + 1))), (12, .ref (ad (2 + i))), (0, .ref (ad 0)), (1, .double x), (3, .double y), (5, .int a), (6, .int b), (9, .ref (ad 1)), (10, .int 32)]) hx hb dX4_isEnough_68 hl (k := 10) rfl (nI_1 i) (by decide) rfl (fun ls hl => ?_)
            refine lv_goto (tgt := 20) hx hb dX4_isEnough_71 (by decide) ?_
            have ih2 := ih_lp0 (i + 1) (by omega) 
            rw [show enC I G X (i + 1) = enC I G X i + 1 from if_pos (by unfold enP; rw [zB_n0.mp c_39]; simp only [c_49, not_true_eq_false, not_false_eq_true, decide_true, decide_false, Bool.true_and, Bool.false_and, Bool.and_true, Bool.and_false, Bool.and_self, if_true, if_false, ite_true, ite_false, reduceIte, Bool.false_eq_true]), show enW I G X L (i + 1) = enW I G X L i + 1 from if_pos (by rw [show enP I G X i = true from by unfold enP; rw [zB_n0.mp c_39]; simp only [c_49, not_true_eq_false, not_false_eq_true, decide_true, decide_false, Bool.true_and, Bool.false_and, Bool.and_true, Bool.and_false, Bool.and_self, if_true, if_false, ite_true, ite_false, reduceIte, Bool.false_eq_true]]; simp only [enQ, c_62, not_true_eq_false, not_false_eq_true, decide_true, decide_false, Bool.true_and, Bool.false_and, Bool.and_true, Bool.and_false, Bool.and_self, if_true, if_false, ite_true, ite_false, reduceIte, Bool.false_eq_true])] at ih2
            exact ih2 _ _ hst ls (lv_sub hl [4, 5, 6, 7, 8, 2, 1, 9, 10, 0] rfl)
  exact lp0 32 0 (by omega) _ _ hst ls (lv_sub hl [5, 6, 7, 8, 9, 4, 3, 2, 1, 0] rfl)

set_option maxHeartbeats 4000000 in
set_option maxRecDepth 100000 in
theorem k_X4_power {l : Launch} {D : va_G} {cy ad : Nat → Nat} {I : Im} {G : Dm} {J : Jm} (hadI : adI ad) {b : Int32} {N : Nat} (hN : N < 100) : kM l yX4_power (.code yX4_power cX4_power 5 (some .long)) (rmK 0 0 0 0) D cy ad [.int b, .int (nI N)] I G J (qL D cy ad (powL b.toInt64 N) I G J) := by
  refine start_M hadI (by decide +kernel) (Nat.le_of_ble_eq_true rfl) ?_
  intro p e s m below meth cd am hx hb hr hlk hst ls hl
  have hl : lv_has ls 5 [(0, .int b), (1, .int (nI N))] := hl
  refine lv_lconst (v := 1) hx hb dX4_power_0 (by decide) ?_
  refine lv_lstore_n (lv' := [(2, .long 1), (0, .int b), (1, .int (nI N))]) hx hb dX4_power_1 rfl hl (by decide) rfl (fun ls hl => ?_)
  refine lv_iconst (v := 0) hx hb dX4_power_2 (by decide) ?_
  refine lv_istore (lv' := [(4, .int 0), (2, .long 1), (0, .int b), (1, .int (nI N))]) hx hb dX4_power_3 hl (by decide) rfl (fun ls hl => ?_)
  have lp0 : ∀ (n i : Nat), n + i = N → ∀ (H : Heap) (locs : List Loc), St D cy ad s.heap I G J H locs → ∀ ls, lv_has ls 5 [(0, .int b), (1, .int (nI N)), (2, .long (powL b.toInt64 i)), (4, .int (nI i))] → W p l e (rmK 0 0 0 0) (s.setDrawn s.drawn) m [.int b, .int (nI N)].toArray below meth cd H locs 0 0 (MQ below (qL D cy ad (powL b.toInt64 N) I G J s.heap.size) [.int b, .int (nI N)].toArray s ((rmK 0 0 0 0)).cells ((rmK 0 0 0 0)).slots (aA ad s.heap.size)) (F0 m 5 ls []) := by
    intro n
    induction n with
    | zero =>
      intro i hi H locs hst ls hl
      obtain rfl : N = i := by omega
      refine lv_iload hx hb dX4_power_5 (lv_at hl 3 rfl) ?_
      refine lv_iload_n hx hb dX4_power_7 rfl (lv_at hl 1 rfl) ?_
      refine lv_icmp_ge (tgt := 22) hx hb dX4_power_8 (by decide) (fun c_8 => ?_) (fun c_8 => absurd ((nI_le (Nat.le_refl _) (by omega))) c_8)
      refine lv_lload_n hx hb dX4_power_22 rfl (lv_at hl 2 rfl) ?_
      exact e_l hx hb hr hlk hst rfl dX4_power_23
    | succ n ih_lp0 =>
      intro i hi H locs hst ls hl
      refine lv_iload hx hb dX4_power_5 (lv_at hl 3 rfl) ?_
      refine lv_iload_n hx hb dX4_power_7 rfl (lv_at hl 1 rfl) ?_
      refine lv_icmp_ge (tgt := 22) hx hb dX4_power_8 (by decide) (fun c_8 => absurd c_8 ((nI_ge (by omega) (by omega)))) (fun c_8 => ?_)
      refine lv_lload_n hx hb dX4_power_11 rfl (lv_at hl 2 rfl) ?_
      refine lv_iload_n hx hb dX4_power_12 rfl (lv_at hl 0 rfl) ?_
      refine lv_i2l hx hb dX4_power_13 rfl ?_
      refine lv_lmul hx hb dX4_power_14 ?_
      refine lv_lstore_n (lv' := [(2, .long ((powL b.toInt64 i) * ((b).toInt64))), (0, .int b), (1, .int (nI N)), (4, .int (nI i))]) hx hb dX4_power_15 rfl hl (by decide) rfl (fun ls hl => ?_)
      refine lv_iinc (v := nI (i + 1)) (lv' := [(4, .int (nI (i + 1))), (2, .long ((powL b.toInt64 i) * ((b).toInt64))), (0, .int b), (1, .int (nI N))]) hx hb dX4_power_16 hl (k := 3) rfl (nI_1 i) (by decide) rfl (fun ls hl => ?_)
      refine lv_goto (tgt := 5) hx hb dX4_power_19 (by decide) ?_
      exact ih_lp0 (i + 1) (by omega) _ _ hst ls (lv_sub hl [2, 3, 1, 0] rfl)
  exact lp0 N 0 (by omega) _ _ hst ls (lv_sub hl [2, 3, 1, 0] rfl)

set_option maxHeartbeats 4000000 in
set_option maxRecDepth 100000 in
theorem k_X4_waysOfFew {l : Launch} {D : va_G} {cy ad : Nat → Nat} {I : Im} {G : Dm} {J : Jm} (hadI : adI ad) {N u : Nat} {a h : Int32} (hN : N ≤ 12) (hu : u < 2 ^ 31) : kM l yX4_waysOfFew (.code yX4_waysOfFew cX4_waysOfFew 9 (some .long)) (rmK 1 0 0 24) D cy ad [.int (nI N), .int (nI u), .int a, .int h] I G J (qL D cy ad (wfS N a.toInt64 h.toInt64 (min N u + 1)) I G J) := by
  refine start_M hadI (by decide +kernel) (Nat.le_of_ble_eq_true rfl) ?_
  intro p e s m below meth cd am hx hb hr hlk hst ls hl
  have hl : lv_has ls 9 [(0, .int (nI N)), (1, .int (nI u)), (2, .int a), (3, .int h)] := hl
  refine lv_lconst (v := 0) hx hb dX4_waysOfFew_0 (by decide) ?_
  refine lv_lstore (lv' := [(4, .long 0), (0, .int (nI N)), (1, .int (nI u)), (2, .int a), (3, .int h)]) hx hb dX4_waysOfFew_1 hl (by decide) rfl (fun ls hl => ?_)
  refine lv_lconst (v := 1) hx hb dX4_waysOfFew_3 (by decide) ?_
  refine lv_lstore (lv' := [(6, .long 1), (4, .long 0), (0, .int (nI N)), (1, .int (nI u)), (2, .int a), (3, .int h)]) hx hb dX4_waysOfFew_4 hl (by decide) rfl (fun ls hl => ?_)
  refine lv_iconst (v := 0) hx hb dX4_waysOfFew_6 (by decide) ?_
  refine lv_istore (lv' := [(8, .int 0), (6, .long 1), (4, .long 0), (0, .int (nI N)), (1, .int (nI u)), (2, .int a), (3, .int h)]) hx hb dX4_waysOfFew_7 hl (by decide) rfl (fun ls hl => ?_)
  have lp0 : ∀ (n k : Nat), n + k = (min N u + 1) → ∀ (H : Heap) (locs : List Loc), St D cy ad s.heap I G J H locs → ∀ ls, lv_has ls 9 [(0, .int (nI N)), (1, .int (nI u)), (2, .int a), (3, .int h), (4, .long (wfS N a.toInt64 h.toInt64 k)), (6, .long (wfC N k)), (8, .int (nI k))] → W p l e (rmK 1 0 0 24) (s.setDrawn s.drawn) m [.int (nI N), .int (nI u), .int a, .int h].toArray below meth cd H locs 0 0 (MQ below (qL D cy ad (wfS N a.toInt64 h.toInt64 (min N u + 1)) I G J s.heap.size) [.int (nI N), .int (nI u), .int a, .int h].toArray s ((rmK 1 0 0 24)).cells ((rmK 1 0 0 24)).slots (aA ad s.heap.size)) (F0 m 9 ls []) := by
    intro n
    induction n with
    | zero =>
      intro k hi H locs hst ls hl
      obtain rfl : (min N u + 1) = k := by omega
      rcases Nat.lt_or_ge u N with q | q
      · skip
        refine lv_iload hx hb dX4_waysOfFew_9 (lv_at hl 6 rfl) ?_
        refine lv_iload_n hx hb dX4_waysOfFew_11 rfl (lv_at hl 0 rfl) ?_
        refine lv_icmp_gt (tgt := 66) hx hb dX4_waysOfFew_12 (by decide) (fun c_12 => absurd c_12 ((nI_nlt (by omega) (by omega)))) (fun c_12 => ?_)
        refine lv_iload hx hb dX4_waysOfFew_15 (lv_at hl 6 rfl) ?_
        refine lv_iload_n hx hb dX4_waysOfFew_17 rfl (lv_at hl 1 rfl) ?_
        refine lv_icmp_gt (tgt := 66) hx hb dX4_waysOfFew_18 (by decide) (fun c_18 => ?_) (fun c_18 => absurd ((nI_lt (by omega) (by omega))) c_18)
        refine lv_lload hx hb dX4_waysOfFew_66 (lv_at hl 4 rfl) ?_
        exact e_l hx hb hr hlk hst rfl dX4_waysOfFew_68
      · skip
        refine lv_iload hx hb dX4_waysOfFew_9 (lv_at hl 6 rfl) ?_
        refine lv_iload_n hx hb dX4_waysOfFew_11 rfl (lv_at hl 0 rfl) ?_
        refine lv_icmp_gt (tgt := 66) hx hb dX4_waysOfFew_12 (by decide) (fun c_12 => ?_) (fun c_12 => absurd ((nI_lt (by omega) (by omega))) c_12)
        refine lv_lload hx hb dX4_waysOfFew_66 (lv_at hl 4 rfl) ?_
        exact e_l hx hb hr hlk hst rfl dX4_waysOfFew_68
    | succ n ih_lp0 =>
      intro k hi H locs hst ls hl
      refine lv_iload hx hb dX4_waysOfFew_9 (lv_at hl 6 rfl) ?_
      refine lv_iload_n hx hb dX4_waysOfFew_11 rfl (lv_at hl 0 rfl) ?_
      refine lv_icmp_gt (tgt := 66) hx hb dX4_waysOfFew_12 (by decide) (fun c_12 => absurd c_12 ((nI_nlt (by omega) (by omega)))) (fun c_12 => ?_)
      refine lv_iload hx hb dX4_waysOfFew_15 (lv_at hl 6 rfl) ?_
      refine lv_iload_n hx hb dX4_waysOfFew_17 rfl (lv_at hl 1 rfl) ?_
      refine lv_icmp_gt (tgt := 66) hx hb dX4_waysOfFew_18 (by decide) (fun c_18 => absurd c_18 ((nI_nlt (by omega) (by omega)))) (fun c_18 => ?_)
      refine lv_lload hx hb dX4_waysOfFew_21 (lv_at hl 4 rfl) ?_
      refine lv_lload hx hb dX4_waysOfFew_23 (lv_at hl 5 rfl) ?_
      refine lv_iload_n hx hb dX4_waysOfFew_25 rfl (lv_at hl 2 rfl) ?_
      refine lv_iload hx hb dX4_waysOfFew_26 (lv_at hl 6 rfl) ?_
      refine c_l hst (r_S (As := [.int a, .int (nI k)]) (rest := [.long (wfC N k), .long (wfS N a.toInt64 h.toInt64 k)]) am hst hl (k_X4_power hadI (N := k) (by omega)) kRX4_141 smX4_power ⟨Nat.le_of_ble_eq_true rfl, Nat.le_of_ble_eq_true rfl⟩ rfl rfl (Nat.le_of_ble_eq_true rfl) dX4_waysOfFew_28 ⟨Nat.le_of_ble_eq_true rfl, Nat.le_of_ble_eq_true rfl⟩) (fun H locs hst => ?_)
      refine lv_lmul hx hb dX4_waysOfFew_31 ?_
      refine lv_iload_n hx hb dX4_waysOfFew_32 rfl (lv_at hl 3 rfl) ?_
      refine lv_iload_n hx hb dX4_waysOfFew_33 rfl (lv_at hl 0 rfl) ?_
      refine lv_iload hx hb dX4_waysOfFew_34 (lv_at hl 6 rfl) ?_
      refine lv_isub hx hb dX4_waysOfFew_36 ?_
      rw [show nI N - nI k = nI (N - k) from pk_sub (by omega)]
      refine c_l hst (r_S (As := [.int h, .int (nI (N - k))]) (rest := [.long ((wfC N k) * (powL (a).toInt64 k)), .long (wfS N a.toInt64 h.toInt64 k)]) am hst hl (k_X4_power hadI (N := N - k) (by omega)) kRX4_141 smX4_power ⟨Nat.le_of_ble_eq_true rfl, Nat.le_of_ble_eq_true rfl⟩ rfl rfl (Nat.le_of_ble_eq_true rfl) dX4_waysOfFew_37 ⟨Nat.le_of_ble_eq_true rfl, Nat.le_of_ble_eq_true rfl⟩) (fun H locs hst => ?_)
      refine lv_lmul hx hb dX4_waysOfFew_40 ?_
      refine lv_ladd hx hb dX4_waysOfFew_41 ?_
      refine lv_lstore (lv' := [(4, .long ((wfS N a.toInt64 h.toInt64 k) + (((wfC N k) * (powL (a).toInt64 k)) * (powL (h).toInt64 (N - k))))), (0, .int (nI N)), (1, .int (nI u)), (2, .int a), (3, .int h), (6, .long (wfC N k)), (8, .int (nI k))]) hx hb dX4_waysOfFew_42 hl (by decide) rfl (fun ls hl => ?_)
      refine lv_lload hx hb dX4_waysOfFew_44 (lv_at hl 5 rfl) ?_
      refine lv_iload_n hx hb dX4_waysOfFew_46 rfl (lv_at hl 1 rfl) ?_
      refine lv_iload hx hb dX4_waysOfFew_47 (lv_at hl 6 rfl) ?_
      refine lv_isub hx hb dX4_waysOfFew_49 ?_
      rw [show nI N - nI k = nI (N - k) from pk_sub (by omega)]
      refine lv_i2l hx hb dX4_waysOfFew_50 rfl ?_
      refine lv_lmul hx hb dX4_waysOfFew_51 ?_
      refine lv_iload hx hb dX4_waysOfFew_52 (lv_at hl 6 rfl) ?_
      refine lv_iconst (v := 1) hx hb dX4_waysOfFew_54 (by decide) ?_
      refine lv_iadd hx hb dX4_waysOfFew_55 ?_
      rw [nI_1]
      refine lv_i2l hx hb dX4_waysOfFew_56 rfl ?_
      refine lv_ldiv hx hb dX4_waysOfFew_57 (fun h => by have h2 : (lN (k + 1)) = lN 0 := (nI_l (by omega)).symm.trans h; exact absurd ((lN_eq (by omega) (by omega)).mp h2) (by omega)) ?_
      refine lv_lstore (lv' := [(6, .long (((wfC N k) * ((nI (N - k)).toInt64)) / ((nI (k + 1)).toInt64))), (4, .long ((wfS N a.toInt64 h.toInt64 k) + (((wfC N k) * (powL (a).toInt64 k)) * (powL (h).toInt64 (N - k))))), (0, .int (nI N)), (1, .int (nI u)), (2, .int a), (3, .int h), (8, .int (nI k))]) hx hb dX4_waysOfFew_58 hl (by decide) rfl (fun ls hl => ?_)
      refine lv_iinc (v := nI (k + 1)) (lv' := [(8, .int (nI (k + 1))), (6, .long (((wfC N k) * ((nI (N - k)).toInt64)) / ((nI (k + 1)).toInt64))), (4, .long ((wfS N a.toInt64 h.toInt64 k) + (((wfC N k) * (powL (a).toInt64 k)) * (powL (h).toInt64 (N - k))))), (0, .int (nI N)), (1, .int (nI u)), (2, .int a), (3, .int h)]) hx hb dX4_waysOfFew_60 hl (k := 6) rfl (nI_1 k) (by decide) rfl (fun ls hl => ?_)
      refine lv_goto (tgt := 9) hx hb dX4_waysOfFew_63 (by decide) ?_
      exact ih_lp0 (k + 1) (by omega) _ _ hst ls (lv_sub hl [3, 4, 5, 6, 2, 1, 0] rfl)
  exact lp0 ((min N u + 1)) 0 (by omega) _ _ hst ls (lv_sub hl [3, 4, 5, 6, 2, 1, 0] rfl)

theorem lg_cmp0 {x y : Int64} : lg_cmp x y = 0 ↔ x = y := lg_cmp_eq x y
set_option maxHeartbeats 4000000 in
set_option maxRecDepth 100000 in
theorem k_X4_commonDivisor {l : Launch} {D : va_G} {cy ad : Nat → Nat} {I : Im} {G : Dm} {J : Jm} (hadI : adI ad) {a b : Int64} : kM l yX4_commonDivisor (.code yX4_commonDivisor cX4_commonDivisor 11 (some .long)) (rmK 0 0 0 0) D cy ad [.long a, .long b] I G J (qL D cy ad (gE 1000 a b) I G J) := by
  refine start_M hadI (by decide +kernel) (Nat.le_of_ble_eq_true rfl) ?_
  intro p e s m below meth cd am hx hb hr hlk hst ls hl
  have hl : lv_has ls 11 [(0, .long a), (2, .long b)] := hl
  refine lv_lload_n hx hb dX4_commonDivisor_0 rfl (lv_at hl 0 rfl) ?_
  refine lv_lstore (lv' := [(4, .long a), (0, .long a), (2, .long b)]) hx hb dX4_commonDivisor_1 hl (by decide) rfl (fun ls hl => ?_)
  refine lv_lload_n hx hb dX4_commonDivisor_3 rfl (lv_at hl 2 rfl) ?_
  refine lv_lstore (lv' := [(6, .long b), (4, .long a), (0, .long a), (2, .long b)]) hx hb dX4_commonDivisor_4 hl (by decide) rfl (fun ls hl => ?_)
  refine lv_iconst (v := 0) hx hb dX4_commonDivisor_6 (by decide) ?_
  refine lv_istore (lv' := [(8, .int 0), (6, .long b), (4, .long a), (0, .long a), (2, .long b)]) hx hb dX4_commonDivisor_7 hl (by decide) rfl (fun ls hl => ?_)
  have lp0 : ∀ (n i : Nat), n + i = 1000 → ∀ x y : Int64, gE n x y = gE 1000 a b → ∀ (H : Heap) (locs : List Loc), St D cy ad s.heap I G J H locs → ∀ ls, lv_has ls 11 [(0, .long a), (2, .long b), (4, .long x), (6, .long y), (8, .int (nI i))] → W p l e (rmK 0 0 0 0) (s.setDrawn s.drawn) m [.long a, .long b].toArray below meth cd H locs 0 0 (MQ below (qL D cy ad (gE 1000 a b) I G J s.heap.size) [.long a, .long b].toArray s ((rmK 0 0 0 0)).cells ((rmK 0 0 0 0)).slots (aA ad s.heap.size)) (F0 m 9 ls []) := by
    intro n
    induction n with
    | zero =>
      intro i hi x y hR H locs hst ls hl
      obtain rfl : 1000 = i := by omega
      refine lv_iload hx hb dX4_commonDivisor_9 (lv_at hl 4 rfl) ?_
      refine lv_sipush (v := 1000) hx hb dX4_commonDivisor_11 (by decide) ?_
      refine lv_icmp_ge (tgt := 45) hx hb dX4_commonDivisor_14 (by decide) (fun c_14 => ?_) (fun c_14 => absurd ((show (1000 : Int32) ≤ nI 1000 by decide)) c_14)
      refine lv_lload hx hb dX4_commonDivisor_45 (lv_at hl 2 rfl) ?_
      exact e_l hx hb hr hlk hst hR dX4_commonDivisor_47
    | succ n ih_lp0 =>
      intro i hi x y hR H locs hst ls hl
      refine lv_iload hx hb dX4_commonDivisor_9 (lv_at hl 4 rfl) ?_
      refine lv_sipush (v := 1000) hx hb dX4_commonDivisor_11 (by decide) ?_
      refine lv_icmp_ge (tgt := 45) hx hb dX4_commonDivisor_14 (by decide) (fun c_14 => absurd c_14 ((nI_ge (b := 1000) (by omega) (by decide)))) (fun c_14 => ?_)
      refine lv_lload hx hb dX4_commonDivisor_17 (lv_at hl 3 rfl) ?_
      refine lv_lconst (v := 0) hx hb dX4_commonDivisor_19 (by decide) ?_
      refine W.lcmp hx hb dX4_commonDivisor_20 ?_
      refine lv_if_eq (tgt := 45) hx hb dX4_commonDivisor_21 (by decide) (fun c_21 => ?_) (fun c_21 => ?_)
      · skip
        refine lv_lload hx hb dX4_commonDivisor_45 (lv_at hl 2 rfl) ?_
        exact e_l hx hb hr hlk hst (by rw [← hR, gE, if_pos (lg_cmp0.mp c_21)]) dX4_commonDivisor_47
      · skip
        refine lv_lload hx hb dX4_commonDivisor_24 (lv_at hl 2 rfl) ?_
        refine lv_lload hx hb dX4_commonDivisor_26 (lv_at hl 3 rfl) ?_
        refine lv_lrem hx hb dX4_commonDivisor_28 (fun h => c_21 (lg_cmp0.mpr h)) ?_
        refine lv_lstore (lv' := [(9, .long (x - x / y * y)), (0, .long a), (2, .long b), (4, .long x), (6, .long y), (8, .int (nI i))]) hx hb dX4_commonDivisor_29 hl (by decide) rfl (fun ls hl => ?_)
        refine lv_lload hx hb dX4_commonDivisor_31 (lv_at hl 4 rfl) ?_
        refine lv_lstore (lv' := [(4, .long y), (9, .long (x - x / y * y)), (0, .long a), (2, .long b), (6, .long y), (8, .int (nI i))]) hx hb dX4_commonDivisor_33 hl (by decide) rfl (fun ls hl => ?_)
        refine lv_lload hx hb dX4_commonDivisor_35 (lv_at hl 1 rfl) ?_
        refine lv_lstore (lv' := [(6, .long (x - x / y * y)), (4, .long y), (9, .long (x - x / y * y)), (0, .long a), (2, .long b), (8, .int (nI i))]) hx hb dX4_commonDivisor_37 hl (by decide) rfl (fun ls hl => ?_)
        refine lv_iinc (v := nI (i + 1)) (lv' := [(8, .int (nI (i + 1))), (6, .long (x - x / y * y)), (4, .long y), (9, .long (x - x / y * y)), (0, .long a), (2, .long b)]) hx hb dX4_commonDivisor_39 hl (k := 5) rfl (nI_1 i) (by decide) rfl (fun ls hl => ?_)
        refine lv_goto (tgt := 9) hx hb dX4_commonDivisor_42 (by decide) ?_
        exact ih_lp0 (i + 1) (by omega) _ _ (by rw [← hR]; show _ = (if _ then _ else _); rw [if_neg (fun h => c_21 (lg_cmp0.mpr h))]) _ _ hst ls (lv_sub hl [4, 5, 2, 1, 0] rfl)
  exact lp0 1000 0 (by omega) _ _ rfl _ _ hst ls (lv_sub hl [3, 4, 2, 1, 0] rfl)

