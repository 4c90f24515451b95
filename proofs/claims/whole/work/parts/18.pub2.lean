/-! the public methods of the class, the rest -/
def oddF (N u : Nat) (a b : Int32) : Int64 := wfS N a.toInt64 (b - a).toInt64 (min N u + 1)
def oddA (N : Nat) (b : Int32) : Int64 := powL b.toInt64 N
def oddV (N u : Nat) (a b pt : Int32) : Int64 := if lg_cmp (gE 1000 (oddA N b) (oddF N u a b)) 1 ≤ 0 then (if pt = 0 then oddF N u a b else oddA N b) else (if pt = 0 then oddF N u a b else oddA N b) / gE 1000 (oddA N b) (oddF N u a b)
def lus (z : Int64) (n : Int32) : Int64 := (z.toUInt64 >>> (n.toInt64.toUInt64 &&& Int64.toUInt64 63)).toInt64
def dw1 (s k : Int64) : Int64 := s + (k + 1) * (-7046029254386353131)
def dw2 (z : Int64) : Int64 := (z ^^^ lus z 30) * (-4658895280553007687)
def dw3 (z : Int64) : Int64 := (z ^^^ lus z 27) * (-7723592293110705685)
def dw4 (z : Int64) : Int64 := z ^^^ lus z 31
def dwD (s k : Int64) : UInt64 := Dv (l2dC (lus (dw4 (dw3 (dw2 (dw1 s k)))) 44)) 4674736413210574848
set_option maxHeartbeats 4000000 in
set_option maxRecDepth 100000 in
theorem k_X4_odds {l : Launch} {D : va_G} {cy ad : Nat → Nat} {I : Im} {G : Dm} {J : Jm} (hadI : adI ad) {N u : Nat} {a b pt : Int32} (hp : ¬ pt < 0 ∧ pt ≤ 1) (hN : N ≤ 12) (hu : u < 2 ^ 31) (hin : bShare a b 16 = true) : kM l yX4_odds (.code yX4_odds cX4_odds 14 (some .long)) (rmK 2 0 0 52) D cy ad [.ref (ad 0), .int (nI N), .int (nI u), .int a, .int b, .int pt] I G J (qL D cy ad (oddV N u a b pt) I G J) := by
  refine start_M hadI (by decide +kernel) (Nat.le_of_ble_eq_true rfl) ?_
  intro p e s m below meth cd am hx hb hr hlk hst ls hl
  have hl : lv_has ls 14 [(0, .ref (ad 0)), (1, .int (nI N)), (2, .int (nI u)), (3, .int a), (4, .int b), (5, .int pt)] := hl
  refine lv_iload hx hb dX4_odds_0 (lv_at hl 5 rfl) ?_
  refine lv_if_lt (tgt := 11) hx hb dX4_odds_2 (by decide) (fun c_2 => absurd c_2 hp.1) (fun c_2 => ?_)
  refine lv_iload hx hb dX4_odds_5 (lv_at hl 5 rfl) ?_
  refine lv_iconst (v := 1) hx hb dX4_odds_7 (by decide) ?_
  refine lv_icmp_le (tgt := 21) hx hb dX4_odds_8 (by decide) (fun c_8 => ?_) (fun c_8 => absurd hp.2 c_8)
  refine lv_iload_n hx hb dX4_odds_21 rfl (lv_at hl 1 rfl) ?_
  refine lv_if_lt (tgt := 50) hx hb dX4_odds_22 (by decide) (fun c_22 => absurd c_22 (nI_pos (by omega))) (fun c_22 => ?_)
  refine lv_iload_n hx hb dX4_odds_25 rfl (lv_at hl 1 rfl) ?_
  refine lv_bipush (v := 12) hx hb dX4_odds_26 (by decide) ?_
  refine lv_icmp_gt (tgt := 50) hx hb dX4_odds_28 (by decide) (fun c_28 => absurd c_28 (nI_nlt (a := 12) (by omega) (by omega))) (fun c_28 => ?_)
  refine lv_iload_n hx hb dX4_odds_31 rfl (lv_at hl 2 rfl) ?_
  refine lv_if_lt (tgt := 50) hx hb dX4_odds_32 (by decide) (fun c_32 => absurd c_32 (nI_pos (by omega))) (fun c_32 => ?_)
  refine lv_iload_n hx hb dX4_odds_35 rfl (lv_at hl 3 rfl) ?_
  refine lv_iload hx hb dX4_odds_36 (lv_at hl 4 rfl) ?_
  refine lv_bipush (v := 16) hx hb dX4_odds_38 (by decide) ?_
  refine c_i hst (r_S (As := [.int a, .int b, .int 16]) (rest := []) am hst hl (k_X4_isShare hadI) kRX4_122 smX4_isShare ⟨Nat.le_of_ble_eq_true rfl, Nat.le_of_ble_eq_true rfl⟩ rfl rfl (Nat.le_of_ble_eq_true rfl) dX4_odds_40 ⟨Nat.le_of_ble_eq_true rfl, Nat.le_of_ble_eq_true rfl⟩) (fun H locs hst => ?_)
  refine lv_if_eq (tgt := 50) hx hb dX4_odds_43 (by decide) (fun c_43 => absurd c_43 (zB_n0.mpr hin)) (fun c_43 => ?_)
  refine lv_iconst (v := 1) hx hb dX4_odds_46 (by decide) ?_
  refine lv_goto (tgt := 51) hx hb dX4_odds_47 (by decide) ?_
  refine c_v hst (r_S (As := [.int 1]) (rest := []) am hst hl (k_X4_need hadI (by decide)) kRX4_68 smX4_need ⟨Nat.le_of_ble_eq_true rfl, Nat.le_of_ble_eq_true rfl⟩ rfl rfl (Nat.le_of_ble_eq_true rfl) dX4_odds_51 ⟨Nat.le_of_ble_eq_true rfl, Nat.le_of_ble_eq_true rfl⟩) (fun H locs hst => ?_)
  refine lv_iload_n hx hb dX4_odds_54 rfl (lv_at hl 1 rfl) ?_
  refine lv_iload_n hx hb dX4_odds_55 rfl (lv_at hl 2 rfl) ?_
  refine lv_iload_n hx hb dX4_odds_56 rfl (lv_at hl 3 rfl) ?_
  refine lv_iload hx hb dX4_odds_57 (lv_at hl 4 rfl) ?_
  refine lv_iload_n hx hb dX4_odds_59 rfl (lv_at hl 3 rfl) ?_
  refine lv_isub hx hb dX4_odds_60 ?_
  refine c_l hst (r_S (As := [.int (nI N), .int (nI u), .int a, .int (b - a)]) (rest := []) am hst hl (k_X4_waysOfFew hadI (N := N) (u := u) (by omega) (by omega)) kRX4_137 smX4_waysOfFew ⟨Nat.le_of_ble_eq_true rfl, Nat.le_of_ble_eq_true rfl⟩ rfl rfl (Nat.le_of_ble_eq_true rfl) dX4_odds_61 ⟨Nat.le_of_ble_eq_true rfl, Nat.le_of_ble_eq_true rfl⟩) (fun H locs hst => ?_)
  refine lv_lstore (lv' := [(6, .long (wfS N (a).toInt64 (b - a).toInt64 (min N u + 1))), (0, .ref (ad 0)), (1, .int (nI N)), (2, .int (nI u)), (3, .int a), (4, .int b), (5, .int pt)]) hx hb dX4_odds_64 hl (by decide) rfl (fun ls hl => ?_)
  refine lv_iload hx hb dX4_odds_66 (lv_at hl 5 rfl) ?_
  refine lv_iload_n hx hb dX4_odds_68 rfl (lv_at hl 2 rfl) ?_
  refine c_l hst (r_S (As := [.int b, .int (nI N)]) (rest := []) am hst hl (k_X4_power hadI (N := N) (by omega)) kRX4_141 smX4_power ⟨Nat.le_of_ble_eq_true rfl, Nat.le_of_ble_eq_true rfl⟩ rfl rfl (Nat.le_of_ble_eq_true rfl) dX4_odds_69 ⟨Nat.le_of_ble_eq_true rfl, Nat.le_of_ble_eq_true rfl⟩) (fun H locs hst => ?_)
  refine lv_lstore (lv' := [(8, .long (powL (b).toInt64 N)), (6, .long (wfS N (a).toInt64 (b - a).toInt64 (min N u + 1))), (0, .ref (ad 0)), (1, .int (nI N)), (2, .int (nI u)), (3, .int a), (4, .int b), (5, .int pt)]) hx hb dX4_odds_72 hl (by decide) rfl (fun ls hl => ?_)
  refine lv_lload hx hb dX4_odds_74 (lv_at hl 0 rfl) ?_
  refine lv_lload hx hb dX4_odds_76 (lv_at hl 1 rfl) ?_
  refine c_l hst (r_S (As := [.long (powL (b).toInt64 N), .long (wfS N (a).toInt64 (b - a).toInt64 (min N u + 1))]) (rest := []) am hst hl (k_X4_commonDivisor hadI) kRX4_145 smX4_commonDivisor ⟨Nat.le_of_ble_eq_true rfl, Nat.le_of_ble_eq_true rfl⟩ rfl rfl (Nat.le_of_ble_eq_true rfl) dX4_odds_78 ⟨Nat.le_of_ble_eq_true rfl, Nat.le_of_ble_eq_true rfl⟩) (fun H locs hst => ?_)
  refine lv_lstore (lv' := [(10, .long (gE 1000 (powL (b).toInt64 N) (wfS N (a).toInt64 (b - a).toInt64 (min N u + 1)))), (8, .long (powL (b).toInt64 N)), (6, .long (wfS N (a).toInt64 (b - a).toInt64 (min N u + 1))), (0, .ref (ad 0)), (1, .int (nI N)), (2, .int (nI u)), (3, .int a), (4, .int b), (5, .int pt)]) hx hb dX4_odds_81 hl (by decide) rfl (fun ls hl => ?_)
  refine lv_iload hx hb dX4_odds_83 (lv_at hl 8 rfl) ?_
  refine lv_if_ne (tgt := 93) hx hb dX4_odds_85 (by decide) (fun c_85 => ?_) (fun c_85 => ?_)
  · skip
    refine lv_lload hx hb dX4_odds_93 (lv_at hl 1 rfl) ?_
    refine lv_lstore (lv' := [(12, .long (powL (b).toInt64 N)), (10, .long (gE 1000 (powL (b).toInt64 N) (wfS N (a).toInt64 (b - a).toInt64 (min N u + 1)))), (8, .long (powL (b).toInt64 N)), (6, .long (wfS N (a).toInt64 (b - a).toInt64 (min N u + 1))), (0, .ref (ad 0)), (1, .int (nI N)), (2, .int (nI u)), (3, .int a), (4, .int b), (5, .int pt)]) hx hb dX4_odds_95 hl (by decide) rfl (fun ls hl => ?_)
    refine lv_lload hx hb dX4_odds_97 (lv_at hl 1 rfl) ?_
    refine lv_lconst (v := 1) hx hb dX4_odds_99 (by decide) ?_
    refine W.lcmp hx hb dX4_odds_100 ?_
    refine lv_if_le (tgt := 112) hx hb dX4_odds_101 (by decide) (fun c_101 => ?_) (fun c_101 => ?_)
    · skip
      refine lv_lload hx hb dX4_odds_112 (lv_at hl 0 rfl) ?_
      exact e_l hx hb hr hlk hst (by unfold oddV oddF oddA; rw [if_pos c_101, if_neg c_85]) dX4_odds_114
    · skip
      refine lv_lload hx hb dX4_odds_104 (lv_at hl 0 rfl) ?_
      refine lv_lload hx hb dX4_odds_106 (lv_at hl 1 rfl) ?_
      refine lv_ldiv hx hb dX4_odds_108 (fun h => c_101 (by rw [h]; decide)) ?_
      refine lv_goto (tgt := 114) hx hb dX4_odds_109 (by decide) ?_
      exact e_l hx hb hr hlk hst (by unfold oddV oddF oddA; rw [if_neg c_101, if_neg c_85]) dX4_odds_114
  · skip
    refine lv_lload hx hb dX4_odds_88 (lv_at hl 2 rfl) ?_
    refine lv_goto (tgt := 95) hx hb dX4_odds_90 (by decide) ?_
    refine lv_lstore (lv' := [(12, .long (wfS N (a).toInt64 (b - a).toInt64 (min N u + 1))), (10, .long (gE 1000 (powL (b).toInt64 N) (wfS N (a).toInt64 (b - a).toInt64 (min N u + 1)))), (8, .long (powL (b).toInt64 N)), (6, .long (wfS N (a).toInt64 (b - a).toInt64 (min N u + 1))), (0, .ref (ad 0)), (1, .int (nI N)), (2, .int (nI u)), (3, .int a), (4, .int b), (5, .int pt)]) hx hb dX4_odds_95 hl (by decide) rfl (fun ls hl => ?_)
    refine lv_lload hx hb dX4_odds_97 (lv_at hl 1 rfl) ?_
    refine lv_lconst (v := 1) hx hb dX4_odds_99 (by decide) ?_
    refine W.lcmp hx hb dX4_odds_100 ?_
    refine lv_if_le (tgt := 112) hx hb dX4_odds_101 (by decide) (fun c_101 => ?_) (fun c_101 => ?_)
    · skip
      refine lv_lload hx hb dX4_odds_112 (lv_at hl 0 rfl) ?_
      exact e_l hx hb hr hlk hst (by unfold oddV oddF oddA; rw [if_pos c_101, if_pos c_85]) dX4_odds_114
    · skip
      refine lv_lload hx hb dX4_odds_104 (lv_at hl 0 rfl) ?_
      refine lv_lload hx hb dX4_odds_106 (lv_at hl 1 rfl) ?_
      refine lv_ldiv hx hb dX4_odds_108 (fun h => c_101 (by rw [h]; decide)) ?_
      refine lv_goto (tgt := 114) hx hb dX4_odds_109 (by decide) ?_
      exact e_l hx hb hr hlk hst (by unfold oddV oddF oddA; rw [if_neg c_101, if_pos c_85]) dX4_odds_114

set_option maxHeartbeats 4000000 in
set_option maxRecDepth 100000 in
theorem x1_X4_odds {l : Launch} {D : va_G} {cy ad : Nat → Nat} {I : Im} {G : Dm} {J : Jm} (hadI : adI ad) (hno : l.stackTraces = false) {v u a b pt : Int32} (hp : pt < 0 ∨ ¬ pt ≤ 1) : kX l yX4_odds (.code yX4_odds cX4_odds 14 (some .long)) (rmK 7 1 6 110) D cy ad [.ref (ad 0), .int v, .int u, .int a, .int b, .int pt] I G J xIOOBE := by
  refine start_X hadI (by decide +kernel) (Nat.le_of_ble_eq_true rfl) ?_
  intro p e s m below meth cd am hx hb hout hlk hst ls hl
  have hl : lv_has ls 14 [(0, .ref (ad 0)), (1, .int v), (2, .int u), (3, .int a), (4, .int b), (5, .int pt)] := hl
  refine lv_iload hx hb dX4_odds_0 (lv_at hl 5 rfl) ?_
  refine lv_if_lt (tgt := 11) hx hb dX4_odds_2 (by decide) (fun c_2 => ?_) (fun c_2 => ?_)
  · skip
    exact x_throw (text := "no such part") hno am hst hout hlk hl tx_IOOBE tg_IOOBE rfl (by decide) dX4_odds_11 dX4_odds_14 dX4_odds_15 dX4_odds_17 dX4_odds_20 (Nat.le_of_ble_eq_true rfl) (Nat.le_of_ble_eq_true rfl) (Nat.le_of_ble_eq_true rfl) (Nat.le_of_ble_eq_true rfl) (Nat.le_of_ble_eq_true rfl) (Nat.le_of_ble_eq_true rfl)
  · skip
    refine lv_iload hx hb dX4_odds_5 (lv_at hl 5 rfl) ?_
    refine lv_iconst (v := 1) hx hb dX4_odds_7 (by decide) ?_
    refine lv_icmp_le (tgt := 21) hx hb dX4_odds_8 (by decide) (fun c_8 => absurd c_8 (hp.resolve_left c_2)) (fun c_8 => ?_)
    exact x_throw (text := "no such part") hno am hst hout hlk hl tx_IOOBE tg_IOOBE rfl (by decide) dX4_odds_11 dX4_odds_14 dX4_odds_15 dX4_odds_17 dX4_odds_20 (Nat.le_of_ble_eq_true rfl) (Nat.le_of_ble_eq_true rfl) (Nat.le_of_ble_eq_true rfl) (Nat.le_of_ble_eq_true rfl) (Nat.le_of_ble_eq_true rfl) (Nat.le_of_ble_eq_true rfl)

set_option maxHeartbeats 4000000 in
set_option maxRecDepth 100000 in
theorem x2_X4_odds {l : Launch} {D : va_G} {cy ad : Nat → Nat} {I : Im} {G : Dm} {J : Jm} (hadI : adI ad) (hno : l.stackTraces = false) {v u a b pt : Int32} (hp : ¬ pt < 0 ∧ pt ≤ 1) (hv : v < 0 ∨ 12 < v ∨ u < 0 ∨ bShare a b 16 = false) : kX l yX4_odds (.code yX4_odds cX4_odds 14 (some .long)) (rmK 7 1 6 110) D cy ad [.ref (ad 0), .int v, .int u, .int a, .int b, .int pt] I G J xIAE := by
  refine start_X hadI (by decide +kernel) (Nat.le_of_ble_eq_true rfl) ?_
  intro p e s m below meth cd am hx hb hout hlk hst ls hl
  have hl : lv_has ls 14 [(0, .ref (ad 0)), (1, .int v), (2, .int u), (3, .int a), (4, .int b), (5, .int pt)] := hl
  refine lv_iload hx hb dX4_odds_0 (lv_at hl 5 rfl) ?_
  refine lv_if_lt (tgt := 11) hx hb dX4_odds_2 (by decide) (fun c_2 => absurd c_2 hp.1) (fun c_2 => ?_)
  refine lv_iload hx hb dX4_odds_5 (lv_at hl 5 rfl) ?_
  refine lv_iconst (v := 1) hx hb dX4_odds_7 (by decide) ?_
  refine lv_icmp_le (tgt := 21) hx hb dX4_odds_8 (by decide) (fun c_8 => ?_) (fun c_8 => absurd hp.2 c_8)
  refine lv_iload_n hx hb dX4_odds_21 rfl (lv_at hl 1 rfl) ?_
  refine lv_if_lt (tgt := 50) hx hb dX4_odds_22 (by decide) (fun c_22 => ?_) (fun c_22 => ?_)
  · skip
    refine lv_iconst (v := 0) hx hb dX4_odds_50 (by decide) ?_
    exact x_call hst hout hlk (Nat.le_of_ble_eq_true rfl) (Nat.le_of_ble_eq_true rfl) (r_SX (As := [.int 0]) (rest := []) am hst hl (x_X4_need hadI hno (rfl)) kRX4_68 smX4_need ⟨rfl, rfl⟩ ⟨Nat.le_of_ble_eq_true rfl, Nat.le_of_ble_eq_true rfl⟩ rfl rfl (Nat.le_of_ble_eq_true rfl) dX4_odds_51 ⟨Nat.le_of_ble_eq_true rfl, Nat.le_of_ble_eq_true rfl⟩)
  · skip
    refine lv_iload_n hx hb dX4_odds_25 rfl (lv_at hl 1 rfl) ?_
    refine lv_bipush (v := 12) hx hb dX4_odds_26 (by decide) ?_
    refine lv_icmp_gt (tgt := 50) hx hb dX4_odds_28 (by decide) (fun c_28 => ?_) (fun c_28 => ?_)
    · skip
      refine lv_iconst (v := 0) hx hb dX4_odds_50 (by decide) ?_
      exact x_call hst hout hlk (Nat.le_of_ble_eq_true rfl) (Nat.le_of_ble_eq_true rfl) (r_SX (As := [.int 0]) (rest := []) am hst hl (x_X4_need hadI hno (rfl)) kRX4_68 smX4_need ⟨rfl, rfl⟩ ⟨Nat.le_of_ble_eq_true rfl, Nat.le_of_ble_eq_true rfl⟩ rfl rfl (Nat.le_of_ble_eq_true rfl) dX4_odds_51 ⟨Nat.le_of_ble_eq_true rfl, Nat.le_of_ble_eq_true rfl⟩)
    · skip
      refine lv_iload_n hx hb dX4_odds_31 rfl (lv_at hl 2 rfl) ?_
      refine lv_if_lt (tgt := 50) hx hb dX4_odds_32 (by decide) (fun c_32 => ?_) (fun c_32 => ?_)
      · skip
        refine lv_iconst (v := 0) hx hb dX4_odds_50 (by decide) ?_
        exact x_call hst hout hlk (Nat.le_of_ble_eq_true rfl) (Nat.le_of_ble_eq_true rfl) (r_SX (As := [.int 0]) (rest := []) am hst hl (x_X4_need hadI hno (rfl)) kRX4_68 smX4_need ⟨rfl, rfl⟩ ⟨Nat.le_of_ble_eq_true rfl, Nat.le_of_ble_eq_true rfl⟩ rfl rfl (Nat.le_of_ble_eq_true rfl) dX4_odds_51 ⟨Nat.le_of_ble_eq_true rfl, Nat.le_of_ble_eq_true rfl⟩)
      · skip
        refine lv_iload_n hx hb dX4_odds_35 rfl (lv_at hl 3 rfl) ?_
        refine lv_iload hx hb dX4_odds_36 (lv_at hl 4 rfl) ?_
        refine lv_bipush (v := 16) hx hb dX4_odds_38 (by decide) ?_
        refine c_i hst (r_S (As := [.int a, .int b, .int 16]) (rest := []) am hst hl (k_X4_isShare hadI) kRX4_122 smX4_isShare ⟨Nat.le_of_ble_eq_true rfl, Nat.le_of_ble_eq_true rfl⟩ rfl rfl (Nat.le_of_ble_eq_true rfl) dX4_odds_40 ⟨Nat.le_of_ble_eq_true rfl, Nat.le_of_ble_eq_true rfl⟩) (fun H locs hst => ?_)
        refine lv_if_eq (tgt := 50) hx hb dX4_odds_43 (by decide) (fun c_43 => ?_) (fun c_43 => absurd (zB_0.mpr (((hv.resolve_left c_22).resolve_left c_28).resolve_left c_32)) c_43)
        refine lv_iconst (v := 0) hx hb dX4_odds_50 (by decide) ?_
        exact x_call hst hout hlk (Nat.le_of_ble_eq_true rfl) (Nat.le_of_ble_eq_true rfl) (r_SX (As := [.int 0]) (rest := []) am hst hl (x_X4_need hadI hno (rfl)) kRX4_68 smX4_need ⟨rfl, rfl⟩ ⟨Nat.le_of_ble_eq_true rfl, Nat.le_of_ble_eq_true rfl⟩ rfl rfl (Nat.le_of_ble_eq_true rfl) dX4_odds_51 ⟨Nat.le_of_ble_eq_true rfl, Nat.le_of_ble_eq_true rfl⟩)

set_option maxHeartbeats 4000000 in
set_option maxRecDepth 100000 in
theorem k_X4_chart {l : Launch} {D : va_G} {cy ad : Nat → Nat} {I : Im} {G : Dm} {J : Jm} (hadI : adI ad) {a b : Int32} (hv : ¬ a < 1 ∧ ¬ 20 < a ∧ ¬ b < 0 ∧ ¬ a < b) : kM l yX4_chart (.code yX4_chart cX4_chart 3 none) (rmK 1 0 0 22) D cy ad [.ref (ad 0), .int a, .int b] I G J (qV D cy ad (u2 (u2 (u2 (u2 I 49 0 a) 49 1 b) 49 2 0) 49 3 0) G J) := by
  refine start_M hadI (by decide +kernel) (Nat.le_of_ble_eq_true rfl) ?_
  intro p e s m below meth cd am hx hb hr hlk hst ls hl
  have hl : lv_has ls 3 [(0, .ref (ad 0)), (1, .int a), (2, .int b)] := hl
  refine lv_iload_n hx hb dX4_chart_0 rfl (lv_at hl 1 rfl) ?_
  refine lv_iconst (v := 1) hx hb dX4_chart_1 (by decide) ?_
  refine lv_icmp_lt (tgt := 24) hx hb dX4_chart_2 (by decide) (fun c_2 => absurd c_2 hv.1) (fun c_2 => ?_)
  refine lv_iload_n hx hb dX4_chart_5 rfl (lv_at hl 1 rfl) ?_
  refine lv_bipush (v := 20) hx hb dX4_chart_6 (by decide) ?_
  refine lv_icmp_gt (tgt := 24) hx hb dX4_chart_8 (by decide) (fun c_8 => absurd c_8 hv.2.1) (fun c_8 => ?_)
  refine lv_iload_n hx hb dX4_chart_11 rfl (lv_at hl 2 rfl) ?_
  refine lv_if_lt (tgt := 24) hx hb dX4_chart_12 (by decide) (fun c_12 => absurd c_12 hv.2.2.1) (fun c_12 => ?_)
  refine lv_iload_n hx hb dX4_chart_15 rfl (lv_at hl 2 rfl) ?_
  refine lv_iload_n hx hb dX4_chart_16 rfl (lv_at hl 1 rfl) ?_
  refine lv_icmp_gt (tgt := 24) hx hb dX4_chart_17 (by decide) (fun c_17 => absurd c_17 hv.2.2.2) (fun c_17 => ?_)
  refine lv_iconst (v := 1) hx hb dX4_chart_20 (by decide) ?_
  refine lv_goto (tgt := 25) hx hb dX4_chart_21 (by decide) ?_
  refine c_v hst (r_S (As := [.int 1]) (rest := []) am hst hl (k_X4_need hadI (by decide)) kRX4_68 smX4_need ⟨Nat.le_of_ble_eq_true rfl, Nat.le_of_ble_eq_true rfl⟩ rfl rfl (Nat.le_of_ble_eq_true rfl) dX4_chart_25 ⟨Nat.le_of_ble_eq_true rfl, Nat.le_of_ble_eq_true rfl⟩) (fun H locs hst => ?_)
  refine lv_aload_n hx hb dX4_chart_28 rfl (lv_at hl 0 rfl) ?_
  refine w_getR am hst (k := 6) (b := ad 49) (by decide) (fun _ _ _ => cE_S) rfl inT4 (by decide) (fun _ _ _ => rfl) fRX4_39 dX4_chart_29 ?_
  refine lv_iload_n hx hb dX4_chart_32 rfl (lv_at hl 1 rfl) ?_
  refine lv_iload_n hx hb dX4_chart_33 rfl (lv_at hl 2 rfl) ?_
  refine c_v hst (r_N (As := [.int a, .int b]) (rest := []) am hst hl (k_X1_begin hadI) kRX4_149 imX1_begin slX1_begin ⟨Nat.le_of_ble_eq_true rfl, Nat.le_of_ble_eq_true rfl⟩ (by decide) (fun _ _ _ => cE_49) rfl rfl rfl (Nat.le_of_ble_eq_true rfl) dX4_chart_34 ⟨Nat.le_of_ble_eq_true rfl, Nat.le_of_ble_eq_true rfl⟩) (fun H locs hst => ?_)
  exact e_v hx hb hr hlk hst dX4_chart_37

set_option maxHeartbeats 4000000 in
set_option maxRecDepth 100000 in
theorem x_X4_chart {l : Launch} {D : va_G} {cy ad : Nat → Nat} {I : Im} {G : Dm} {J : Jm} (hadI : adI ad) (hno : l.stackTraces = false) {a b : Int32} (hv : a < 1 ∨ 20 < a ∨ b < 0 ∨ a < b) : kX l yX4_chart (.code yX4_chart cX4_chart 3 none) (rmK 7 1 6 110) D cy ad [.ref (ad 0), .int a, .int b] I G J xIAE := by
  refine start_X hadI (by decide +kernel) (Nat.le_of_ble_eq_true rfl) ?_
  intro p e s m below meth cd am hx hb hout hlk hst ls hl
  have hl : lv_has ls 3 [(0, .ref (ad 0)), (1, .int a), (2, .int b)] := hl
  refine lv_iload_n hx hb dX4_chart_0 rfl (lv_at hl 1 rfl) ?_
  refine lv_iconst (v := 1) hx hb dX4_chart_1 (by decide) ?_
  refine lv_icmp_lt (tgt := 24) hx hb dX4_chart_2 (by decide) (fun c_2 => ?_) (fun c_2 => ?_)
  · skip
    refine lv_iconst (v := 0) hx hb dX4_chart_24 (by decide) ?_
    exact x_call hst hout hlk (Nat.le_of_ble_eq_true rfl) (Nat.le_of_ble_eq_true rfl) (r_SX (As := [.int 0]) (rest := []) am hst hl (x_X4_need hadI hno (rfl)) kRX4_68 smX4_need ⟨rfl, rfl⟩ ⟨Nat.le_of_ble_eq_true rfl, Nat.le_of_ble_eq_true rfl⟩ rfl rfl (Nat.le_of_ble_eq_true rfl) dX4_chart_25 ⟨Nat.le_of_ble_eq_true rfl, Nat.le_of_ble_eq_true rfl⟩)
  · skip
    refine lv_iload_n hx hb dX4_chart_5 rfl (lv_at hl 1 rfl) ?_
    refine lv_bipush (v := 20) hx hb dX4_chart_6 (by decide) ?_
    refine lv_icmp_gt (tgt := 24) hx hb dX4_chart_8 (by decide) (fun c_8 => ?_) (fun c_8 => ?_)
    · skip
      refine lv_iconst (v := 0) hx hb dX4_chart_24 (by decide) ?_
      exact x_call hst hout hlk (Nat.le_of_ble_eq_true rfl) (Nat.le_of_ble_eq_true rfl) (r_SX (As := [.int 0]) (rest := []) am hst hl (x_X4_need hadI hno (rfl)) kRX4_68 smX4_need ⟨rfl, rfl⟩ ⟨Nat.le_of_ble_eq_true rfl, Nat.le_of_ble_eq_true rfl⟩ rfl rfl (Nat.le_of_ble_eq_true rfl) dX4_chart_25 ⟨Nat.le_of_ble_eq_true rfl, Nat.le_of_ble_eq_true rfl⟩)
    · skip
      refine lv_iload_n hx hb dX4_chart_11 rfl (lv_at hl 2 rfl) ?_
      refine lv_if_lt (tgt := 24) hx hb dX4_chart_12 (by decide) (fun c_12 => ?_) (fun c_12 => ?_)
      · skip
        refine lv_iconst (v := 0) hx hb dX4_chart_24 (by decide) ?_
        exact x_call hst hout hlk (Nat.le_of_ble_eq_true rfl) (Nat.le_of_ble_eq_true rfl) (r_SX (As := [.int 0]) (rest := []) am hst hl (x_X4_need hadI hno (rfl)) kRX4_68 smX4_need ⟨rfl, rfl⟩ ⟨Nat.le_of_ble_eq_true rfl, Nat.le_of_ble_eq_true rfl⟩ rfl rfl (Nat.le_of_ble_eq_true rfl) dX4_chart_25 ⟨Nat.le_of_ble_eq_true rfl, Nat.le_of_ble_eq_true rfl⟩)
      · skip
        refine lv_iload_n hx hb dX4_chart_15 rfl (lv_at hl 2 rfl) ?_
        refine lv_iload_n hx hb dX4_chart_16 rfl (lv_at hl 1 rfl) ?_
        refine lv_icmp_gt (tgt := 24) hx hb dX4_chart_17 (by decide) (fun c_17 => ?_) (fun c_17 => absurd (((hv.resolve_left c_2).resolve_left c_8).resolve_left c_12) c_17)
        refine lv_iconst (v := 0) hx hb dX4_chart_24 (by decide) ?_
        exact x_call hst hout hlk (Nat.le_of_ble_eq_true rfl) (Nat.le_of_ble_eq_true rfl) (r_SX (As := [.int 0]) (rest := []) am hst hl (x_X4_need hadI hno (rfl)) kRX4_68 smX4_need ⟨rfl, rfl⟩ ⟨Nat.le_of_ble_eq_true rfl, Nat.le_of_ble_eq_true rfl⟩ rfl rfl (Nat.le_of_ble_eq_true rfl) dX4_chart_25 ⟨Nat.le_of_ble_eq_true rfl, Nat.le_of_ble_eq_true rfl⟩)

set_option maxHeartbeats 4000000 in
set_option maxRecDepth 100000 in
theorem k_X4_test {l : Launch} {D : va_G} {cy ad : Nat → Nat} {I : Im} {G : Dm} {J : Jm} (hadI : adI ad) {b : Bool} : kM l yX4_test (.code yX4_test cX4_test 2 (some .boolean)) (rmK 2 0 0 41) D cy ad [.ref (ad 0), .int (zB b)] I G J (qI D cy ad (zB (chR I b)) (chI I b) G J) := by
  refine start_M hadI (by decide +kernel) (Nat.le_of_ble_eq_true rfl) ?_
  intro p e s m below meth cd am hx hb hr hlk hst ls hl
  have hl : lv_has ls 2 [(0, .ref (ad 0)), (1, .int (zB b))] := hl
  refine lv_aload_n hx hb dX4_test_0 rfl (lv_at hl 0 rfl) ?_
  refine w_getR am hst (k := 6) (b := ad 49) (by decide) (fun _ _ _ => cE_S) rfl inT4 (by decide) (fun _ _ _ => rfl) fRX4_39 dX4_test_1 ?_
  refine lv_iload_n hx hb dX4_test_4 rfl (lv_at hl 1 rfl) ?_
  refine c_i hst (r_N (As := [.int (zB b)]) (rest := []) am hst hl (k_X1_actsAt hadI (b := b)) kRX4_153 imX1_actsAt slX1_actsAt ⟨Nat.le_of_ble_eq_true rfl, Nat.le_of_ble_eq_true rfl⟩ (by decide) (fun _ _ _ => cE_49) rfl rfl rfl (Nat.le_of_ble_eq_true rfl) dX4_test_5 ⟨Nat.le_of_ble_eq_true rfl, Nat.le_of_ble_eq_true rfl⟩) (fun H locs hst => ?_)
  exact e_i hx hb hr hlk hst (zB_nar _) rfl dX4_test_8

set_option maxHeartbeats 4000000 in
set_option maxRecDepth 100000 in
theorem k_X4_proof {l : Launch} {D : va_G} {cy ad : Nat → Nat} {I : Im} {G : Dm} {J : Jm} (hadI : adI ad) {x X : UInt64} (hxX : cn x = X) (hin : bIn X 0 1000 = true) : kM l yX4_proof (.code yX4_proof cX4_proof 8 (some .int)) (rmK 1 0 0 23) D cy ad [.ref (ad 0), .double x] I G J (qI D cy ad (nI (prN I G X 32)) (prI I G X 32) G J) := by
  refine start_M hadI (by decide +kernel) (Nat.le_of_ble_eq_true rfl) ?_
  intro p e s m below meth cd am hx hb hr hlk hst ls hl
  have hl : lv_has ls 8 [(0, .ref (ad 0)), (1, .double x)] := hl
  refine lv_dload_n hx hb dX4_proof_0 rfl (lv_at hl 1 rfl) ?_
  refine lv_iconst (v := 0) hx hb dX4_proof_1 (by decide) ?_
  refine lv_sipush (v := 1000) hx hb dX4_proof_2 (by decide) ?_
  refine c_i hst (r_S (As := [.double x, .int 0, .int 1000]) (rest := []) am hst hl (k_X4_isWithin hadI hxX) kRX4_64 smX4_isWithin ⟨Nat.le_of_ble_eq_true rfl, Nat.le_of_ble_eq_true rfl⟩ rfl rfl (Nat.le_of_ble_eq_true rfl) dX4_proof_5 ⟨Nat.le_of_ble_eq_true rfl, Nat.le_of_ble_eq_true rfl⟩) (fun H locs hst => ?_)
  refine c_v hst (r_S (As := [.int (zB (bIn X 0 1000))]) (rest := []) am hst hl (k_X4_need hadI (zB_n0.mpr hin)) kRX4_68 smX4_need ⟨Nat.le_of_ble_eq_true rfl, Nat.le_of_ble_eq_true rfl⟩ rfl rfl (Nat.le_of_ble_eq_true rfl) dX4_proof_8 ⟨Nat.le_of_ble_eq_true rfl, Nat.le_of_ble_eq_true rfl⟩) (fun H locs hst => ?_)
  refine lv_iconst (v := 0) hx hb dX4_proof_11 (by decide) ?_
  refine lv_istore_n (lv' := [(3, .int 0), (0, .ref (ad 0)), (1, .double x)]) hx hb dX4_proof_12 rfl hl (by decide) rfl (fun ls hl => ?_)
  refine lv_aload_n hx hb dX4_proof_13 rfl (lv_at hl 1 rfl) ?_
  refine w_getR am hst (k := 1) (b := ad 1) (by decide) (fun _ _ _ => cE_S) rfl inT4 (by decide) (fun _ _ _ => rfl) fRX4_15 dX4_proof_14 ?_
  refine lv_astore (lv' := [(4, .ref (ad 1)), (3, .int 0), (0, .ref (ad 0)), (1, .double x)]) hx hb dX4_proof_17 hl (by decide) rfl (fun ls hl => ?_)
  refine lv_aload hx hb dX4_proof_19 (lv_at hl 0 rfl) ?_
  refine w_alen am hst (t0 := 3) (v := 32) (by decide) _ (fun _ => cE_1) rfl rfl dX4_proof_21 ?_
  refine lv_istore (lv' := [(5, .int 32), (4, .ref (ad 1)), (3, .int 0), (0, .ref (ad 0)), (1, .double x)]) hx hb dX4_proof_22 hl (by decide) rfl (fun ls hl => ?_)
  refine lv_iconst (v := 0) hx hb dX4_proof_24 (by decide) ?_
  refine lv_istore (lv' := [(6, .int 0), (5, .int 32), (4, .ref (ad 1)), (3, .int 0), (0, .ref (ad 0)), (1, .double x)]) hx hb dX4_proof_25 hl (by decide) rfl (fun ls hl => ?_)
  have lp0 : ∀ (n i : Nat), n + i = 32 → ∀ (H : Heap) (locs : List Loc), St D cy ad s.heap (prI I G X i) G J H locs → ∀ ls, lv_has ls 8 [(0, .ref (ad 0)), (1, .double x), (3, .int (nI (prN I G X i))), (4, .ref (ad 1)), (5, .int 32), (6, .int (nI i))] → W p l e (rmK 1 0 0 23) (s.setDrawn s.drawn) m [.ref (ad 0), .double x].toArray below meth cd H locs 0 0 (MQ below (qI D cy ad (nI (prN I G X 32)) (prI I G X 32) G J s.heap.size) [.ref (ad 0), .double x].toArray s ((rmK 1 0 0 23)).cells ((rmK 1 0 0 23)).slots (aA ad s.heap.size)) (F0 m 27 ls []) := by
    intro n
    induction n with
    | zero =>
      intro i hi H locs hst ls hl
      obtain rfl : 32 = i := by omega
      refine lv_iload hx hb dX4_proof_27 (lv_at hl 5 rfl) ?_
      refine lv_iload hx hb dX4_proof_29 (lv_at hl 4 rfl) ?_
      refine lv_icmp_ge (tgt := 82) hx hb dX4_proof_31 (by decide) (fun c_31 => ?_) (fun c_31 => absurd ((show (32 : Int32) ≤ nI 32 by decide)) c_31)
      refine lv_iload_n hx hb dX4_proof_82 rfl (lv_at hl 2 rfl) ?_
      exact e_i hx hb hr hlk hst rfl rfl dX4_proof_83
    | succ n ih_lp0 =>
      intro i hi H locs hst ls hl
      refine lv_iload hx hb dX4_proof_27 (lv_at hl 5 rfl) ?_
      refine lv_iload hx hb dX4_proof_29 (lv_at hl 4 rfl) ?_
      refine lv_icmp_ge (tgt := 82) hx hb dX4_proof_31 (by decide) (fun c_31 => absurd c_31 ((nI_ge (b := 32) (by omega) (by decide)))) (fun c_31 => ?_)
      refine lv_aload hx hb dX4_proof_34 (lv_at hl 3 rfl) ?_
      refine lv_iload hx hb dX4_proof_36 (lv_at hl 5 rfl) ?_
      refine w_aldR am hst (n := i) (nI_clamp (by omega)) (vp_in_nI (by omega) (by decide)) dX4_proof_38 ?_
      refine lv_astore (lv' := [(7, .ref (ad (2 + i))), (0, .ref (ad 0)), (1, .double x), (3, .int (nI (prN I G X i))), (4, .ref (ad 1)), (5, .int 32), (6, .int (nI i))]) hx hb dX4_proof_39 hl (by decide) rfl (fun ls hl => ?_)
      refine lv_aload hx hb dX4_proof_41 (lv_at hl 0 rfl) ?_
      refine w_getIN am hst (k := 5) (by omega) (fun _ _ _ => cE_B (by omega)) rfl inT0 (by decide) (fun _ _ _ => rfl) fRX4_87 dX4_proof_43 ?_
      refine lv_if_eq (tgt := 76) hx hb dX4_proof_46 (by decide) (fun c_46 => ?_) (fun c_46 => ?_)
      · skip
        refine lv_iinc (v := nI (i + 1)) (lv' := [(6, .int (nI (i + 1))), (7, .ref (ad (2 + i))), (0, .ref (ad 0)), (1, .double x), (3, .int (nI (prN I G X i))), (4, .ref (ad 1)), (5, .int 32)]) hx hb dX4_proof_76 hl (k := 6) rfl (nI_1 i) (by decide) rfl (fun ls hl => ?_)
        refine lv_goto (tgt := 27) hx hb dX4_proof_79 (by decide) ?_
        have ih2 := ih_lp0 (i + 1) (by omega) 
        rw [show prI I G X (i + 1) = prI I G X i from if_neg (by rw [show prC (prI I G X i) G X i = false from by simp only [prC, c_46, not_true_eq_false, not_false_eq_true, decide_true, decide_false, Bool.true_and, Bool.false_and, Bool.and_true, Bool.and_false, Bool.and_self, if_true, if_false, ite_true, ite_false, reduceIte, Bool.false_eq_true]]; exact Bool.false_ne_true), show prN I G X (i + 1) = prN I G X i from if_neg (by rw [show prC (prI I G X i) G X i = false from by simp only [prC, c_46, not_true_eq_false, not_false_eq_true, decide_true, decide_false, Bool.true_and, Bool.false_and, Bool.and_true, Bool.and_false, Bool.and_self, if_true, if_false, ite_true, ite_false, reduceIte, Bool.false_eq_true]]; exact Bool.false_ne_true)] at ih2
        exact ih2 _ _ hst ls (lv_sub hl [2, 3, 4, 5, 6, 0] rfl)
      · skip
        refine lv_aload hx hb dX4_proof_49 (lv_at hl 0 rfl) ?_
        refine w_getIN am hst (k := 6) (by omega) (fun _ _ _ => cE_B (by omega)) rfl inT0 (by decide) (fun _ _ _ => rfl) fRX4_91 dX4_proof_51 ?_
        refine lv_if_ne (tgt := 76) hx hb dX4_proof_54 (by decide) (fun c_54 => ?_) (fun c_54 => ?_)
        · skip
          refine lv_iinc (v := nI (i + 1)) (lv' := [(6, .int (nI (i + 1))), (7, .ref (ad (2 + i))), (0, .ref (ad 0)), (1, .double x), (3, .int (nI (prN I G X i))), (4, .ref (ad 1)), (5, .int 32)]) hx hb dX4_proof_76 hl (k := 6) rfl (nI_1 i) (by decide) rfl (fun ls hl => ?_)
          refine lv_goto (tgt := 27) hx hb dX4_proof_79 (by decide) ?_
          have ih2 := ih_lp0 (i + 1) (by omega) 
          rw [show prI I G X (i + 1) = prI I G X i from if_neg (by rw [show prC (prI I G X i) G X i = false from by simp only [prC, c_46, c_54, not_true_eq_false, not_false_eq_true, decide_true, decide_false, Bool.true_and, Bool.false_and, Bool.and_true, Bool.and_false, Bool.and_self, if_true, if_false, ite_true, ite_false, reduceIte, Bool.false_eq_true]]; exact Bool.false_ne_true), show prN I G X (i + 1) = prN I G X i from if_neg (by rw [show prC (prI I G X i) G X i = false from by simp only [prC, c_46, c_54, not_true_eq_false, not_false_eq_true, decide_true, decide_false, Bool.true_and, Bool.false_and, Bool.and_true, Bool.and_false, Bool.and_self, if_true, if_false, ite_true, ite_false, reduceIte, Bool.false_eq_true]]; exact Bool.false_ne_true)] at ih2
          exact ih2 _ _ hst ls (lv_sub hl [2, 3, 4, 5, 6, 0] rfl)
        · skip
          refine lv_aload hx hb dX4_proof_57 (lv_at hl 0 rfl) ?_
          refine w_getDN am hst (k := 4) (by omega) (fun _ _ _ => cE_B (by omega)) rfl inT0 (by decide) (fun _ _ _ => rfl) fRX4_96 dX4_proof_59 (fun x1 hx1 => ?_)
          refine lv_dload_n hx hb dX4_proof_62 rfl (lv_at hl 2 rfl) ?_
          refine w_dcmp hx hb hx1 hxX dX4_proof_63 ?_
          refine lv_if_ge (tgt := 76) hx hb dX4_proof_64 (by decide) (fun c_64 => ?_) (fun c_64 => ?_)
          · skip
            refine lv_iinc (v := nI (i + 1)) (lv' := [(6, .int (nI (i + 1))), (7, .ref (ad (2 + i))), (0, .ref (ad 0)), (1, .double x), (3, .int (nI (prN I G X i))), (4, .ref (ad 1)), (5, .int 32)]) hx hb dX4_proof_76 hl (k := 6) rfl (nI_1 i) (by decide) rfl (fun ls hl => ?_)
            refine lv_goto (tgt := 27) hx hb dX4_proof_79 (by decide) ?_
            have ih2 := ih_lp0 (i + 1) (by omega) 
            rw [show prI I G X (i + 1) = prI I G X i from if_neg (by rw [show prC (prI I G X i) G X i = false from by simp only [prC, c_46, c_54, c_64, not_true_eq_false, not_false_eq_true, decide_true, decide_false, Bool.true_and, Bool.false_and, Bool.and_true, Bool.and_false, Bool.and_self, if_true, if_false, ite_true, ite_false, reduceIte, Bool.false_eq_true]]; exact Bool.false_ne_true), show prN I G X (i + 1) = prN I G X i from if_neg (by rw [show prC (prI I G X i) G X i = false from by simp only [prC, c_46, c_54, c_64, not_true_eq_false, not_false_eq_true, decide_true, decide_false, Bool.true_and, Bool.false_and, Bool.and_true, Bool.and_false, Bool.and_self, if_true, if_false, ite_true, ite_false, reduceIte, Bool.false_eq_true]]; exact Bool.false_ne_true)] at ih2
            exact ih2 _ _ hst ls (lv_sub hl [2, 3, 4, 5, 6, 0] rfl)
          · skip
            refine lv_aload hx hb dX4_proof_67 (lv_at hl 0 rfl) ?_
            refine lv_iconst (v := 1) hx hb dX4_proof_69 (by decide) ?_
            refine w_putIN am hst (k := 6) (by omega) (fun _ _ _ => cE_B (by omega)) rfl inT0 tyX0 tyX0_ok nmX0 (by decide) fRX4_91 (fun _ _ _ => rfl) (fun _ _ _ => Nat.le_of_ble_eq_true rfl) rfl rfl rfl rfl dX4_proof_70 (fun H locs hst => ?_)
            refine lv_iinc (v := nI (prN I G X i + 1)) (lv' := [(3, .int (nI (prN I G X i + 1))), (7, .ref (ad (2 + i))), (0, .ref (ad 0)), (1, .double x), (4, .ref (ad 1)), (5, .int 32), (6, .int (nI i))]) hx hb dX4_proof_73 hl (k := 3) rfl (nI_1 (prN I G X i)) (by decide) rfl (fun ls hl => ?_)
            refine lv_iinc (v := nI (i + 1)) (lv' := [(6, .int (nI (i + 1))), (3, .int (nI (prN I G X i + 1))), (7, .ref (ad (2 + i))), (0, .ref (ad 0)), (1, .double x), (4, .ref (ad 1)), (5, .int 32)]) hx hb dX4_proof_76 hl (k := 6) rfl (nI_1 i) (by decide) rfl (fun ls hl => ?_)
            refine lv_goto (tgt := 27) hx hb dX4_proof_79 (by decide) ?_
            have ih2 := ih_lp0 (i + 1) (by omega) 
            rw [show prI I G X (i + 1) = u2 (prI I G X i) (2 + i) 6 1 from if_pos (by simp only [prC, c_46, c_54, c_64, not_true_eq_false, not_false_eq_true, decide_true, decide_false, Bool.true_and, Bool.false_and, Bool.and_true, Bool.and_false, Bool.and_self, if_true, if_false, ite_true, ite_false, reduceIte, Bool.false_eq_true]), show prN I G X (i + 1) = prN I G X i + 1 from if_pos (by simp only [prC, c_46, c_54, c_64, not_true_eq_false, not_false_eq_true, decide_true, decide_false, Bool.true_and, Bool.false_and, Bool.and_true, Bool.and_false, Bool.and_self, if_true, if_false, ite_true, ite_false, reduceIte, Bool.false_eq_true])] at ih2
            exact ih2 _ _ hst ls (lv_sub hl [3, 4, 1, 5, 6, 0] rfl)
  exact lp0 32 0 (by omega) _ _ hst ls (lv_sub hl [4, 5, 3, 2, 1, 0] rfl)

set_option maxHeartbeats 4000000 in
set_option maxRecDepth 100000 in
theorem x_X4_proof {l : Launch} {D : va_G} {cy ad : Nat → Nat} {I : Im} {G : Dm} {J : Jm} (hadI : adI ad) (hno : l.stackTraces = false) {x X : UInt64} (hxX : cn x = X) (hin : bIn X 0 1000 = false) : kX l yX4_proof (.code yX4_proof cX4_proof 8 (some .int)) (rmK 7 1 6 110) D cy ad [.ref (ad 0), .double x] I G J xIAE := by
  refine start_X hadI (by decide +kernel) (Nat.le_of_ble_eq_true rfl) ?_
  intro p e s m below meth cd am hx hb hout hlk hst ls hl
  have hl : lv_has ls 8 [(0, .ref (ad 0)), (1, .double x)] := hl
  refine lv_dload_n hx hb dX4_proof_0 rfl (lv_at hl 1 rfl) ?_
  refine lv_iconst (v := 0) hx hb dX4_proof_1 (by decide) ?_
  refine lv_sipush (v := 1000) hx hb dX4_proof_2 (by decide) ?_
  refine c_i hst (r_S (As := [.double x, .int 0, .int 1000]) (rest := []) am hst hl (k_X4_isWithin hadI hxX) kRX4_64 smX4_isWithin ⟨Nat.le_of_ble_eq_true rfl, Nat.le_of_ble_eq_true rfl⟩ rfl rfl (Nat.le_of_ble_eq_true rfl) dX4_proof_5 ⟨Nat.le_of_ble_eq_true rfl, Nat.le_of_ble_eq_true rfl⟩) (fun H locs hst => ?_)
  exact x_call hst hout hlk (Nat.le_of_ble_eq_true rfl) (Nat.le_of_ble_eq_true rfl) (r_SX (As := [.int (zB (bIn X 0 1000))]) (rest := []) am hst hl (x_X4_need hadI hno (zB_0.mpr hin)) kRX4_68 smX4_need ⟨rfl, rfl⟩ ⟨Nat.le_of_ble_eq_true rfl, Nat.le_of_ble_eq_true rfl⟩ rfl rfl (Nat.le_of_ble_eq_true rfl) dX4_proof_8 ⟨Nat.le_of_ble_eq_true rfl, Nat.le_of_ble_eq_true rfl⟩)

set_option maxHeartbeats 4000000 in
set_option maxRecDepth 100000 in
theorem k_X4_about_0 {l : Launch} {D : va_G} {cy ad : Nat → Nat} {I : Im} {G : Dm} {J : Jm} (hadI : adI ad) {n k : Nat} (hn : I 0 2 = nI n) (hk : k < n) (hn2 : n ≤ 32) : kM l yX4_about (.code yX4_about cX4_about 4 (some .int)) (rmK 1 0 0 21) D cy ad [.ref (ad 0), .int (nI k), .int 0] I G J (qI D cy ad (I (2 + k) 0) I G J) := by
  refine start_M hadI (by decide +kernel) (Nat.le_of_ble_eq_true rfl) ?_
  intro p e s m below meth cd am hx hb hr hlk hst ls hl
  have hl : lv_has ls 4 [(0, .ref (ad 0)), (1, .int (nI k)), (2, .int 0)] := hl
  refine lv_aload_n hx hb dX4_about_0 rfl (lv_at hl 0 rfl) ?_
  refine lv_iload_n hx hb dX4_about_1 rfl (lv_at hl 1 rfl) ?_
  refine c_r hst (r_V (As := [.int (nI k)]) (rest := []) am hst hl (k_X4_boardAt hadI hn hk hn2) kRX4_60 imX4_boardAt slX4_boardAt ⟨Nat.le_of_ble_eq_true rfl, Nat.le_of_ble_eq_true rfl⟩ (by decide) (fun _ _ _ => cE_S) rfl rfl rfl (Nat.le_of_ble_eq_true rfl) dX4_about_2 ⟨Nat.le_of_ble_eq_true rfl, Nat.le_of_ble_eq_true rfl⟩) (fun H locs hst => ?_)
  refine lv_astore_n (lv' := [(3, .ref (ad (2 + k))), (0, .ref (ad 0)), (1, .int (nI k)), (2, .int 0)]) hx hb dX4_about_5 rfl hl (by decide) rfl (fun ls hl => ?_)
  refine lv_iload_n hx hb dX4_about_6 rfl (lv_at hl 3 rfl) ?_
  refine lv_tableIn (off := 29) (tgt := 36) hx hb dX4_about_7 (by decide) (by decide) rfl (by decide) ?_
  refine lv_aload_n hx hb dX4_about_36 rfl (lv_at hl 0 rfl) ?_
  refine w_getIN am hst (k := 0) (by omega) (fun _ _ _ => cE_B (show 2 ≤ 2 + k ∧ 2 + k < 34 by omega)) rfl inT0 (by decide) (fun _ _ _ => rfl) fRX4_72 dX4_about_37 ?_
  exact e_i hx hb hr hlk hst rfl rfl dX4_about_40

set_option maxHeartbeats 4000000 in
set_option maxRecDepth 100000 in
theorem k_X4_about_1 {l : Launch} {D : va_G} {cy ad : Nat → Nat} {I : Im} {G : Dm} {J : Jm} (hadI : adI ad) {n k : Nat} (hn : I 0 2 = nI n) (hk : k < n) (hn2 : n ≤ 32) : kM l yX4_about (.code yX4_about cX4_about 4 (some .int)) (rmK 1 0 0 21) D cy ad [.ref (ad 0), .int (nI k), .int 1] I G J (qI D cy ad (zB (bCompl I G (2 + k))) I G J) := by
  refine start_M hadI (by decide +kernel) (Nat.le_of_ble_eq_true rfl) ?_
  intro p e s m below meth cd am hx hb hr hlk hst ls hl
  have hl : lv_has ls 4 [(0, .ref (ad 0)), (1, .int (nI k)), (2, .int 1)] := hl
  refine lv_aload_n hx hb dX4_about_0 rfl (lv_at hl 0 rfl) ?_
  refine lv_iload_n hx hb dX4_about_1 rfl (lv_at hl 1 rfl) ?_
  refine c_r hst (r_V (As := [.int (nI k)]) (rest := []) am hst hl (k_X4_boardAt hadI hn hk hn2) kRX4_60 imX4_boardAt slX4_boardAt ⟨Nat.le_of_ble_eq_true rfl, Nat.le_of_ble_eq_true rfl⟩ (by decide) (fun _ _ _ => cE_S) rfl rfl rfl (Nat.le_of_ble_eq_true rfl) dX4_about_2 ⟨Nat.le_of_ble_eq_true rfl, Nat.le_of_ble_eq_true rfl⟩) (fun H locs hst => ?_)
  refine lv_astore_n (lv' := [(3, .ref (ad (2 + k))), (0, .ref (ad 0)), (1, .int (nI k)), (2, .int 1)]) hx hb dX4_about_5 rfl hl (by decide) rfl (fun ls hl => ?_)
  refine lv_iload_n hx hb dX4_about_6 rfl (lv_at hl 3 rfl) ?_
  refine lv_tableIn (off := 34) (tgt := 41) hx hb dX4_about_7 (by decide) (by decide) rfl (by decide) ?_
  refine lv_aload_n hx hb dX4_about_41 rfl (lv_at hl 0 rfl) ?_
  refine c_i hst (r_N (As := []) (rest := []) am hst hl (k_X0_isComplete hadI (show 2 ≤ 2 + k ∧ 2 + k < 34 by omega)) kRX4_157 imX0_isComplete slX0_isComplete ⟨Nat.le_of_ble_eq_true rfl, Nat.le_of_ble_eq_true rfl⟩ (by omega) (fun _ _ _ => cE_B (show 2 ≤ 2 + k ∧ 2 + k < 34 by omega)) rfl rfl rfl (Nat.le_of_ble_eq_true rfl) dX4_about_42 ⟨Nat.le_of_ble_eq_true rfl, Nat.le_of_ble_eq_true rfl⟩) (fun H locs hst => ?_)
  refine lv_if_eq (tgt := 52) hx hb dX4_about_45 (by decide) (fun c_45 => ?_) (fun c_45 => ?_)
  · skip
    refine lv_iconst (v := 0) hx hb dX4_about_52 (by decide) ?_
    exact e_i hx hb hr hlk hst rfl (by rw [zB_0.mp c_45]; rfl) dX4_about_53
  · skip
    refine lv_iconst (v := 1) hx hb dX4_about_48 (by decide) ?_
    refine lv_goto (tgt := 53) hx hb dX4_about_49 (by decide) ?_
    exact e_i hx hb hr hlk hst rfl (by rw [zB_n0.mp c_45]; rfl) dX4_about_53

set_option maxHeartbeats 4000000 in
set_option maxRecDepth 100000 in
theorem k_X4_about_2 {l : Launch} {D : va_G} {cy ad : Nat → Nat} {I : Im} {G : Dm} {J : Jm} (hadI : adI ad) {n k : Nat} (hn : I 0 2 = nI n) (hk : k < n) (hn2 : n ≤ 32) : kM l yX4_about (.code yX4_about cX4_about 4 (some .int)) (rmK 1 0 0 21) D cy ad [.ref (ad 0), .int (nI k), .int 2] I G J (qI D cy ad (zB (decide (¬ I (2 + k) 5 = 0))) I G J) := by
  refine start_M hadI (by decide +kernel) (Nat.le_of_ble_eq_true rfl) ?_
  intro p e s m below meth cd am hx hb hr hlk hst ls hl
  have hl : lv_has ls 4 [(0, .ref (ad 0)), (1, .int (nI k)), (2, .int 2)] := hl
  refine lv_aload_n hx hb dX4_about_0 rfl (lv_at hl 0 rfl) ?_
  refine lv_iload_n hx hb dX4_about_1 rfl (lv_at hl 1 rfl) ?_
  refine c_r hst (r_V (As := [.int (nI k)]) (rest := []) am hst hl (k_X4_boardAt hadI hn hk hn2) kRX4_60 imX4_boardAt slX4_boardAt ⟨Nat.le_of_ble_eq_true rfl, Nat.le_of_ble_eq_true rfl⟩ (by decide) (fun _ _ _ => cE_S) rfl rfl rfl (Nat.le_of_ble_eq_true rfl) dX4_about_2 ⟨Nat.le_of_ble_eq_true rfl, Nat.le_of_ble_eq_true rfl⟩) (fun H locs hst => ?_)
  refine lv_astore_n (lv' := [(3, .ref (ad (2 + k))), (0, .ref (ad 0)), (1, .int (nI k)), (2, .int 2)]) hx hb dX4_about_5 rfl hl (by decide) rfl (fun ls hl => ?_)
  refine lv_iload_n hx hb dX4_about_6 rfl (lv_at hl 3 rfl) ?_
  refine lv_tableIn (off := 47) (tgt := 54) hx hb dX4_about_7 (by decide) (by decide) rfl (by decide) ?_
  refine lv_aload_n hx hb dX4_about_54 rfl (lv_at hl 0 rfl) ?_
  refine w_getIN am hst (k := 5) (by omega) (fun _ _ _ => cE_B (show 2 ≤ 2 + k ∧ 2 + k < 34 by omega)) rfl inT0 (by decide) (fun _ _ _ => rfl) fRX4_87 dX4_about_55 ?_
  refine lv_if_eq (tgt := 65) hx hb dX4_about_58 (by decide) (fun c_58 => ?_) (fun c_58 => ?_)
  · skip
    refine lv_iconst (v := 0) hx hb dX4_about_65 (by decide) ?_
    exact e_i hx hb hr hlk hst rfl (by simp only [zB, c_58, not_true_eq_false, not_false_eq_true, decide_true, decide_false, Bool.true_and, Bool.false_and, Bool.and_true, Bool.and_false, Bool.and_self, if_true, if_false, ite_true, ite_false, reduceIte, Bool.false_eq_true]) dX4_about_66
  · skip
    refine lv_iconst (v := 1) hx hb dX4_about_61 (by decide) ?_
    refine lv_goto (tgt := 66) hx hb dX4_about_62 (by decide) ?_
    exact e_i hx hb hr hlk hst rfl (by simp only [zB, c_58, not_true_eq_false, not_false_eq_true, decide_true, decide_false, Bool.true_and, Bool.false_and, Bool.and_true, Bool.and_false, Bool.and_self, if_true, if_false, ite_true, ite_false, reduceIte, Bool.false_eq_true]) dX4_about_66

set_option maxHeartbeats 4000000 in
set_option maxRecDepth 100000 in
theorem k_X4_about_3 {l : Launch} {D : va_G} {cy ad : Nat → Nat} {I : Im} {G : Dm} {J : Jm} (hadI : adI ad) {n k : Nat} (hn : I 0 2 = nI n) (hk : k < n) (hn2 : n ≤ 32) : kM l yX4_about (.code yX4_about cX4_about 4 (some .int)) (rmK 1 0 0 21) D cy ad [.ref (ad 0), .int (nI k), .int 3] I G J (qI D cy ad (zB (decide (¬ I (2 + k) 6 = 0))) I G J) := by
  refine start_M hadI (by decide +kernel) (Nat.le_of_ble_eq_true rfl) ?_
  intro p e s m below meth cd am hx hb hr hlk hst ls hl
  have hl : lv_has ls 4 [(0, .ref (ad 0)), (1, .int (nI k)), (2, .int 3)] := hl
  refine lv_aload_n hx hb dX4_about_0 rfl (lv_at hl 0 rfl) ?_
  refine lv_iload_n hx hb dX4_about_1 rfl (lv_at hl 1 rfl) ?_
  refine c_r hst (r_V (As := [.int (nI k)]) (rest := []) am hst hl (k_X4_boardAt hadI hn hk hn2) kRX4_60 imX4_boardAt slX4_boardAt ⟨Nat.le_of_ble_eq_true rfl, Nat.le_of_ble_eq_true rfl⟩ (by decide) (fun _ _ _ => cE_S) rfl rfl rfl (Nat.le_of_ble_eq_true rfl) dX4_about_2 ⟨Nat.le_of_ble_eq_true rfl, Nat.le_of_ble_eq_true rfl⟩) (fun H locs hst => ?_)
  refine lv_astore_n (lv' := [(3, .ref (ad (2 + k))), (0, .ref (ad 0)), (1, .int (nI k)), (2, .int 3)]) hx hb dX4_about_5 rfl hl (by decide) rfl (fun ls hl => ?_)
  refine lv_iload_n hx hb dX4_about_6 rfl (lv_at hl 3 rfl) ?_
  refine lv_tableIn (off := 60) (tgt := 67) hx hb dX4_about_7 (by decide) (by decide) rfl (by decide) ?_
  refine lv_aload_n hx hb dX4_about_67 rfl (lv_at hl 0 rfl) ?_
  refine w_getIN am hst (k := 6) (by omega) (fun _ _ _ => cE_B (show 2 ≤ 2 + k ∧ 2 + k < 34 by omega)) rfl inT0 (by decide) (fun _ _ _ => rfl) fRX4_91 dX4_about_68 ?_
  refine lv_if_eq (tgt := 78) hx hb dX4_about_71 (by decide) (fun c_71 => ?_) (fun c_71 => ?_)
  · skip
    refine lv_iconst (v := 0) hx hb dX4_about_78 (by decide) ?_
    exact e_i hx hb hr hlk hst rfl (by simp only [zB, c_71, not_true_eq_false, not_false_eq_true, decide_true, decide_false, Bool.true_and, Bool.false_and, Bool.and_true, Bool.and_false, Bool.and_self, if_true, if_false, ite_true, ite_false, reduceIte, Bool.false_eq_true]) dX4_about_79
  · skip
    refine lv_iconst (v := 1) hx hb dX4_about_74 (by decide) ?_
    refine lv_goto (tgt := 79) hx hb dX4_about_75 (by decide) ?_
    exact e_i hx hb hr hlk hst rfl (by simp only [zB, c_71, not_true_eq_false, not_false_eq_true, decide_true, decide_false, Bool.true_and, Bool.false_and, Bool.and_true, Bool.and_false, Bool.and_self, if_true, if_false, ite_true, ite_false, reduceIte, Bool.false_eq_true]) dX4_about_79

set_option maxHeartbeats 4000000 in
set_option maxRecDepth 100000 in
theorem x1_X4_about {l : Launch} {D : va_G} {cy ad : Nat → Nat} {I : Im} {G : Dm} {J : Jm} (hadI : adI ad) (hno : l.stackTraces = false) {v : Int32} (hv : v < 0 ∨ ¬ v < I 0 2) {w : Int32} : kX l yX4_about (.code yX4_about cX4_about 4 (some .int)) (rmK 7 1 6 111) D cy ad [.ref (ad 0), .int v, .int w] I G J xIOOBE := by
  refine start_X hadI (by decide +kernel) (Nat.le_of_ble_eq_true rfl) ?_
  intro p e s m below meth cd am hx hb hout hlk hst ls hl
  have hl : lv_has ls 4 [(0, .ref (ad 0)), (1, .int v), (2, .int w)] := hl
  refine lv_aload_n hx hb dX4_about_0 rfl (lv_at hl 0 rfl) ?_
  refine lv_iload_n hx hb dX4_about_1 rfl (lv_at hl 1 rfl) ?_
  exact x_call hst hout hlk (Nat.le_of_ble_eq_true rfl) (Nat.le_of_ble_eq_true rfl) (r_VX (As := [.int v]) (rest := []) am hst hl (x_X4_boardAt hadI hno hv) kRX4_60 imX4_boardAt slX4_boardAt ⟨rfl, rfl⟩ ⟨Nat.le_of_ble_eq_true rfl, Nat.le_of_ble_eq_true rfl⟩ (by decide) (fun _ _ _ => cE_S) rfl rfl rfl (Nat.le_of_ble_eq_true rfl) dX4_about_2 ⟨Nat.le_of_ble_eq_true rfl, Nat.le_of_ble_eq_true rfl⟩)

set_option maxHeartbeats 4000000 in
set_option maxRecDepth 100000 in
theorem x2_X4_about {l : Launch} {D : va_G} {cy ad : Nat → Nat} {I : Im} {G : Dm} {J : Jm} (hadI : adI ad) (hno : l.stackTraces = false) {n k : Nat} (hn : I 0 2 = nI n) (hk : k < n) (hn2 : n ≤ 32) {w : Int32} (hw : w.toInt < 0 ∨ 3 < w.toInt) : kX l yX4_about (.code yX4_about cX4_about 4 (some .int)) (rmK 7 1 6 111) D cy ad [.ref (ad 0), .int (nI k), .int w] I G J xIOOBE := by
  refine start_X hadI (by decide +kernel) (Nat.le_of_ble_eq_true rfl) ?_
  intro p e s m below meth cd am hx hb hout hlk hst ls hl
  have hl : lv_has ls 4 [(0, .ref (ad 0)), (1, .int (nI k)), (2, .int w)] := hl
  refine lv_aload_n hx hb dX4_about_0 rfl (lv_at hl 0 rfl) ?_
  refine lv_iload_n hx hb dX4_about_1 rfl (lv_at hl 1 rfl) ?_
  refine c_r hst (r_V (As := [.int (nI k)]) (rest := []) am hst hl (k_X4_boardAt hadI hn hk hn2) kRX4_60 imX4_boardAt slX4_boardAt ⟨Nat.le_of_ble_eq_true rfl, Nat.le_of_ble_eq_true rfl⟩ (by decide) (fun _ _ _ => cE_S) rfl rfl rfl (Nat.le_of_ble_eq_true rfl) dX4_about_2 ⟨Nat.le_of_ble_eq_true rfl, Nat.le_of_ble_eq_true rfl⟩) (fun H locs hst => ?_)
  refine lv_astore_n (lv' := [(3, .ref (ad (2 + k))), (0, .ref (ad 0)), (1, .int (nI k)), (2, .int w)]) hx hb dX4_about_5 rfl hl (by decide) rfl (fun ls hl => ?_)
  refine lv_iload_n hx hb dX4_about_6 rfl (lv_at hl 3 rfl) ?_
  refine lv_tableOut (tgt := 80) hx hb dX4_about_7 hw (by decide) ?_
  exact x_throw (text := "no such what") hno am hst hout hlk hl tx_IOOBE tg_IOOBE rfl (by decide) dX4_about_80 dX4_about_83 dX4_about_84 dX4_about_86 dX4_about_89 (Nat.le_of_ble_eq_true rfl) (Nat.le_of_ble_eq_true rfl) (Nat.le_of_ble_eq_true rfl) (Nat.le_of_ble_eq_true rfl) (Nat.le_of_ble_eq_true rfl) (Nat.le_of_ble_eq_true rfl)

set_option maxHeartbeats 4000000 in
set_option maxRecDepth 100000 in
theorem k_X4_reference {l : Launch} {D : va_G} {cy ad : Nat → Nat} {I : Im} {G : Dm} {J : Jm} (hadI : adI ad) {n : Nat} (hn : I 50 2 = nI n) (hn2 : n < 16) {v : Int32} {x X : UInt64} (hxX : cn x = X) (h1 : bDay v = true) (h2 : ¬ v ≤ I 50 3) (h3 : bIn X (-1000) 1000 = true) : kM l yX4_reference (.code yX4_reference cX4_reference 4 (some .int)) (rmK 1 0 0 23) D cy ad [.ref (ad 0), .int v, .double x] I G J (qI D cy ad (nI (n + 1)) (u2 (u2 (u2 I 51 n v) 50 3 v) 50 2 (nI (n + 1))) (u2 G 52 n X) J) := by
  refine start_M hadI (by decide +kernel) (Nat.le_of_ble_eq_true rfl) ?_
  intro p e s m below meth cd am hx hb hr hlk hst ls hl
  have hl : lv_has ls 4 [(0, .ref (ad 0)), (1, .int v), (2, .double x)] := hl
  refine lv_iload_n hx hb dX4_reference_0 rfl (lv_at hl 1 rfl) ?_
  refine c_i hst (r_S (As := [.int v]) (rest := []) am hst hl (k_X4_isDay hadI) kRX4_163 smX4_isDay ⟨Nat.le_of_ble_eq_true rfl, Nat.le_of_ble_eq_true rfl⟩ rfl rfl (Nat.le_of_ble_eq_true rfl) dX4_reference_1 ⟨Nat.le_of_ble_eq_true rfl, Nat.le_of_ble_eq_true rfl⟩) (fun H locs hst => ?_)
  refine lv_if_eq (tgt := 35) hx hb dX4_reference_4 (by decide) (fun c_4 => absurd c_4 (zB_n0.mpr h1)) (fun c_4 => ?_)
  refine lv_aload_n hx hb dX4_reference_7 rfl (lv_at hl 0 rfl) ?_
  refine w_getR am hst (k := 7) (b := ad 50) (by decide) (fun _ _ _ => cE_S) rfl inT4 (by decide) (fun _ _ _ => rfl) fRX4_46 dX4_reference_8 ?_
  refine lv_iload_n hx hb dX4_reference_11 rfl (lv_at hl 1 rfl) ?_
  refine c_i hst (r_N (As := [.int v]) (rest := []) am hst hl (k_X3_isBehindLast hadI) kRX4_167 imX3_isBehindLast slX3_isBehindLast ⟨Nat.le_of_ble_eq_true rfl, Nat.le_of_ble_eq_true rfl⟩ (by decide) (fun _ _ _ => cE_50) rfl rfl rfl (Nat.le_of_ble_eq_true rfl) dX4_reference_12 ⟨Nat.le_of_ble_eq_true rfl, Nat.le_of_ble_eq_true rfl⟩) (fun H locs hst => ?_)
  refine lv_if_eq (tgt := 35) hx hb dX4_reference_15 (by decide) (fun c_15 => absurd c_15 (zB_n0.mpr (decide_eq_true h2))) (fun c_15 => ?_)
  refine lv_dload_n hx hb dX4_reference_18 rfl (lv_at hl 2 rfl) ?_
  refine lv_sipush (v := (-1000)) hx hb dX4_reference_19 (by decide) ?_
  refine lv_sipush (v := 1000) hx hb dX4_reference_22 (by decide) ?_
  refine c_i hst (r_S (As := [.double x, .int ((-1000)), .int 1000]) (rest := []) am hst hl (k_X4_isWithin hadI hxX) kRX4_64 smX4_isWithin ⟨Nat.le_of_ble_eq_true rfl, Nat.le_of_ble_eq_true rfl⟩ rfl rfl (Nat.le_of_ble_eq_true rfl) dX4_reference_25 ⟨Nat.le_of_ble_eq_true rfl, Nat.le_of_ble_eq_true rfl⟩) (fun H locs hst => ?_)
  refine lv_if_eq (tgt := 35) hx hb dX4_reference_28 (by decide) (fun c_28 => absurd c_28 (zB_n0.mpr h3)) (fun c_28 => ?_)
  refine lv_iconst (v := 1) hx hb dX4_reference_31 (by decide) ?_
  refine lv_goto (tgt := 36) hx hb dX4_reference_32 (by decide) ?_
  refine c_v hst (r_S (As := [.int 1]) (rest := []) am hst hl (k_X4_need hadI (by decide)) kRX4_68 smX4_need ⟨Nat.le_of_ble_eq_true rfl, Nat.le_of_ble_eq_true rfl⟩ rfl rfl (Nat.le_of_ble_eq_true rfl) dX4_reference_36 ⟨Nat.le_of_ble_eq_true rfl, Nat.le_of_ble_eq_true rfl⟩) (fun H locs hst => ?_)
  refine lv_aload_n hx hb dX4_reference_39 rfl (lv_at hl 0 rfl) ?_
  refine w_getR am hst (k := 7) (b := ad 50) (by decide) (fun _ _ _ => cE_S) rfl inT4 (by decide) (fun _ _ _ => rfl) fRX4_46 dX4_reference_40 ?_
  refine c_i hst (r_N (As := []) (rest := []) am hst hl (k_X3_isFull hadI) kRX4_170 imX3_isFull slX3_isFull ⟨Nat.le_of_ble_eq_true rfl, Nat.le_of_ble_eq_true rfl⟩ (by decide) (fun _ _ _ => cE_50) rfl rfl rfl (Nat.le_of_ble_eq_true rfl) dX4_reference_43 ⟨Nat.le_of_ble_eq_true rfl, Nat.le_of_ble_eq_true rfl⟩) (fun H locs hst => ?_)
  refine lv_if_eq (tgt := 59) hx hb dX4_reference_46 (by decide) (fun c_46 => ?_) (fun c_46 => absurd (zB_0.mpr (decide_eq_false (fun h => h (by rw [hn]; exact nI_lt (b := 16) hn2 (by omega))))) c_46)
  refine lv_aload_n hx hb dX4_reference_59 rfl (lv_at hl 0 rfl) ?_
  refine w_getR am hst (k := 7) (b := ad 50) (by decide) (fun _ _ _ => cE_S) rfl inT4 (by decide) (fun _ _ _ => rfl) fRX4_46 dX4_reference_60 ?_
  refine lv_iload_n hx hb dX4_reference_63 rfl (lv_at hl 1 rfl) ?_
  refine lv_dload_n hx hb dX4_reference_64 rfl (lv_at hl 2 rfl) ?_
  refine c_i hst (r_N (As := [.int v, .double x]) (rest := []) am hst hl (k_X3_append hadI (n := n) hn hn2 hxX) kRX4_175 imX3_append slX3_append ⟨Nat.le_of_ble_eq_true rfl, Nat.le_of_ble_eq_true rfl⟩ (by decide) (fun _ _ _ => cE_50) rfl rfl rfl (Nat.le_of_ble_eq_true rfl) dX4_reference_65 ⟨Nat.le_of_ble_eq_true rfl, Nat.le_of_ble_eq_true rfl⟩) (fun H locs hst => ?_)
  exact e_i hx hb hr hlk hst rfl rfl dX4_reference_68

set_option maxHeartbeats 4000000 in
set_option maxRecDepth 100000 in
theorem x1_X4_reference {l : Launch} {D : va_G} {cy ad : Nat → Nat} {I : Im} {G : Dm} {J : Jm} (hadI : adI ad) (hno : l.stackTraces = false) {v : Int32} {x X : UInt64} (hxX : cn x = X) (hin : (bDay v && (decide (¬ v ≤ I 50 3) && bIn X (-1000) 1000)) = false) : kX l yX4_reference (.code yX4_reference cX4_reference 4 (some .int)) (rmK 7 1 6 110) D cy ad [.ref (ad 0), .int v, .double x] I G J xIAE := by
  refine start_X hadI (by decide +kernel) (Nat.le_of_ble_eq_true rfl) ?_
  intro p e s m below meth cd am hx hb hout hlk hst ls hl
  have hl : lv_has ls 4 [(0, .ref (ad 0)), (1, .int v), (2, .double x)] := hl
  refine lv_iload_n hx hb dX4_reference_0 rfl (lv_at hl 1 rfl) ?_
  refine c_i hst (r_S (As := [.int v]) (rest := []) am hst hl (k_X4_isDay hadI) kRX4_163 smX4_isDay ⟨Nat.le_of_ble_eq_true rfl, Nat.le_of_ble_eq_true rfl⟩ rfl rfl (Nat.le_of_ble_eq_true rfl) dX4_reference_1 ⟨Nat.le_of_ble_eq_true rfl, Nat.le_of_ble_eq_true rfl⟩) (fun H locs hst => ?_)
  refine lv_if_eq (tgt := 35) hx hb dX4_reference_4 (by decide) (fun c_4 => ?_) (fun c_4 => ?_)
  · skip
    refine lv_iconst (v := 0) hx hb dX4_reference_35 (by decide) ?_
    exact x_call hst hout hlk (Nat.le_of_ble_eq_true rfl) (Nat.le_of_ble_eq_true rfl) (r_SX (As := [.int 0]) (rest := []) am hst hl (x_X4_need hadI hno (rfl)) kRX4_68 smX4_need ⟨rfl, rfl⟩ ⟨Nat.le_of_ble_eq_true rfl, Nat.le_of_ble_eq_true rfl⟩ rfl rfl (Nat.le_of_ble_eq_true rfl) dX4_reference_36 ⟨Nat.le_of_ble_eq_true rfl, Nat.le_of_ble_eq_true rfl⟩)
  · skip
    refine lv_aload_n hx hb dX4_reference_7 rfl (lv_at hl 0 rfl) ?_
    refine w_getR am hst (k := 7) (b := ad 50) (by decide) (fun _ _ _ => cE_S) rfl inT4 (by decide) (fun _ _ _ => rfl) fRX4_46 dX4_reference_8 ?_
    refine lv_iload_n hx hb dX4_reference_11 rfl (lv_at hl 1 rfl) ?_
    refine c_i hst (r_N (As := [.int v]) (rest := []) am hst hl (k_X3_isBehindLast hadI) kRX4_167 imX3_isBehindLast slX3_isBehindLast ⟨Nat.le_of_ble_eq_true rfl, Nat.le_of_ble_eq_true rfl⟩ (by decide) (fun _ _ _ => cE_50) rfl rfl rfl (Nat.le_of_ble_eq_true rfl) dX4_reference_12 ⟨Nat.le_of_ble_eq_true rfl, Nat.le_of_ble_eq_true rfl⟩) (fun H locs hst => ?_)
    refine lv_if_eq (tgt := 35) hx hb dX4_reference_15 (by decide) (fun c_15 => ?_) (fun c_15 => ?_)
    · skip
      refine lv_iconst (v := 0) hx hb dX4_reference_35 (by decide) ?_
      exact x_call hst hout hlk (Nat.le_of_ble_eq_true rfl) (Nat.le_of_ble_eq_true rfl) (r_SX (As := [.int 0]) (rest := []) am hst hl (x_X4_need hadI hno (rfl)) kRX4_68 smX4_need ⟨rfl, rfl⟩ ⟨Nat.le_of_ble_eq_true rfl, Nat.le_of_ble_eq_true rfl⟩ rfl rfl (Nat.le_of_ble_eq_true rfl) dX4_reference_36 ⟨Nat.le_of_ble_eq_true rfl, Nat.le_of_ble_eq_true rfl⟩)
    · skip
      refine lv_dload_n hx hb dX4_reference_18 rfl (lv_at hl 2 rfl) ?_
      refine lv_sipush (v := (-1000)) hx hb dX4_reference_19 (by decide) ?_
      refine lv_sipush (v := 1000) hx hb dX4_reference_22 (by decide) ?_
      refine c_i hst (r_S (As := [.double x, .int ((-1000)), .int 1000]) (rest := []) am hst hl (k_X4_isWithin hadI hxX) kRX4_64 smX4_isWithin ⟨Nat.le_of_ble_eq_true rfl, Nat.le_of_ble_eq_true rfl⟩ rfl rfl (Nat.le_of_ble_eq_true rfl) dX4_reference_25 ⟨Nat.le_of_ble_eq_true rfl, Nat.le_of_ble_eq_true rfl⟩) (fun H locs hst => ?_)
      refine lv_if_eq (tgt := 35) hx hb dX4_reference_28 (by decide) (fun c_28 => ?_) (fun c_28 => absurd ((by rw [zB_n0.mp c_4, zB_n0.mp c_15, Bool.true_and, Bool.true_and] at hin; exact zB_0.mpr hin)) c_28)
      refine lv_iconst (v := 0) hx hb dX4_reference_35 (by decide) ?_
      exact x_call hst hout hlk (Nat.le_of_ble_eq_true rfl) (Nat.le_of_ble_eq_true rfl) (r_SX (As := [.int 0]) (rest := []) am hst hl (x_X4_need hadI hno (rfl)) kRX4_68 smX4_need ⟨rfl, rfl⟩ ⟨Nat.le_of_ble_eq_true rfl, Nat.le_of_ble_eq_true rfl⟩ rfl rfl (Nat.le_of_ble_eq_true rfl) dX4_reference_36 ⟨Nat.le_of_ble_eq_true rfl, Nat.le_of_ble_eq_true rfl⟩)

set_option maxHeartbeats 4000000 in
set_option maxRecDepth 100000 in
theorem x2_X4_reference {l : Launch} {D : va_G} {cy ad : Nat → Nat} {I : Im} {G : Dm} {J : Jm} (hadI : adI ad) (hno : l.stackTraces = false) {v : Int32} {x X : UInt64} (hxX : cn x = X) (h1 : bDay v = true) (h2 : ¬ v ≤ I 50 3) (h3 : bIn X (-1000) 1000 = true) (hv : ¬ I 50 2 < 16) : kX l yX4_reference (.code yX4_reference cX4_reference 4 (some .int)) (rmK 7 1 6 110) D cy ad [.ref (ad 0), .int v, .double x] I G J xISE := by
  refine start_X hadI (by decide +kernel) (Nat.le_of_ble_eq_true rfl) ?_
  intro p e s m below meth cd am hx hb hout hlk hst ls hl
  have hl : lv_has ls 4 [(0, .ref (ad 0)), (1, .int v), (2, .double x)] := hl
  refine lv_iload_n hx hb dX4_reference_0 rfl (lv_at hl 1 rfl) ?_
  refine c_i hst (r_S (As := [.int v]) (rest := []) am hst hl (k_X4_isDay hadI) kRX4_163 smX4_isDay ⟨Nat.le_of_ble_eq_true rfl, Nat.le_of_ble_eq_true rfl⟩ rfl rfl (Nat.le_of_ble_eq_true rfl) dX4_reference_1 ⟨Nat.le_of_ble_eq_true rfl, Nat.le_of_ble_eq_true rfl⟩) (fun H locs hst => ?_)
  refine lv_if_eq (tgt := 35) hx hb dX4_reference_4 (by decide) (fun c_4 => absurd c_4 (zB_n0.mpr h1)) (fun c_4 => ?_)
  refine lv_aload_n hx hb dX4_reference_7 rfl (lv_at hl 0 rfl) ?_
  refine w_getR am hst (k := 7) (b := ad 50) (by decide) (fun _ _ _ => cE_S) rfl inT4 (by decide) (fun _ _ _ => rfl) fRX4_46 dX4_reference_8 ?_
  refine lv_iload_n hx hb dX4_reference_11 rfl (lv_at hl 1 rfl) ?_
  refine c_i hst (r_N (As := [.int v]) (rest := []) am hst hl (k_X3_isBehindLast hadI) kRX4_167 imX3_isBehindLast slX3_isBehindLast ⟨Nat.le_of_ble_eq_true rfl, Nat.le_of_ble_eq_true rfl⟩ (by decide) (fun _ _ _ => cE_50) rfl rfl rfl (Nat.le_of_ble_eq_true rfl) dX4_reference_12 ⟨Nat.le_of_ble_eq_true rfl, Nat.le_of_ble_eq_true rfl⟩) (fun H locs hst => ?_)
  refine lv_if_eq (tgt := 35) hx hb dX4_reference_15 (by decide) (fun c_15 => absurd c_15 (zB_n0.mpr (decide_eq_true h2))) (fun c_15 => ?_)
  refine lv_dload_n hx hb dX4_reference_18 rfl (lv_at hl 2 rfl) ?_
  refine lv_sipush (v := (-1000)) hx hb dX4_reference_19 (by decide) ?_
  refine lv_sipush (v := 1000) hx hb dX4_reference_22 (by decide) ?_
  refine c_i hst (r_S (As := [.double x, .int ((-1000)), .int 1000]) (rest := []) am hst hl (k_X4_isWithin hadI hxX) kRX4_64 smX4_isWithin ⟨Nat.le_of_ble_eq_true rfl, Nat.le_of_ble_eq_true rfl⟩ rfl rfl (Nat.le_of_ble_eq_true rfl) dX4_reference_25 ⟨Nat.le_of_ble_eq_true rfl, Nat.le_of_ble_eq_true rfl⟩) (fun H locs hst => ?_)
  refine lv_if_eq (tgt := 35) hx hb dX4_reference_28 (by decide) (fun c_28 => absurd c_28 (zB_n0.mpr h3)) (fun c_28 => ?_)
  refine lv_iconst (v := 1) hx hb dX4_reference_31 (by decide) ?_
  refine lv_goto (tgt := 36) hx hb dX4_reference_32 (by decide) ?_
  refine c_v hst (r_S (As := [.int 1]) (rest := []) am hst hl (k_X4_need hadI (by decide)) kRX4_68 smX4_need ⟨Nat.le_of_ble_eq_true rfl, Nat.le_of_ble_eq_true rfl⟩ rfl rfl (Nat.le_of_ble_eq_true rfl) dX4_reference_36 ⟨Nat.le_of_ble_eq_true rfl, Nat.le_of_ble_eq_true rfl⟩) (fun H locs hst => ?_)
  refine lv_aload_n hx hb dX4_reference_39 rfl (lv_at hl 0 rfl) ?_
  refine w_getR am hst (k := 7) (b := ad 50) (by decide) (fun _ _ _ => cE_S) rfl inT4 (by decide) (fun _ _ _ => rfl) fRX4_46 dX4_reference_40 ?_
  refine c_i hst (r_N (As := []) (rest := []) am hst hl (k_X3_isFull hadI) kRX4_170 imX3_isFull slX3_isFull ⟨Nat.le_of_ble_eq_true rfl, Nat.le_of_ble_eq_true rfl⟩ (by decide) (fun _ _ _ => cE_50) rfl rfl rfl (Nat.le_of_ble_eq_true rfl) dX4_reference_43 ⟨Nat.le_of_ble_eq_true rfl, Nat.le_of_ble_eq_true rfl⟩) (fun H locs hst => ?_)
  refine lv_if_eq (tgt := 59) hx hb dX4_reference_46 (by decide) (fun c_46 => absurd c_46 (zB_n0.mpr (decide_eq_true hv))) (fun c_46 => ?_)
  exact x_throw (text := "no room for a reference") hno am hst hout hlk hl tx_ISE tg_ISE rfl (by decide) dX4_reference_49 dX4_reference_52 dX4_reference_53 dX4_reference_55 dX4_reference_58 (Nat.le_of_ble_eq_true rfl) (Nat.le_of_ble_eq_true rfl) (Nat.le_of_ble_eq_true rfl) (Nat.le_of_ble_eq_true rfl) (Nat.le_of_ble_eq_true rfl) (Nat.le_of_ble_eq_true rfl)

set_option maxHeartbeats 4000000 in
set_option maxRecDepth 100000 in
theorem k_X4_drift {l : Launch} {D : va_G} {cy ad : Nat → Nat} {I : Im} {G : Dm} {J : Jm} (hadI : adI ad) {v : Int32} {cnt : Nat} (hcnt : I 50 2 = nI cnt) (hcnt2 : cnt ≤ 16) (h1 : bDay v = true) : kD l yX4_drift (.code yX4_drift cX4_drift 2 (some .double)) (rmK 2 0 0 51) D cy ad [.ref (ad 0), .int v] I G J (qD D cy ad (vaF I G v cnt 0 0) I G J) := by
  refine start_D hadI (by decide +kernel) (Nat.le_of_ble_eq_true rfl) ?_
  intro p e s m below meth cd am hx hb hr hlk hst ls hl d0 hd
  have hl : lv_has ls 2 [(0, .ref (ad 0)), (1, .int v)] := hl
  refine lv_iload_n hx hb dX4_drift_0 rfl (lv_at hl 1 rfl) ?_
  refine c_i hst (r_S (As := [.int v]) (rest := []) am hst hl (k_X4_isDay hadI) kRX4_163 smX4_isDay ⟨Nat.le_of_ble_eq_true rfl, Nat.le_of_ble_eq_true rfl⟩ rfl rfl (Nat.le_of_ble_eq_true rfl) dX4_drift_1 ⟨Nat.le_of_ble_eq_true rfl, Nat.le_of_ble_eq_true rfl⟩) (fun H locs hst => ?_)
  refine c_v hst (r_S (As := [.int (zB (bDay v))]) (rest := []) am hst hl (k_X4_need hadI (zB_n0.mpr h1)) kRX4_68 smX4_need ⟨Nat.le_of_ble_eq_true rfl, Nat.le_of_ble_eq_true rfl⟩ rfl rfl (Nat.le_of_ble_eq_true rfl) dX4_drift_4 ⟨Nat.le_of_ble_eq_true rfl, Nat.le_of_ble_eq_true rfl⟩) (fun H locs hst => ?_)
  refine lv_aload_n hx hb dX4_drift_7 rfl (lv_at hl 0 rfl) ?_
  refine w_getR am hst (k := 7) (b := ad 50) (by decide) (fun _ _ _ => cE_S) rfl inT4 (by decide) (fun _ _ _ => rfl) fRX4_46 dX4_drift_8 ?_
  refine lv_iload_n hx hb dX4_drift_11 rfl (lv_at hl 1 rfl) ?_
  refine c_dD hd hst (r_ND (As := [.int v]) (rest := []) am hst hl (k_X3_valueAt hadI hcnt hcnt2) kRX4_179 imX3_valueAt slX3_valueAt ⟨Nat.le_of_ble_eq_true rfl, Nat.le_of_ble_eq_true rfl⟩ (by decide) (fun _ _ _ => cE_50) rfl rfl rfl (Nat.le_of_ble_eq_true rfl) dX4_drift_12 ⟨Nat.le_of_ble_eq_true rfl, Nat.le_of_ble_eq_true rfl⟩) (fun x1 d0 H locs hx1 hd hst => ?_)
  exact e_dD hd hx hb hr hlk hst hx1 dX4_drift_15

set_option maxHeartbeats 4000000 in
set_option maxRecDepth 100000 in
theorem x_X4_drift {l : Launch} {D : va_G} {cy ad : Nat → Nat} {I : Im} {G : Dm} {J : Jm} (hadI : adI ad) (hno : l.stackTraces = false) {v : Int32} (h1 : bDay v = false) : kX l yX4_drift (.code yX4_drift cX4_drift 2 (some .double)) (rmK 7 1 6 110) D cy ad [.ref (ad 0), .int v] I G J xIAE := by
  refine start_X hadI (by decide +kernel) (Nat.le_of_ble_eq_true rfl) ?_
  intro p e s m below meth cd am hx hb hout hlk hst ls hl
  have hl : lv_has ls 2 [(0, .ref (ad 0)), (1, .int v)] := hl
  refine lv_iload_n hx hb dX4_drift_0 rfl (lv_at hl 1 rfl) ?_
  refine c_i hst (r_S (As := [.int v]) (rest := []) am hst hl (k_X4_isDay hadI) kRX4_163 smX4_isDay ⟨Nat.le_of_ble_eq_true rfl, Nat.le_of_ble_eq_true rfl⟩ rfl rfl (Nat.le_of_ble_eq_true rfl) dX4_drift_1 ⟨Nat.le_of_ble_eq_true rfl, Nat.le_of_ble_eq_true rfl⟩) (fun H locs hst => ?_)
  exact x_call hst hout hlk (Nat.le_of_ble_eq_true rfl) (Nat.le_of_ble_eq_true rfl) (r_SX (As := [.int (zB (bDay v))]) (rest := []) am hst hl (x_X4_need hadI hno (zB_0.mpr h1)) kRX4_68 smX4_need ⟨rfl, rfl⟩ ⟨Nat.le_of_ble_eq_true rfl, Nat.le_of_ble_eq_true rfl⟩ rfl rfl (Nat.le_of_ble_eq_true rfl) dX4_drift_4 ⟨Nat.le_of_ble_eq_true rfl, Nat.le_of_ble_eq_true rfl⟩)

set_option maxHeartbeats 4000000 in
set_option maxRecDepth 100000 in
theorem k_X4_drawn {l : Launch} {D : va_G} {cy ad : Nat → Nat} {I : Im} {G : Dm} {J : Jm} (hadI : adI ad) {v : Int32} (hv : ¬ v < 0) : kD l yX4_drawn (.code yX4_drawn cX4_drawn 4 (some .double)) (rmK 1 0 0 20) D cy ad [.ref (ad 0), .int v] I G J (qD D cy ad (dwD (I 0 0).toInt64 v.toInt64) I G J) := by
  refine start_D hadI (by decide +kernel) (Nat.le_of_ble_eq_true rfl) ?_
  intro p e s m below meth cd am hx hb hr hlk hst ls hl d0 hd
  have hl : lv_has ls 4 [(0, .ref (ad 0)), (1, .int v)] := hl
  refine lv_iload_n hx hb dX4_drawn_0 rfl (lv_at hl 1 rfl) ?_
  refine lv_if_lt (tgt := 8) hx hb dX4_drawn_1 (by decide) (fun c_1 => absurd c_1 hv) (fun c_1 => ?_)
  refine lv_iconst (v := 1) hx hb dX4_drawn_4 (by decide) ?_
  refine lv_goto (tgt := 9) hx hb dX4_drawn_5 (by decide) ?_
  refine c_v hst (r_S (As := [.int 1]) (rest := []) am hst hl (k_X4_need hadI (by decide)) kRX4_68 smX4_need ⟨Nat.le_of_ble_eq_true rfl, Nat.le_of_ble_eq_true rfl⟩ rfl rfl (Nat.le_of_ble_eq_true rfl) dX4_drawn_9 ⟨Nat.le_of_ble_eq_true rfl, Nat.le_of_ble_eq_true rfl⟩) (fun H locs hst => ?_)
  refine lv_aload_n hx hb dX4_drawn_12 rfl (lv_at hl 0 rfl) ?_
  refine w_getI am hst (k := 0) (by decide) (fun _ _ _ => cE_S) rfl inT4 (by decide) (fun _ _ _ => rfl) fRX4_7 dX4_drawn_13 ?_
  refine lv_i2l hx hb dX4_drawn_16 rfl ?_
  refine lv_iload_n hx hb dX4_drawn_17 rfl (lv_at hl 1 rfl) ?_
  refine lv_i2l hx hb dX4_drawn_18 rfl ?_
  refine lv_lconst (v := 1) hx hb dX4_drawn_19 (by decide) ?_
  refine lv_ladd hx hb dX4_drawn_20 ?_
  refine lv_ldc2 hx hb am.2.2.2.1 (amT am _ wRX4_183) dX4_drawn_21 ?_
  refine lv_lmul hx hb dX4_drawn_24 ?_
  refine lv_ladd hx hb dX4_drawn_25 ?_
  refine lv_lstore_n (lv' := [(2, .long (dw1 (I 0 0).toInt64 v.toInt64)), (0, .ref (ad 0)), (1, .int v)]) hx hb dX4_drawn_26 rfl hl (by decide) rfl (fun ls hl => ?_)
  refine lv_lload_n hx hb dX4_drawn_27 rfl (lv_at hl 0 rfl) ?_
  refine lv_lload_n hx hb dX4_drawn_28 rfl (lv_at hl 0 rfl) ?_
  refine lv_bipush (v := 30) hx hb dX4_drawn_29 (by decide) ?_
  refine lv_lushr hx hb dX4_drawn_31 rfl ?_
  refine lv_lxor hx hb dX4_drawn_32 ?_
  refine lv_ldc2 hx hb am.2.2.2.1 (amT am _ wRX4_185) dX4_drawn_33 ?_
  refine lv_lmul hx hb dX4_drawn_36 ?_
  refine lv_lstore_n (lv' := [(2, .long (dw2 (dw1 (I 0 0).toInt64 v.toInt64))), (0, .ref (ad 0)), (1, .int v)]) hx hb dX4_drawn_37 rfl hl (by decide) rfl (fun ls hl => ?_)
  refine lv_lload_n hx hb dX4_drawn_38 rfl (lv_at hl 0 rfl) ?_
  refine lv_lload_n hx hb dX4_drawn_39 rfl (lv_at hl 0 rfl) ?_
  refine lv_bipush (v := 27) hx hb dX4_drawn_40 (by decide) ?_
  refine lv_lushr hx hb dX4_drawn_42 rfl ?_
  refine lv_lxor hx hb dX4_drawn_43 ?_
  refine lv_ldc2 hx hb am.2.2.2.1 (amT am _ wRX4_187) dX4_drawn_44 ?_
  refine lv_lmul hx hb dX4_drawn_47 ?_
  refine lv_lstore_n (lv' := [(2, .long (dw3 (dw2 (dw1 (I 0 0).toInt64 v.toInt64)))), (0, .ref (ad 0)), (1, .int v)]) hx hb dX4_drawn_48 rfl hl (by decide) rfl (fun ls hl => ?_)
  refine lv_lload_n hx hb dX4_drawn_49 rfl (lv_at hl 0 rfl) ?_
  refine lv_lload_n hx hb dX4_drawn_50 rfl (lv_at hl 0 rfl) ?_
  refine lv_bipush (v := 31) hx hb dX4_drawn_51 (by decide) ?_
  refine lv_lushr hx hb dX4_drawn_53 rfl ?_
  refine lv_lxor hx hb dX4_drawn_54 ?_
  refine lv_lstore_n (lv' := [(2, .long (dw4 (dw3 (dw2 (dw1 (I 0 0).toInt64 v.toInt64))))), (0, .ref (ad 0)), (1, .int v)]) hx hb dX4_drawn_55 rfl hl (by decide) rfl (fun ls hl => ?_)
  refine lv_lload_n hx hb dX4_drawn_56 rfl (lv_at hl 0 rfl) ?_
  refine lv_bipush (v := 44) hx hb dX4_drawn_57 (by decide) ?_
  refine lv_lushr hx hb dX4_drawn_59 rfl ?_
  refine w_l2d hx hb dX4_drawn_60 (fun x7 hx7 => ?_)
  refine lv_ldc2d hx hb am.2.2.2.1 (amT am _ wRX4_189) dX4_drawn_61 ?_
  refine w_ddiv hd hx hb hx7 cn_k4674736413210574848 dX4_drawn_64 (fun x8 d0 hx8 hd => ?_)
  exact e_dD hd hx hb hr hlk hst hx8 dX4_drawn_65

set_option maxHeartbeats 4000000 in
set_option maxRecDepth 100000 in
theorem x_X4_drawn {l : Launch} {D : va_G} {cy ad : Nat → Nat} {I : Im} {G : Dm} {J : Jm} (hadI : adI ad) (hno : l.stackTraces = false) {v : Int32} (hv : v < 0) : kX l yX4_drawn (.code yX4_drawn cX4_drawn 4 (some .double)) (rmK 7 1 6 110) D cy ad [.ref (ad 0), .int v] I G J xIAE := by
  refine start_X hadI (by decide +kernel) (Nat.le_of_ble_eq_true rfl) ?_
  intro p e s m below meth cd am hx hb hout hlk hst ls hl
  have hl : lv_has ls 4 [(0, .ref (ad 0)), (1, .int v)] := hl
  refine lv_iload_n hx hb dX4_drawn_0 rfl (lv_at hl 1 rfl) ?_
  refine lv_if_lt (tgt := 8) hx hb dX4_drawn_1 (by decide) (fun c_1 => ?_) (fun c_1 => absurd hv c_1)
  refine lv_iconst (v := 0) hx hb dX4_drawn_8 (by decide) ?_
  exact x_call hst hout hlk (Nat.le_of_ble_eq_true rfl) (Nat.le_of_ble_eq_true rfl) (r_SX (As := [.int 0]) (rest := []) am hst hl (x_X4_need hadI hno (rfl)) kRX4_68 smX4_need ⟨rfl, rfl⟩ ⟨Nat.le_of_ble_eq_true rfl, Nat.le_of_ble_eq_true rfl⟩ rfl rfl (Nat.le_of_ble_eq_true rfl) dX4_drawn_9 ⟨Nat.le_of_ble_eq_true rfl, Nat.le_of_ble_eq_true rfl⟩)

