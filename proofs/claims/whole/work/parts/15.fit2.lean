/-! a fit: elimination, the numbers, a fit over the boards, what it foretells -/
def rk1 (b : Nat) (I : Im) (sk : Nat → Bool) (G : Dm) : Nat → Dm | 0 => cl0 b G 3 | i + 1 => if (bFit I (rk1 b I sk G i) (2 + i) && !(sk i)) = true then ad0 b I (2 + i) (rk1 b I sk G i) 3 else rk1 b I sk G i
def rkR (b : Nat) (I : Im) (sk : Nat → Bool) (G : Dm) : Nat := elR b (rk1 b I sk G 32) 3
def rkG (b : Nat) (I : Im) (sk : Nat → Bool) (G : Dm) : Dm := su0 b (el0 b (rk1 b I sk G 32) 3) 3
def fore (b : Nat) (I : Im) (G : Dm) (c : Nat) : UInt64 := Ad (Ad (Mu (G (b + 6) 0) (dTerm I G c 0)) (Mu (G (b + 6) 1) (dTerm I G c 1))) (Mu (G (b + 6) 2) (dTerm I G c 2))
def sk0 : Nat → Bool := fun _ => false
def sk1 (w : Nat) : Nat → Bool := fun i => decide (i = w)
set_option maxHeartbeats 4000000 in
set_option maxRecDepth 100000 in
theorem k_X2_eliminate {l : Launch} {D : va_G} {cy ad : Nat → Nat} {I : Im} {G : Dm} {J : Jm} (hadI : adI ad) {b : Nat} (hf : b = 34 ∨ b = 41) : kD l yX2_eliminate (.code yX2_eliminate cX2_eliminate 4 (some .int)) (rmK 1 0 0 25) D cy ad [.ref (ad b)] I G J (qI D cy ad (nI (elR b G 3)) I (el0 b G 3) J) := by
  refine start_D hadI (by decide +kernel) (Nat.le_of_ble_eq_true rfl) ?_
  intro p e s m below meth cd am hx hb hr hlk hst ls hl d0 hd
  have hl : lv_has ls 4 [(0, .ref (ad b))] := hl
  refine lv_iconst (v := 0) hx hb dX2_eliminate_0 (by decide) ?_
  refine lv_istore_n (lv' := [(1, .int 0), (0, .ref (ad b))]) hx hb dX2_eliminate_1 rfl hl (by decide) rfl (fun ls hl => ?_)
  refine lv_iconst (v := 0) hx hb dX2_eliminate_2 (by decide) ?_
  refine lv_istore_n (lv' := [(2, .int 0), (1, .int 0), (0, .ref (ad b))]) hx hb dX2_eliminate_3 rfl hl (by decide) rfl (fun ls hl => ?_)
  have lp0 : ∀ (n c : Nat), n + c = 3 → ∀ d0 : Drawn, s.drawn.sameBut d0 lw_cs → ∀ (H : Heap) (locs : List Loc), St D cy ad s.heap I (el0 b G c) J H locs → ∀ ls, lv_has ls 4 [(0, .ref (ad b)), (1, .int (nI (elR b G c))), (2, .int (nI c))] → W p l e (rmK 1 0 0 25) (s.setDrawn d0) m [.ref (ad b)].toArray below meth cd H locs 0 0 (MQD lw_cs below (qI D cy ad (nI (elR b G 3)) I (el0 b G 3) J s.heap.size) [.ref (ad b)].toArray s ((rmK 1 0 0 25)).cells ((rmK 1 0 0 25)).slots (aA ad s.heap.size)) (F0 m 4 ls []) := by
    intro n
    induction n with
    | zero =>
      intro c hi d0 hd H locs hst ls hl
      obtain rfl : 3 = c := by omega
      refine lv_iload_n hx hb dX2_eliminate_4 rfl (lv_at hl 2 rfl) ?_
      refine lv_iconst (v := 3) hx hb dX2_eliminate_5 (by decide) ?_
      refine lv_icmp_ge (tgt := 64) hx hb dX2_eliminate_6 (by decide) (fun c_6 => ?_) (fun c_6 => absurd ((show (3 : Int32) ≤ nI 3 by decide)) c_6)
      refine lv_iload_n hx hb dX2_eliminate_64 rfl (lv_at hl 1 rfl) ?_
      exact e_iD hd hx hb hr hlk hst rfl rfl dX2_eliminate_65
    | succ n ih_lp0 =>
      intro c hi d0 hd H locs hst ls hl
      refine lv_iload_n hx hb dX2_eliminate_4 rfl (lv_at hl 2 rfl) ?_
      refine lv_iconst (v := 3) hx hb dX2_eliminate_5 (by decide) ?_
      refine lv_icmp_ge (tgt := 64) hx hb dX2_eliminate_6 (by decide) (fun c_6 => absurd c_6 ((nI_ge (b := 3) (by omega) (by decide)))) (fun c_6 => ?_)
      refine lv_aload_n hx hb dX2_eliminate_9 rfl (lv_at hl 0 rfl) ?_
      refine lv_iload_n hx hb dX2_eliminate_10 rfl (lv_at hl 2 rfl) ?_
      refine c_i hst (r_V (As := [.int (nI c)]) (rest := []) am hst hl (k_X2_isPassedOver hadI hf (k := c) (by omega)) kRX2_51 imX2_isPassedOver slX2_isPassedOver ⟨Nat.le_of_ble_eq_true rfl, Nat.le_of_ble_eq_true rfl⟩ (by omega) (fun _ _ _ => cE_F hf) rfl rfl rfl (Nat.le_of_ble_eq_true rfl) dX2_eliminate_11 ⟨Nat.le_of_ble_eq_true rfl, Nat.le_of_ble_eq_true rfl⟩) (fun H locs hst => ?_)
      refine lv_if_ne (tgt := 58) hx hb dX2_eliminate_14 (by decide) (fun c_14 => ?_) (fun c_14 => ?_)
      · skip
        refine lv_iinc (v := nI (c + 1)) (lv' := [(2, .int (nI (c + 1))), (0, .ref (ad b)), (1, .int (nI (elR b G c)))]) hx hb dX2_eliminate_58 hl (k := 2) rfl (nI_1 c) (by decide) rfl (fun ls hl => ?_)
        refine lv_goto (tgt := 4) hx hb dX2_eliminate_61 (by decide) ?_
        have ih2 := ih_lp0 (c + 1) (by omega) d0 hd
        rw [show el0 b G (c + 1) = el0 b G c from if_pos (zB_n0.mp c_14), show elR b G (c + 1) = elR b G c from if_pos (zB_n0.mp c_14)] at ih2
        exact ih2 _ _ hst ls (lv_sub hl [1, 2, 0] rfl)
      · skip
        refine lv_iinc (v := nI (elR b G c + 1)) (lv' := [(1, .int (nI (elR b G c + 1))), (0, .ref (ad b)), (2, .int (nI c))]) hx hb dX2_eliminate_17 hl (k := 1) rfl (nI_1 (elR b G c)) (by decide) rfl (fun ls hl => ?_)
        refine lv_iload_n hx hb dX2_eliminate_20 rfl (lv_at hl 2 rfl) ?_
        refine lv_iconst (v := 1) hx hb dX2_eliminate_21 (by decide) ?_
        refine lv_iadd hx hb dX2_eliminate_22 ?_
        rw [nI_1]
        refine lv_istore_n (lv' := [(3, .int (nI (c + 1))), (1, .int (nI (elR b G c + 1))), (0, .ref (ad b)), (2, .int (nI c))]) hx hb dX2_eliminate_23 rfl hl (by decide) rfl (fun ls hl => ?_)
        have lp1 : ∀ (n k : Nat), n + k = 2 - c → ∀ d0 : Drawn, s.drawn.sameBut d0 lw_cs → ∀ (H : Heap) (locs : List Loc), St D cy ad s.heap I (el1 b c (el0 b G c) k) J H locs → ∀ ls, lv_has ls 4 [(0, .ref (ad b)), (1, .int (nI (elR b G c + 1))), (2, .int (nI c)), (3, .int (nI (c + 1 + (k))))] → W p l e (rmK 1 0 0 25) (s.setDrawn d0) m [.ref (ad b)].toArray below meth cd H locs 0 0 (MQD lw_cs below (qI D cy ad (nI (elR b G 3)) I (el0 b G 3) J s.heap.size) [.ref (ad b)].toArray s ((rmK 1 0 0 25)).cells ((rmK 1 0 0 25)).slots (aA ad s.heap.size)) (F0 m 24 ls []) := by
          intro n
          induction n with
          | zero =>
            intro k hi d0 hd H locs hst ls hl
            obtain rfl : 2 - c = k := by omega
            refine lv_iload_n hx hb dX2_eliminate_24 rfl (lv_at hl 3 rfl) ?_
            refine lv_iconst (v := 3) hx hb dX2_eliminate_25 (by decide) ?_
            refine lv_icmp_ge (tgt := 58) hx hb dX2_eliminate_26 (by decide) (fun c_26 => ?_) (fun c_26 => absurd ((show (3 : Int32) ≤ nI (c + 1 + (2 - c)) by rw [show c + 1 + (2 - c) = 3 by omega]; decide)) c_26)
            refine lv_iinc (v := nI (c + 1)) (lv' := [(2, .int (nI (c + 1))), (0, .ref (ad b)), (1, .int (nI (elR b G c + 1))), (3, .int (nI (c + 1 + (2 - c))))]) hx hb dX2_eliminate_58 hl (k := 2) rfl (nI_1 c) (by decide) rfl (fun ls hl => ?_)
            refine lv_goto (tgt := 4) hx hb dX2_eliminate_61 (by decide) ?_
            have ih2 := ih_lp0 (c + 1) (by omega) d0 hd
            rw [show el0 b G (c + 1) = el1 b c (el0 b G c) (2 - c) from if_neg (fun h => by rw [zB_0.mp c_14] at h; cases h), show elR b G (c + 1) = elR b G c + 1 from if_neg (fun h => by rw [zB_0.mp c_14] at h; cases h)] at ih2
            exact ih2 _ _ hst ls (lv_sub hl [1, 2, 0] rfl)
          | succ n ih_lp1 =>
            intro k hi d0 hd H locs hst ls hl
            refine lv_iload_n hx hb dX2_eliminate_24 rfl (lv_at hl 3 rfl) ?_
            refine lv_iconst (v := 3) hx hb dX2_eliminate_25 (by decide) ?_
            refine lv_icmp_ge (tgt := 58) hx hb dX2_eliminate_26 (by decide) (fun c_26 => absurd c_26 ((nI_ge (b := 3) (by omega) (by decide)))) (fun c_26 => ?_)
            refine lv_aload_n hx hb dX2_eliminate_29 rfl (lv_at hl 0 rfl) ?_
            refine lv_iload_n hx hb dX2_eliminate_30 rfl (lv_at hl 3 rfl) ?_
            refine lv_iload_n hx hb dX2_eliminate_31 rfl (lv_at hl 2 rfl) ?_
            refine lv_aload_n hx hb dX2_eliminate_32 rfl (lv_at hl 0 rfl) ?_
            refine w_getR am hst (k := 0) (b := ad (b + 1)) (by omega) (fun _ _ _ => cE_F hf) rfl inT2 (by decide) (fun _ _ _ => rfl) fRX2_11 dX2_eliminate_33 ?_
            refine lv_iload_n hx hb dX2_eliminate_36 rfl (lv_at hl 3 rfl) ?_
            refine w_aldA am hst hf (n := c + 1 + (k)) (nI_clamp (by omega)) (vp_in_nI (by omega) (by decide)) dX2_eliminate_37 ?_
            refine lv_iload_n hx hb dX2_eliminate_38 rfl (lv_at hl 2 rfl) ?_
            refine w_dald am hst (by omega) (fun _ _ _ => cE_Fr hf (by omega)) (n := c) (nI_clamp (by omega)) (vp_in_nI (by omega) (by decide)) dX2_eliminate_39 (fun x1 hx1 => ?_)
            refine lv_aload_n hx hb dX2_eliminate_40 rfl (lv_at hl 0 rfl) ?_
            refine w_getR am hst (k := 0) (b := ad (b + 1)) (by omega) (fun _ _ _ => cE_F hf) rfl inT2 (by decide) (fun _ _ _ => rfl) fRX2_11 dX2_eliminate_41 ?_
            refine lv_iload_n hx hb dX2_eliminate_44 rfl (lv_at hl 2 rfl) ?_
            refine w_aldA am hst hf (n := c) (nI_clamp (by omega)) (vp_in_nI (by omega) (by decide)) dX2_eliminate_45 ?_
            refine lv_iload_n hx hb dX2_eliminate_46 rfl (lv_at hl 2 rfl) ?_
            refine w_dald am hst (by omega) (fun _ _ _ => cE_Fr hf (by omega)) (n := c) (nI_clamp (by omega)) (vp_in_nI (by omega) (by decide)) dX2_eliminate_47 (fun x2 hx2 => ?_)
            refine w_ddiv hd hx hb hx1 hx2 dX2_eliminate_48 (fun x3 d0 hx3 hd => ?_)
            refine c_vD hd hst (r_VD (As := [.int (nI (c + 1 + (k))), .int (nI c), .double x3]) (rest := []) am hst hl (k_X2_lessen hadI hf (r := c + 1 + (k)) (c := c) (by omega) (by omega) hx3) kRX2_55 imX2_lessen slX2_lessen ⟨Nat.le_of_ble_eq_true rfl, Nat.le_of_ble_eq_true rfl⟩ (by omega) (fun _ _ _ => cE_F hf) rfl rfl rfl (Nat.le_of_ble_eq_true rfl) dX2_eliminate_49 ⟨Nat.le_of_ble_eq_true rfl, Nat.le_of_ble_eq_true rfl⟩) (fun d0 H locs hd hst => ?_)
            refine lv_iinc (v := nI (c + 1 + (k) + 1)) (lv' := [(3, .int (nI (c + 1 + (k) + 1))), (0, .ref (ad b)), (1, .int (nI (elR b G c + 1))), (2, .int (nI c))]) hx hb dX2_eliminate_52 hl (k := 3) rfl (nI_1 (c + 1 + (k))) (by decide) rfl (fun ls hl => ?_)
            refine lv_goto (tgt := 24) hx hb dX2_eliminate_55 (by decide) ?_
            exact ih_lp1 (k + 1) (by omega) d0 hd _ _ hst ls (lv_sub hl [1, 2, 3, 0] rfl)
        exact lp1 (2 - c) 0 (by omega) d0 hd _ _ hst ls (lv_sub hl [2, 1, 3, 0] rfl)
  exact lp0 3 0 (by omega) d0 hd _ _ hst ls (lv_sub hl [2, 1, 0] rfl)

set_option maxHeartbeats 4000000 in
set_option maxRecDepth 100000 in
theorem k_X2_substitute {l : Launch} {D : va_G} {cy ad : Nat → Nat} {I : Im} {G : Dm} {J : Jm} (hadI : adI ad) {b : Nat} (hf : b = 34 ∨ b = 41) : kD l yX2_substitute (.code yX2_substitute cX2_substitute 5 none) (rmK 1 0 0 25) D cy ad [.ref (ad b)] I G J (qV D cy ad I (su0 b G 3) J) := by
  refine start_D hadI (by decide +kernel) (Nat.le_of_ble_eq_true rfl) ?_
  intro p e s m below meth cd am hx hb hr hlk hst ls hl d0 hd
  have hl : lv_has ls 5 [(0, .ref (ad b))] := hl
  refine lv_iconst (v := 2) hx hb dX2_substitute_0 (by decide) ?_
  refine lv_istore_n (lv' := [(1, .int 2), (0, .ref (ad b))]) hx hb dX2_substitute_1 rfl hl (by decide) rfl (fun ls hl => ?_)
  have lp0 : ∀ (n k : Nat), n + k = 3 → ∀ d0 : Drawn, s.drawn.sameBut d0 lw_cs → ∀ (H : Heap) (locs : List Loc), St D cy ad s.heap I (su0 b G k) J H locs → ∀ ls, lv_has ls 5 [(0, .ref (ad b)), (1, .int (nI (3 - k) + (-1)))] → W p l e (rmK 1 0 0 25) (s.setDrawn d0) m [.ref (ad b)].toArray below meth cd H locs 0 0 (MQD lw_cs below (qV D cy ad I (su0 b G 3) J s.heap.size) [.ref (ad b)].toArray s ((rmK 1 0 0 25)).cells ((rmK 1 0 0 25)).slots (aA ad s.heap.size)) (F0 m 2 ls []) := by
    intro n
    induction n with
    | zero =>
      intro k hi d0 hd H locs hst ls hl
      obtain rfl : 3 = k := by omega
      refine lv_iload_n hx hb dX2_substitute_2 rfl (lv_at hl 1 rfl) ?_
      refine lv_if_lt (tgt := 90) hx hb dX2_substitute_3 (by decide) (fun c_3 => ?_) (fun c_3 => absurd ((show nI (3 - 3) + (-1) < 0 by decide)) c_3)
      exact e_vD hd hx hb hr hlk hst dX2_substitute_90
    | succ n ih_lp0 =>
      intro k hi d0 hd H locs hst ls hl
      rw [show nI (3 - k) + (-1) = nI (2 - k) from by rw [show 3 - k = (2 - k) + 1 by omega]; exact pk_m1 _] at hl
      refine lv_iload_n hx hb dX2_substitute_2 rfl (lv_at hl 1 rfl) ?_
      refine lv_if_lt (tgt := 90) hx hb dX2_substitute_3 (by decide) (fun c_3 => absurd c_3 ((nI_pos (by omega)))) (fun c_3 => ?_)
      refine lv_aload_n hx hb dX2_substitute_6 rfl (lv_at hl 0 rfl) ?_
      refine lv_iload_n hx hb dX2_substitute_7 rfl (lv_at hl 1 rfl) ?_
      refine c_i hst (r_V (As := [.int (nI (2 - k))]) (rest := []) am hst hl (k_X2_isPassedOver hadI hf (k := 2 - k) (by omega)) kRX2_51 imX2_isPassedOver slX2_isPassedOver ⟨Nat.le_of_ble_eq_true rfl, Nat.le_of_ble_eq_true rfl⟩ (by omega) (fun _ _ _ => cE_F hf) rfl rfl rfl (Nat.le_of_ble_eq_true rfl) dX2_substitute_8 ⟨Nat.le_of_ble_eq_true rfl, Nat.le_of_ble_eq_true rfl⟩) (fun H locs hst => ?_)
      refine lv_if_eq (tgt := 24) hx hb dX2_substitute_11 (by decide) (fun c_11 => ?_) (fun c_11 => ?_)
      · skip
        refine lv_aload_n hx hb dX2_substitute_24 rfl (lv_at hl 0 rfl) ?_
        refine w_getR am hst (k := 1) (b := ad (b + 5)) (by omega) (fun _ _ _ => cE_F hf) rfl inT2 (by decide) (fun _ _ _ => rfl) fRX2_16 dX2_substitute_25 ?_
        refine lv_iload_n hx hb dX2_substitute_28 rfl (lv_at hl 1 rfl) ?_
        refine w_dald am hst (by omega) (fun _ _ _ => cE_F5 hf) (n := 2 - k) (nI_clamp (by omega)) (vp_in_nI (by omega) (by decide)) dX2_substitute_29 (fun x1 hx1 => ?_)
        refine lv_dstore_n (lv' := [(2, .double x1), (0, .ref (ad b)), (1, .int (nI (2 - k)))]) hx hb dX2_substitute_30 rfl hl (by decide) rfl (fun ls hl => ?_)
        refine lv_iload_n hx hb dX2_substitute_31 rfl (lv_at hl 2 rfl) ?_
        refine lv_iconst (v := 1) hx hb dX2_substitute_32 (by decide) ?_
        refine lv_iadd hx hb dX2_substitute_33 ?_
        rw [nI_1]
        refine lv_istore (lv' := [(4, .int (nI (2 - k + 1))), (2, .double x1), (0, .ref (ad b)), (1, .int (nI (2 - k)))]) hx hb dX2_substitute_34 hl (by decide) rfl (fun ls hl => ?_)
        have lp1 : ∀ (n i : Nat), n + i = k → ∀ x : UInt64, cn x = su1 b (2 - k) (su0 b G k) i → ∀ d0 : Drawn, s.drawn.sameBut d0 lw_cs → ∀ (H : Heap) (locs : List Loc), St D cy ad s.heap I (su0 b G k) J H locs → ∀ ls, lv_has ls 5 [(0, .ref (ad b)), (1, .int (nI (2 - k))), (2, .double x), (4, .int (nI (2 - k + 1 + (i))))] → W p l e (rmK 1 0 0 25) (s.setDrawn d0) m [.ref (ad b)].toArray below meth cd H locs 0 0 (MQD lw_cs below (qV D cy ad I (su0 b G 3) J s.heap.size) [.ref (ad b)].toArray s ((rmK 1 0 0 25)).cells ((rmK 1 0 0 25)).slots (aA ad s.heap.size)) (F0 m 36 ls []) := by
          intro n
          induction n with
          | zero =>
            intro i hi x hxr d0 hd H locs hst ls hl
            obtain rfl : k = i := by omega
            refine lv_iload hx hb dX2_substitute_36 (lv_at hl 3 rfl) ?_
            refine lv_iconst (v := 3) hx hb dX2_substitute_38 (by decide) ?_
            refine lv_icmp_ge (tgt := 68) hx hb dX2_substitute_39 (by decide) (fun c_39 => ?_) (fun c_39 => absurd ((show (3 : Int32) ≤ nI (2 - k + 1 + k) by rw [show 2 - k + 1 + k = 3 by omega]; decide)) c_39)
            refine lv_aload_n hx hb dX2_substitute_68 rfl (lv_at hl 0 rfl) ?_
            refine w_getR am hst (k := 2) (b := ad (b + 6)) (by omega) (fun _ _ _ => cE_F hf) rfl inT2 (by decide) (fun _ _ _ => rfl) fRX2_20 dX2_substitute_69 ?_
            refine lv_iload_n hx hb dX2_substitute_72 rfl (lv_at hl 1 rfl) ?_
            refine lv_dload_n hx hb dX2_substitute_73 rfl (lv_at hl 2 rfl) ?_
            refine lv_aload_n hx hb dX2_substitute_74 rfl (lv_at hl 0 rfl) ?_
            refine w_getR am hst (k := 0) (b := ad (b + 1)) (by omega) (fun _ _ _ => cE_F hf) rfl inT2 (by decide) (fun _ _ _ => rfl) fRX2_11 dX2_substitute_75 ?_
            refine lv_iload_n hx hb dX2_substitute_78 rfl (lv_at hl 1 rfl) ?_
            refine w_aldA am hst hf (n := 2 - k) (nI_clamp (by omega)) (vp_in_nI (by omega) (by decide)) dX2_substitute_79 ?_
            refine lv_iload_n hx hb dX2_substitute_80 rfl (lv_at hl 1 rfl) ?_
            refine w_dald am hst (by omega) (fun _ _ _ => cE_Fr hf (by omega)) (n := 2 - k) (nI_clamp (by omega)) (vp_in_nI (by omega) (by decide)) dX2_substitute_81 (fun x2 hx2 => ?_)
            refine w_ddiv hd hx hb hxr hx2 dX2_substitute_82 (fun x3 d0 hx3 hd => ?_)
            refine w_dast am hst hx3 (by omega) (fun _ _ _ => cE_F6 hf) (n := 2 - k) (nI_clamp (by omega)) (vp_in_nI (by omega) (by decide)) dX2_substitute_83 (fun H locs hst => ?_)
            refine lv_iinc (v := nI (3 - (k + 1)) + (-1)) (lv' := [(1, .int (nI (3 - (k + 1)) + (-1))), (0, .ref (ad b)), (2, .double x), (4, .int (nI (2 - k + 1 + (k))))]) hx hb dX2_substitute_84 hl (k := 1) rfl (by rw [show 3 - (k + 1) = 2 - k by omega]; rfl) (by decide) rfl (fun ls hl => ?_)
            refine lv_goto (tgt := 2) hx hb dX2_substitute_87 (by decide) ?_
            have ih2 := ih_lp0 (k + 1) (by omega) d0 hd
            rw [show su0 b G (k + 1) = u2 (su0 b G k) (b + 6) (2 - k) (Dv (su1 b (2 - k) (su0 b G k) k) (su0 b G k (b + 1 + 1 + (2 - k)) (2 - k))) from congrArg (u2 (su0 b G k) (b + 6) (2 - k)) (if_neg (fun h => by rw [zB_0.mp c_11] at h; cases h))] at ih2
            exact ih2 _ _ hst ls (lv_sub hl [1, 0] rfl)
          | succ n ih_lp1 =>
            intro i hi x hxr d0 hd H locs hst ls hl
            refine lv_iload hx hb dX2_substitute_36 (lv_at hl 3 rfl) ?_
            refine lv_iconst (v := 3) hx hb dX2_substitute_38 (by decide) ?_
            refine lv_icmp_ge (tgt := 68) hx hb dX2_substitute_39 (by decide) (fun c_39 => absurd c_39 ((nI_ge (b := 3) (by omega) (by decide)))) (fun c_39 => ?_)
            refine lv_dload_n hx hb dX2_substitute_42 rfl (lv_at hl 2 rfl) ?_
            refine lv_aload_n hx hb dX2_substitute_43 rfl (lv_at hl 0 rfl) ?_
            refine w_getR am hst (k := 0) (b := ad (b + 1)) (by omega) (fun _ _ _ => cE_F hf) rfl inT2 (by decide) (fun _ _ _ => rfl) fRX2_11 dX2_substitute_44 ?_
            refine lv_iload_n hx hb dX2_substitute_47 rfl (lv_at hl 1 rfl) ?_
            refine w_aldA am hst hf (n := 2 - k) (nI_clamp (by omega)) (vp_in_nI (by omega) (by decide)) dX2_substitute_48 ?_
            refine lv_iload hx hb dX2_substitute_49 (lv_at hl 3 rfl) ?_
            refine w_dald am hst (by omega) (fun _ _ _ => cE_Fr hf (by omega)) (n := 2 - k + 1 + (i)) (nI_clamp (by omega)) (vp_in_nI (by omega) (by decide)) dX2_substitute_51 (fun x4 hx4 => ?_)
            refine lv_aload_n hx hb dX2_substitute_52 rfl (lv_at hl 0 rfl) ?_
            refine w_getR am hst (k := 2) (b := ad (b + 6)) (by omega) (fun _ _ _ => cE_F hf) rfl inT2 (by decide) (fun _ _ _ => rfl) fRX2_20 dX2_substitute_53 ?_
            refine lv_iload hx hb dX2_substitute_56 (lv_at hl 3 rfl) ?_
            refine w_dald am hst (by omega) (fun _ _ _ => cE_F6 hf) (n := 2 - k + 1 + (i)) (nI_clamp (by omega)) (vp_in_nI (by omega) (by decide)) dX2_substitute_58 (fun x5 hx5 => ?_)
            refine w_dmul hd hx hb hx4 hx5 dX2_substitute_59 (fun x6 d0 hx6 hd => ?_)
            refine w_dsub hd hx hb hxr hx6 dX2_substitute_60 (fun x7 d0 hx7 hd => ?_)
            refine lv_dstore_n (lv' := [(2, .double x7), (0, .ref (ad b)), (1, .int (nI (2 - k))), (4, .int (nI (2 - k + 1 + (i))))]) hx hb dX2_substitute_61 rfl hl (by decide) rfl (fun ls hl => ?_)
            refine lv_iinc (v := nI (2 - k + 1 + (i) + 1)) (lv' := [(4, .int (nI (2 - k + 1 + (i) + 1))), (2, .double x7), (0, .ref (ad b)), (1, .int (nI (2 - k)))]) hx hb dX2_substitute_62 hl (k := 3) rfl (nI_1 (2 - k + 1 + (i))) (by decide) rfl (fun ls hl => ?_)
            refine lv_goto (tgt := 36) hx hb dX2_substitute_65 (by decide) ?_
            exact ih_lp1 (i + 1) (by omega) x7 hx7 d0 hd _ _ hst ls (lv_sub hl [2, 3, 1, 0] rfl)
        exact lp1 k 0 (by omega) x1 hx1 d0 hd _ _ hst ls (lv_sub hl [2, 3, 1, 0] rfl)
      · skip
        refine lv_aload_n hx hb dX2_substitute_14 rfl (lv_at hl 0 rfl) ?_
        refine w_getR am hst (k := 2) (b := ad (b + 6)) (by omega) (fun _ _ _ => cE_F hf) rfl inT2 (by decide) (fun _ _ _ => rfl) fRX2_20 dX2_substitute_15 ?_
        refine lv_iload_n hx hb dX2_substitute_18 rfl (lv_at hl 1 rfl) ?_
        refine lv_dconst0 hx hb dX2_substitute_19 ?_
        refine w_dast am hst cn_k0 (by omega) (fun _ _ _ => cE_F6 hf) (n := 2 - k) (nI_clamp (by omega)) (vp_in_nI (by omega) (by decide)) dX2_substitute_20 (fun H locs hst => ?_)
        refine lv_goto (tgt := 84) hx hb dX2_substitute_21 (by decide) ?_
        refine lv_iinc (v := nI (3 - (k + 1)) + (-1)) (lv' := [(1, .int (nI (3 - (k + 1)) + (-1))), (0, .ref (ad b))]) hx hb dX2_substitute_84 hl (k := 1) rfl (by rw [show 3 - (k + 1) = 2 - k by omega]; rfl) (by decide) rfl (fun ls hl => ?_)
        refine lv_goto (tgt := 2) hx hb dX2_substitute_87 (by decide) ?_
        have ih2 := ih_lp0 (k + 1) (by omega) d0 hd
        rw [show su0 b G (k + 1) = u2 (su0 b G k) (b + 6) (2 - k) 0 from congrArg (u2 (su0 b G k) (b + 6) (2 - k)) (if_pos (zB_n0.mp c_11))] at ih2
        exact ih2 _ _ hst ls (lv_sub hl [1, 0] rfl)
  exact lp0 3 0 (by omega) d0 hd _ _ hst ls (lv_sub hl [1, 0] rfl)

set_option maxHeartbeats 4000000 in
set_option maxRecDepth 100000 in
theorem k_X2_reckon_n {l : Launch} {D : va_G} {cy ad : Nat → Nat} {I : Im} {G : Dm} {J : Jm} (hadI : adI ad) {b : Nat} (hf : b = 34 ∨ b = 41) : kD l yX2_reckon (.code yX2_reckon cX2_reckon 7 (some .int)) (rmK 3 0 0 64) D cy ad [.ref (ad b), .ref (ad 1), .null] I G J (qI D cy ad (nI (rkR b I sk0 G)) I (rkG b I sk0 G) J) := by
  refine start_D hadI (by decide +kernel) (Nat.le_of_ble_eq_true rfl) ?_
  intro p e s m below meth cd am hx hb hr hlk hst ls hl d0 hd
  have hl : lv_has ls 7 [(0, .ref (ad b)), (1, .ref (ad 1)), (2, .null)] := hl
  refine lv_aload_n hx hb dX2_reckon_0 rfl (lv_at hl 0 rfl) ?_
  refine c_v hst (r_V (As := []) (rest := []) am hst hl (k_X2_clear hadI hf) kRX2_23 imX2_clear slX2_clear ⟨Nat.le_of_ble_eq_true rfl, Nat.le_of_ble_eq_true rfl⟩ (by omega) (fun _ _ _ => cE_F hf) rfl rfl rfl (Nat.le_of_ble_eq_true rfl) dX2_reckon_1 ⟨Nat.le_of_ble_eq_true rfl, Nat.le_of_ble_eq_true rfl⟩) (fun H locs hst => ?_)
  refine lv_aload_n hx hb dX2_reckon_4 rfl (lv_at hl 1 rfl) ?_
  refine lv_astore_n (lv' := [(3, .ref (ad 1)), (0, .ref (ad b)), (1, .ref (ad 1)), (2, .null)]) hx hb dX2_reckon_5 rfl hl (by decide) rfl (fun ls hl => ?_)
  refine lv_aload_n hx hb dX2_reckon_6 rfl (lv_at hl 0 rfl) ?_
  refine w_alen am hst (t0 := 3) (v := 32) (by decide) _ (fun _ => cE_1) rfl rfl dX2_reckon_7 ?_
  refine lv_istore (lv' := [(4, .int 32), (3, .ref (ad 1)), (0, .ref (ad b)), (1, .ref (ad 1)), (2, .null)]) hx hb dX2_reckon_8 hl (by decide) rfl (fun ls hl => ?_)
  refine lv_iconst (v := 0) hx hb dX2_reckon_10 (by decide) ?_
  refine lv_istore (lv' := [(5, .int 0), (4, .int 32), (3, .ref (ad 1)), (0, .ref (ad b)), (1, .ref (ad 1)), (2, .null)]) hx hb dX2_reckon_11 hl (by decide) rfl (fun ls hl => ?_)
  have lp0 : ∀ (n i : Nat), n + i = 32 → ∀ d0 : Drawn, s.drawn.sameBut d0 lw_cs → ∀ (H : Heap) (locs : List Loc), St D cy ad s.heap I (rk1 b I sk0 G i) J H locs → ∀ ls, lv_has ls 7 [(0, .ref (ad b)), (1, .ref (ad 1)), (2, .null), (3, .ref (ad 1)), (4, .int 32), (5, .int (nI i))] → W p l e (rmK 3 0 0 64) (s.setDrawn d0) m [.ref (ad b), .ref (ad 1), .null].toArray below meth cd H locs 0 0 (MQD lw_cs below (qI D cy ad (nI (rkR b I sk0 G)) I (rkG b I sk0 G) J s.heap.size) [.ref (ad b), .ref (ad 1), .null].toArray s ((rmK 3 0 0 64)).cells ((rmK 3 0 0 64)).slots (aA ad s.heap.size)) (F0 m 13 ls []) := by
    intro n
    induction n with
    | zero =>
      intro i hi d0 hd H locs hst ls hl
      obtain rfl : 32 = i := by omega
      refine lv_iload hx hb dX2_reckon_13 (lv_at hl 5 rfl) ?_
      refine lv_iload hx hb dX2_reckon_15 (lv_at hl 4 rfl) ?_
      refine lv_icmp_ge (tgt := 52) hx hb dX2_reckon_17 (by decide) (fun c_17 => ?_) (fun c_17 => absurd ((show (32 : Int32) ≤ nI 32 by decide)) c_17)
      refine lv_aload_n hx hb dX2_reckon_52 rfl (lv_at hl 0 rfl) ?_
      refine c_iD hd hst (r_VD (As := []) (rest := []) am hst hl (k_X2_eliminate hadI hf) kRX2_36 imX2_eliminate slX2_eliminate ⟨Nat.le_of_ble_eq_true rfl, Nat.le_of_ble_eq_true rfl⟩ (by omega) (fun _ _ _ => cE_F hf) rfl rfl rfl (Nat.le_of_ble_eq_true rfl) dX2_reckon_53 ⟨Nat.le_of_ble_eq_true rfl, Nat.le_of_ble_eq_true rfl⟩) (fun d0 H locs hd hst => ?_)
      refine lv_istore_n (lv' := [(3, .int (nI (elR b (rk1 b I sk0 G 32) 3))), (0, .ref (ad b)), (1, .ref (ad 1)), (2, .null), (4, .int 32), (5, .int (nI 32))]) hx hb dX2_reckon_56 rfl hl (by decide) rfl (fun ls hl => ?_)
      refine lv_aload_n hx hb dX2_reckon_57 rfl (lv_at hl 1 rfl) ?_
      refine c_vD hd hst (r_VD (As := []) (rest := []) am hst hl (k_X2_substitute hadI hf) kRX2_40 imX2_substitute slX2_substitute ⟨Nat.le_of_ble_eq_true rfl, Nat.le_of_ble_eq_true rfl⟩ (by omega) (fun _ _ _ => cE_F hf) rfl rfl rfl (Nat.le_of_ble_eq_true rfl) dX2_reckon_58 ⟨Nat.le_of_ble_eq_true rfl, Nat.le_of_ble_eq_true rfl⟩) (fun d0 H locs hd hst => ?_)
      refine lv_iload_n hx hb dX2_reckon_61 rfl (lv_at hl 0 rfl) ?_
      exact e_iD hd hx hb hr hlk hst rfl rfl dX2_reckon_62
    | succ n ih_lp0 =>
      intro i hi d0 hd H locs hst ls hl
      refine lv_iload hx hb dX2_reckon_13 (lv_at hl 5 rfl) ?_
      refine lv_iload hx hb dX2_reckon_15 (lv_at hl 4 rfl) ?_
      refine lv_icmp_ge (tgt := 52) hx hb dX2_reckon_17 (by decide) (fun c_17 => absurd c_17 ((nI_ge (b := 32) (by omega) (by decide)))) (fun c_17 => ?_)
      refine lv_aload_n hx hb dX2_reckon_20 rfl (lv_at hl 3 rfl) ?_
      refine lv_iload hx hb dX2_reckon_21 (lv_at hl 5 rfl) ?_
      refine w_aldR am hst (n := i) (nI_clamp (by omega)) (vp_in_nI (by omega) (by decide)) dX2_reckon_23 ?_
      refine lv_astore (lv' := [(6, .ref (ad (2 + i))), (0, .ref (ad b)), (1, .ref (ad 1)), (2, .null), (3, .ref (ad 1)), (4, .int 32), (5, .int (nI i))]) hx hb dX2_reckon_24 hl (by decide) rfl (fun ls hl => ?_)
      refine lv_aload hx hb dX2_reckon_26 (lv_at hl 0 rfl) ?_
      refine c_i hst (r_N (As := []) (rest := []) am hst hl (k_X0_isFitted hadI (by omega)) kRX2_26 imX0_isFitted slX0_isFitted ⟨Nat.le_of_ble_eq_true rfl, Nat.le_of_ble_eq_true rfl⟩ (by omega) (fun _ _ _ => cE_B (by omega)) rfl rfl rfl (Nat.le_of_ble_eq_true rfl) dX2_reckon_28 ⟨Nat.le_of_ble_eq_true rfl, Nat.le_of_ble_eq_true rfl⟩) (fun H locs hst => ?_)
      refine lv_if_eq (tgt := 46) hx hb dX2_reckon_31 (by decide) (fun c_31 => ?_) (fun c_31 => ?_)
      · skip
        refine lv_iinc (v := nI (i + 1)) (lv' := [(5, .int (nI (i + 1))), (6, .ref (ad (2 + i))), (0, .ref (ad b)), (1, .ref (ad 1)), (2, .null), (3, .ref (ad 1)), (4, .int 32)]) hx hb dX2_reckon_46 hl (k := 6) rfl (nI_1 i) (by decide) rfl (fun ls hl => ?_)
        refine lv_goto (tgt := 13) hx hb dX2_reckon_49 (by decide) ?_
        have ih2 := ih_lp0 (i + 1) (by omega) d0 hd
        rw [show rk1 b I sk0 G (i + 1) = rk1 b I sk0 G i from if_neg (by rw [zB_0.mp c_31]; exact fun h => by cases h)] at ih2
        exact ih2 _ _ hst ls (lv_sub hl [2, 3, 4, 5, 6, 0] rfl)
      · skip
        refine lv_aload hx hb dX2_reckon_34 (lv_at hl 0 rfl) ?_
        refine lv_aload_nN hx hb dX2_reckon_36 rfl (lv_at hl 3 rfl) ?_
        refine lv_acmp_eq (rx := some (ad (2 + i))) (ry := none) (tgt := 46) hx hb dX2_reckon_37 (by decide) (fun h => absurd h (by simp)) (fun _ => ?_)
        refine lv_aload_n hx hb dX2_reckon_40 rfl (lv_at hl 1 rfl) ?_
        refine lv_aload hx hb dX2_reckon_41 (lv_at hl 0 rfl) ?_
        refine c_vD hd hst (r_VD (As := [.ref (ad (2 + i))]) (rest := []) am hst hl (k_X2_add hadI hf (by omega)) kRX2_32 imX2_add slX2_add ⟨Nat.le_of_ble_eq_true rfl, Nat.le_of_ble_eq_true rfl⟩ (by omega) (fun _ _ _ => cE_F hf) rfl rfl rfl (Nat.le_of_ble_eq_true rfl) dX2_reckon_43 ⟨Nat.le_of_ble_eq_true rfl, Nat.le_of_ble_eq_true rfl⟩) (fun d0 H locs hd hst => ?_)
        refine lv_iinc (v := nI (i + 1)) (lv' := [(5, .int (nI (i + 1))), (6, .ref (ad (2 + i))), (0, .ref (ad b)), (1, .ref (ad 1)), (2, .null), (3, .ref (ad 1)), (4, .int 32)]) hx hb dX2_reckon_46 hl (k := 6) rfl (nI_1 i) (by decide) rfl (fun ls hl => ?_)
        refine lv_goto (tgt := 13) hx hb dX2_reckon_49 (by decide) ?_
        have ih2 := ih_lp0 (i + 1) (by omega) d0 hd
        rw [show rk1 b I sk0 G (i + 1) = ad0 b I (2 + i) (rk1 b I sk0 G i) 3 from if_pos (by rw [zB_n0.mp c_31]; rfl)] at ih2
        exact ih2 _ _ hst ls (lv_sub hl [2, 3, 4, 5, 6, 0] rfl)
  exact lp0 32 0 (by omega) d0 hd _ _ hst ls (lv_sub hl [3, 4, 5, 2, 1, 0] rfl)

set_option maxHeartbeats 4000000 in
set_option maxRecDepth 100000 in
theorem k_X2_reckon_w {l : Launch} {D : va_G} {cy ad : Nat → Nat} {I : Im} {G : Dm} {J : Jm} (hadI : adI ad) {b : Nat} (hf : b = 34 ∨ b = 41) {w : Nat} (hw : w < 32) : kD l yX2_reckon (.code yX2_reckon cX2_reckon 7 (some .int)) (rmK 3 0 0 64) D cy ad [.ref (ad b), .ref (ad 1), .ref (ad (2 + w))] I G J (qI D cy ad (nI (rkR b I (sk1 w) G)) I (rkG b I (sk1 w) G) J) := by
  refine start_D hadI (by decide +kernel) (Nat.le_of_ble_eq_true rfl) ?_
  intro p e s m below meth cd am hx hb hr hlk hst ls hl d0 hd
  have hl : lv_has ls 7 [(0, .ref (ad b)), (1, .ref (ad 1)), (2, .ref (ad (2 + w)))] := hl
  refine lv_aload_n hx hb dX2_reckon_0 rfl (lv_at hl 0 rfl) ?_
  refine c_v hst (r_V (As := []) (rest := []) am hst hl (k_X2_clear hadI hf) kRX2_23 imX2_clear slX2_clear ⟨Nat.le_of_ble_eq_true rfl, Nat.le_of_ble_eq_true rfl⟩ (by omega) (fun _ _ _ => cE_F hf) rfl rfl rfl (Nat.le_of_ble_eq_true rfl) dX2_reckon_1 ⟨Nat.le_of_ble_eq_true rfl, Nat.le_of_ble_eq_true rfl⟩) (fun H locs hst => ?_)
  refine lv_aload_n hx hb dX2_reckon_4 rfl (lv_at hl 1 rfl) ?_
  refine lv_astore_n (lv' := [(3, .ref (ad 1)), (0, .ref (ad b)), (1, .ref (ad 1)), (2, .ref (ad (2 + w)))]) hx hb dX2_reckon_5 rfl hl (by decide) rfl (fun ls hl => ?_)
  refine lv_aload_n hx hb dX2_reckon_6 rfl (lv_at hl 0 rfl) ?_
  refine w_alen am hst (t0 := 3) (v := 32) (by decide) _ (fun _ => cE_1) rfl rfl dX2_reckon_7 ?_
  refine lv_istore (lv' := [(4, .int 32), (3, .ref (ad 1)), (0, .ref (ad b)), (1, .ref (ad 1)), (2, .ref (ad (2 + w)))]) hx hb dX2_reckon_8 hl (by decide) rfl (fun ls hl => ?_)
  refine lv_iconst (v := 0) hx hb dX2_reckon_10 (by decide) ?_
  refine lv_istore (lv' := [(5, .int 0), (4, .int 32), (3, .ref (ad 1)), (0, .ref (ad b)), (1, .ref (ad 1)), (2, .ref (ad (2 + w)))]) hx hb dX2_reckon_11 hl (by decide) rfl (fun ls hl => ?_)
  have lp0 : ∀ (n i : Nat), n + i = 32 → ∀ d0 : Drawn, s.drawn.sameBut d0 lw_cs → ∀ (H : Heap) (locs : List Loc), St D cy ad s.heap I (rk1 b I (sk1 w) G i) J H locs → ∀ ls, lv_has ls 7 [(0, .ref (ad b)), (1, .ref (ad 1)), (2, .ref (ad (2 + w))), (3, .ref (ad 1)), (4, .int 32), (5, .int (nI i))] → W p l e (rmK 3 0 0 64) (s.setDrawn d0) m [.ref (ad b), .ref (ad 1), .ref (ad (2 + w))].toArray below meth cd H locs 0 0 (MQD lw_cs below (qI D cy ad (nI (rkR b I (sk1 w) G)) I (rkG b I (sk1 w) G) J s.heap.size) [.ref (ad b), .ref (ad 1), .ref (ad (2 + w))].toArray s ((rmK 3 0 0 64)).cells ((rmK 3 0 0 64)).slots (aA ad s.heap.size)) (F0 m 13 ls []) := by
    intro n
    induction n with
    | zero =>
      intro i hi d0 hd H locs hst ls hl
      obtain rfl : 32 = i := by omega
      refine lv_iload hx hb dX2_reckon_13 (lv_at hl 5 rfl) ?_
      refine lv_iload hx hb dX2_reckon_15 (lv_at hl 4 rfl) ?_
      refine lv_icmp_ge (tgt := 52) hx hb dX2_reckon_17 (by decide) (fun c_17 => ?_) (fun c_17 => absurd ((show (32 : Int32) ≤ nI 32 by decide)) c_17)
      refine lv_aload_n hx hb dX2_reckon_52 rfl (lv_at hl 0 rfl) ?_
      refine c_iD hd hst (r_VD (As := []) (rest := []) am hst hl (k_X2_eliminate hadI hf) kRX2_36 imX2_eliminate slX2_eliminate ⟨Nat.le_of_ble_eq_true rfl, Nat.le_of_ble_eq_true rfl⟩ (by omega) (fun _ _ _ => cE_F hf) rfl rfl rfl (Nat.le_of_ble_eq_true rfl) dX2_reckon_53 ⟨Nat.le_of_ble_eq_true rfl, Nat.le_of_ble_eq_true rfl⟩) (fun d0 H locs hd hst => ?_)
      refine lv_istore_n (lv' := [(3, .int (nI (elR b (rk1 b I (sk1 w) G 32) 3))), (0, .ref (ad b)), (1, .ref (ad 1)), (2, .ref (ad (2 + w))), (4, .int 32), (5, .int (nI 32))]) hx hb dX2_reckon_56 rfl hl (by decide) rfl (fun ls hl => ?_)
      refine lv_aload_n hx hb dX2_reckon_57 rfl (lv_at hl 1 rfl) ?_
      refine c_vD hd hst (r_VD (As := []) (rest := []) am hst hl (k_X2_substitute hadI hf) kRX2_40 imX2_substitute slX2_substitute ⟨Nat.le_of_ble_eq_true rfl, Nat.le_of_ble_eq_true rfl⟩ (by omega) (fun _ _ _ => cE_F hf) rfl rfl rfl (Nat.le_of_ble_eq_true rfl) dX2_reckon_58 ⟨Nat.le_of_ble_eq_true rfl, Nat.le_of_ble_eq_true rfl⟩) (fun d0 H locs hd hst => ?_)
      refine lv_iload_n hx hb dX2_reckon_61 rfl (lv_at hl 0 rfl) ?_
      exact e_iD hd hx hb hr hlk hst rfl rfl dX2_reckon_62
    | succ n ih_lp0 =>
      intro i hi d0 hd H locs hst ls hl
      refine lv_iload hx hb dX2_reckon_13 (lv_at hl 5 rfl) ?_
      refine lv_iload hx hb dX2_reckon_15 (lv_at hl 4 rfl) ?_
      refine lv_icmp_ge (tgt := 52) hx hb dX2_reckon_17 (by decide) (fun c_17 => absurd c_17 ((nI_ge (b := 32) (by omega) (by decide)))) (fun c_17 => ?_)
      refine lv_aload_n hx hb dX2_reckon_20 rfl (lv_at hl 3 rfl) ?_
      refine lv_iload hx hb dX2_reckon_21 (lv_at hl 5 rfl) ?_
      refine w_aldR am hst (n := i) (nI_clamp (by omega)) (vp_in_nI (by omega) (by decide)) dX2_reckon_23 ?_
      refine lv_astore (lv' := [(6, .ref (ad (2 + i))), (0, .ref (ad b)), (1, .ref (ad 1)), (2, .ref (ad (2 + w))), (3, .ref (ad 1)), (4, .int 32), (5, .int (nI i))]) hx hb dX2_reckon_24 hl (by decide) rfl (fun ls hl => ?_)
      refine lv_aload hx hb dX2_reckon_26 (lv_at hl 0 rfl) ?_
      refine c_i hst (r_N (As := []) (rest := []) am hst hl (k_X0_isFitted hadI (by omega)) kRX2_26 imX0_isFitted slX0_isFitted ⟨Nat.le_of_ble_eq_true rfl, Nat.le_of_ble_eq_true rfl⟩ (by omega) (fun _ _ _ => cE_B (by omega)) rfl rfl rfl (Nat.le_of_ble_eq_true rfl) dX2_reckon_28 ⟨Nat.le_of_ble_eq_true rfl, Nat.le_of_ble_eq_true rfl⟩) (fun H locs hst => ?_)
      refine lv_if_eq (tgt := 46) hx hb dX2_reckon_31 (by decide) (fun c_31 => ?_) (fun c_31 => ?_)
      · skip
        refine lv_iinc (v := nI (i + 1)) (lv' := [(5, .int (nI (i + 1))), (6, .ref (ad (2 + i))), (0, .ref (ad b)), (1, .ref (ad 1)), (2, .ref (ad (2 + w))), (3, .ref (ad 1)), (4, .int 32)]) hx hb dX2_reckon_46 hl (k := 6) rfl (nI_1 i) (by decide) rfl (fun ls hl => ?_)
        refine lv_goto (tgt := 13) hx hb dX2_reckon_49 (by decide) ?_
        have ih2 := ih_lp0 (i + 1) (by omega) d0 hd
        rw [show rk1 b I (sk1 w) G (i + 1) = rk1 b I (sk1 w) G i from if_neg (by rw [zB_0.mp c_31]; exact fun h => by cases h)] at ih2
        exact ih2 _ _ hst ls (lv_sub hl [2, 3, 4, 5, 6, 0] rfl)
      · skip
        refine lv_aload hx hb dX2_reckon_34 (lv_at hl 0 rfl) ?_
        refine lv_aload_n hx hb dX2_reckon_36 rfl (lv_at hl 3 rfl) ?_
        refine lv_acmp_eq (rx := some (ad (2 + i))) (ry := some (ad (2 + w))) (tgt := 46) hx hb dX2_reckon_37 (by decide) (fun c_37 => ?_) (fun c_37 => ?_)
        · skip
          refine lv_iinc (v := nI (i + 1)) (lv' := [(5, .int (nI (i + 1))), (6, .ref (ad (2 + i))), (0, .ref (ad b)), (1, .ref (ad 1)), (2, .ref (ad (2 + w))), (3, .ref (ad 1)), (4, .int 32)]) hx hb dX2_reckon_46 hl (k := 6) rfl (nI_1 i) (by decide) rfl (fun ls hl => ?_)
          refine lv_goto (tgt := 13) hx hb dX2_reckon_49 (by decide) ?_
          have ih2 := ih_lp0 (i + 1) (by omega) d0 hd
          rw [show rk1 b I (sk1 w) G (i + 1) = rk1 b I (sk1 w) G i from if_neg (by rw [show i = w from Nat.add_left_cancel (hadI _ _ (by omega) (by omega) (Option.some.inj c_37))]; simp [sk1])] at ih2
          exact ih2 _ _ hst ls (lv_sub hl [2, 3, 4, 5, 6, 0] rfl)
        · skip
          refine lv_aload_n hx hb dX2_reckon_40 rfl (lv_at hl 1 rfl) ?_
          refine lv_aload hx hb dX2_reckon_41 (lv_at hl 0 rfl) ?_
          refine c_vD hd hst (r_VD (As := [.ref (ad (2 + i))]) (rest := []) am hst hl (k_X2_add hadI hf (by omega)) kRX2_32 imX2_add slX2_add ⟨Nat.le_of_ble_eq_true rfl, Nat.le_of_ble_eq_true rfl⟩ (by omega) (fun _ _ _ => cE_F hf) rfl rfl rfl (Nat.le_of_ble_eq_true rfl) dX2_reckon_43 ⟨Nat.le_of_ble_eq_true rfl, Nat.le_of_ble_eq_true rfl⟩) (fun d0 H locs hd hst => ?_)
          refine lv_iinc (v := nI (i + 1)) (lv' := [(5, .int (nI (i + 1))), (6, .ref (ad (2 + i))), (0, .ref (ad b)), (1, .ref (ad 1)), (2, .ref (ad (2 + w))), (3, .ref (ad 1)), (4, .int 32)]) hx hb dX2_reckon_46 hl (k := 6) rfl (nI_1 i) (by decide) rfl (fun ls hl => ?_)
          refine lv_goto (tgt := 13) hx hb dX2_reckon_49 (by decide) ?_
          have ih2 := ih_lp0 (i + 1) (by omega) d0 hd
          rw [show rk1 b I (sk1 w) G (i + 1) = ad0 b I (2 + i) (rk1 b I (sk1 w) G i) 3 from if_pos (by rw [zB_n0.mp c_31]; simp only [sk1, Bool.true_and, Bool.not_eq_true', decide_eq_false_iff_not]; exact fun h => c_37 (by rw [h]))] at ih2
          exact ih2 _ _ hst ls (lv_sub hl [2, 3, 4, 5, 6, 0] rfl)
  exact lp0 32 0 (by omega) d0 hd _ _ hst ls (lv_sub hl [3, 4, 5, 2, 1, 0] rfl)

set_option maxHeartbeats 4000000 in
set_option maxRecDepth 100000 in
theorem k_X2_foretell {l : Launch} {D : va_G} {cy ad : Nat → Nat} {I : Im} {G : Dm} {J : Jm} (hadI : adI ad) {b : Nat} (hf : b = 34 ∨ b = 41) {c : Nat} (hc : 2 ≤ c ∧ c < 34) : kD l yX2_foretell (.code yX2_foretell cX2_foretell 2 (some .double)) (rmK 2 0 0 41) D cy ad [.ref (ad b), .ref (ad c)] I G J (qD D cy ad (fore b I G c) I G J) := by
  refine start_D hadI (by decide +kernel) (Nat.le_of_ble_eq_true rfl) ?_
  intro p e s m below meth cd am hx hb hr hlk hst ls hl d0 hd
  have hl : lv_has ls 2 [(0, .ref (ad b)), (1, .ref (ad c))] := hl
  refine lv_aload_n hx hb dX2_foretell_0 rfl (lv_at hl 0 rfl) ?_
  refine w_getR am hst (k := 2) (b := ad (b + 6)) (by omega) (fun _ _ _ => cE_F hf) rfl inT2 (by decide) (fun _ _ _ => rfl) fRX2_20 dX2_foretell_1 ?_
  refine lv_iconst (v := 0) hx hb dX2_foretell_4 (by decide) ?_
  refine w_dald am hst (by omega) (fun _ _ _ => cE_F6 hf) (n := 0) rfl (vinL (by decide)) dX2_foretell_5 (fun x1 hx1 => ?_)
  refine lv_aload_n hx hb dX2_foretell_6 rfl (lv_at hl 1 rfl) ?_
  refine lv_iconst (v := 0) hx hb dX2_foretell_7 (by decide) ?_
  refine c_dD hd hst (r_ND (As := [.int (nI 0)]) (rest := [.double x1]) am hst hl (k_X0_term hadI hc (i := 0) (by omega)) kRX2_43 imX0_term slX0_term ⟨Nat.le_of_ble_eq_true rfl, Nat.le_of_ble_eq_true rfl⟩ (by omega) (fun _ _ _ => cE_B hc) rfl rfl rfl (Nat.le_of_ble_eq_true rfl) dX2_foretell_8 ⟨Nat.le_of_ble_eq_true rfl, Nat.le_of_ble_eq_true rfl⟩) (fun x2 d0 H locs hx2 hd hst => ?_)
  refine w_dmul hd hx hb hx1 hx2 dX2_foretell_11 (fun x3 d0 hx3 hd => ?_)
  refine lv_aload_n hx hb dX2_foretell_12 rfl (lv_at hl 0 rfl) ?_
  refine w_getR am hst (k := 2) (b := ad (b + 6)) (by omega) (fun _ _ _ => cE_F hf) rfl inT2 (by decide) (fun _ _ _ => rfl) fRX2_20 dX2_foretell_13 ?_
  refine lv_iconst (v := 1) hx hb dX2_foretell_16 (by decide) ?_
  refine w_dald am hst (by omega) (fun _ _ _ => cE_F6 hf) (n := 1) rfl (vinL (by decide)) dX2_foretell_17 (fun x4 hx4 => ?_)
  refine lv_aload_n hx hb dX2_foretell_18 rfl (lv_at hl 1 rfl) ?_
  refine lv_iconst (v := 1) hx hb dX2_foretell_19 (by decide) ?_
  refine c_dD hd hst (r_ND (As := [.int (nI 1)]) (rest := [.double x4, .double x3]) am hst hl (k_X0_term hadI hc (i := 1) (by omega)) kRX2_43 imX0_term slX0_term ⟨Nat.le_of_ble_eq_true rfl, Nat.le_of_ble_eq_true rfl⟩ (by omega) (fun _ _ _ => cE_B hc) rfl rfl rfl (Nat.le_of_ble_eq_true rfl) dX2_foretell_20 ⟨Nat.le_of_ble_eq_true rfl, Nat.le_of_ble_eq_true rfl⟩) (fun x5 d0 H locs hx5 hd hst => ?_)
  refine w_dmul hd hx hb hx4 hx5 dX2_foretell_23 (fun x6 d0 hx6 hd => ?_)
  refine w_dadd hd hx hb hx3 hx6 dX2_foretell_24 (fun x7 d0 hx7 hd => ?_)
  refine lv_aload_n hx hb dX2_foretell_25 rfl (lv_at hl 0 rfl) ?_
  refine w_getR am hst (k := 2) (b := ad (b + 6)) (by omega) (fun _ _ _ => cE_F hf) rfl inT2 (by decide) (fun _ _ _ => rfl) fRX2_20 dX2_foretell_26 ?_
  refine lv_iconst (v := 2) hx hb dX2_foretell_29 (by decide) ?_
  refine w_dald am hst (by omega) (fun _ _ _ => cE_F6 hf) (n := 2) rfl (vinL (by decide)) dX2_foretell_30 (fun x8 hx8 => ?_)
  refine lv_aload_n hx hb dX2_foretell_31 rfl (lv_at hl 1 rfl) ?_
  refine lv_iconst (v := 2) hx hb dX2_foretell_32 (by decide) ?_
  refine c_dD hd hst (r_ND (As := [.int (nI 2)]) (rest := [.double x8, .double x7]) am hst hl (k_X0_term hadI hc (i := 2) (by omega)) kRX2_43 imX0_term slX0_term ⟨Nat.le_of_ble_eq_true rfl, Nat.le_of_ble_eq_true rfl⟩ (by omega) (fun _ _ _ => cE_B hc) rfl rfl rfl (Nat.le_of_ble_eq_true rfl) dX2_foretell_33 ⟨Nat.le_of_ble_eq_true rfl, Nat.le_of_ble_eq_true rfl⟩) (fun x9 d0 H locs hx9 hd hst => ?_)
  refine w_dmul hd hx hb hx8 hx9 dX2_foretell_36 (fun x10 d0 hx10 hd => ?_)
  refine w_dadd hd hx hb hx7 hx10 dX2_foretell_37 (fun x11 d0 hx11 hd => ?_)
  exact e_dD hd hx hb hr hlk hst hx11 dX2_foretell_38

