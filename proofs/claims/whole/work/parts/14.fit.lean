/-! a fit: its sums, its elimination, its numbers; each loop has a function that counts its turns. b is 34 or 41: the fit; its products lie at b + 2 + i, its targets at b + 5, its numbers at b + 6 -/
def cl1 (b i : Nat) (G : Dm) : Nat → Dm | 0 => G | j + 1 => u2 (cl1 b i G j) (b + 1 + 1 + i) j 0
def cl0 (b : Nat) (G : Dm) : Nat → Dm | 0 => G | i + 1 => cl1 b i (u2 (cl0 b G i) (b + 5) i 0) 3
def ad1 (b : Nat) (I : Im) (c i : Nat) (G : Dm) : Nat → Dm | 0 => G | j + 1 => u2 (ad1 b I c i G j) (b + 1 + 1 + i) j (Ad (ad1 b I c i G j (b + 1 + 1 + i) j) (Mu (dTerm I (ad1 b I c i G j) c i) (dTerm I (ad1 b I c i G j) c j)))
def ad0 (b : Nat) (I : Im) (c : Nat) (G : Dm) : Nat → Dm | 0 => G | i + 1 => ad1 b I c i (u2 (ad0 b I c G i) (b + 5) i (Ad (ad0 b I c G i (b + 5) i) (Mu (dTerm I (ad0 b I c G i) c i) (ad0 b I c G i c 4)))) 3
def pvS (x : UInt64) : UInt64 := if 0 ≤ Op.cmpValue (FP.dcmp x 0) CmpOp.g then x else Ng x
def pvO (x : UInt64) : Bool := decide (¬ 0 ≤ Op.cmpValue (FP.dcmp (pvS x) 4517110426252607488) CmpOp.g)
def le1 (b r c : Nat) (f : UInt64) (G : Dm) : Nat → Dm | 0 => G | k + 1 => u2 (le1 b r c f G k) (b + 1 + 1 + r) (c + k) (Sb (le1 b r c f G k (b + 1 + 1 + r) (c + k)) (Mu f (le1 b r c f G k (b + 1 + 1 + c) (c + k))))
def le0 (b r c : Nat) (f : UInt64) (G : Dm) : Dm := u2 (le1 b r c f G (3 - c)) (b + 5) r (Sb (le1 b r c f G (3 - c) (b + 5) r) (Mu f (le1 b r c f G (3 - c) (b + 5) c)))
def el1 (b c : Nat) (G : Dm) : Nat → Dm | 0 => G | k + 1 => le0 b (c + 1 + k) c (Dv (el1 b c G k (b + 1 + 1 + (c + 1 + k)) c) (el1 b c G k (b + 1 + 1 + c) c)) (el1 b c G k)
def el0 (b : Nat) (G : Dm) : Nat → Dm | 0 => G | c + 1 => if pvO (el0 b G c (b + 1 + 1 + c) c) = true then el0 b G c else el1 b c (el0 b G c) (2 - c)
def elR (b : Nat) (G : Dm) : Nat → Nat | 0 => 0 | c + 1 => if pvO (el0 b G c (b + 1 + 1 + c) c) = true then elR b G c else elR b G c + 1
def su1 (b c : Nat) (G : Dm) : Nat → UInt64 | 0 => G (b + 5) c | k + 1 => Sb (su1 b c G k) (Mu (G (b + 1 + 1 + c) (c + 1 + k)) (G (b + 6) (c + 1 + k)))
def su0 (b : Nat) (G : Dm) : Nat → Dm | 0 => G | k + 1 => u2 (su0 b G k) (b + 6) (2 - k) (if pvO (su0 b G k (b + 1 + 1 + (2 - k)) (2 - k)) = true then 0 else Dv (su1 b (2 - k) (su0 b G k) k) (su0 b G k (b + 1 + 1 + (2 - k)) (2 - k)))
theorem elR_le (b : Nat) (G : Dm) : ∀ c, elR b G c ≤ c
  | 0 => Nat.le_refl 0
  | c + 1 => by
    have := elR_le b G c
    unfold elR
    split <;> omega
set_option maxHeartbeats 4000000 in
set_option maxRecDepth 100000 in
theorem k_X2_clear {l : Launch} {D : va_G} {cy ad : Nat → Nat} {I : Im} {G : Dm} {J : Jm} (hadI : adI ad) {b : Nat} (hf : b = 34 ∨ b = 41) : kM l yX2_clear (.code yX2_clear cX2_clear 3 none) (rmK 0 0 0 0) D cy ad [.ref (ad b)] I G J (qV D cy ad I (cl0 b G 3) J) := by
  refine start_M hadI (by decide +kernel) (Nat.le_of_ble_eq_true rfl) ?_
  intro p e s m below meth cd am hx hb hr hlk hst ls hl
  have hl : lv_has ls 3 [(0, .ref (ad b))] := hl
  refine lv_iconst (v := 0) hx hb dX2_clear_0 (by decide) ?_
  refine lv_istore_n (lv' := [(1, .int 0), (0, .ref (ad b))]) hx hb dX2_clear_1 rfl hl (by decide) rfl (fun ls hl => ?_)
  have lp0 : ∀ (n i : Nat), n + i = 3 → ∀ (H : Heap) (locs : List Loc), St D cy ad s.heap I (cl0 b G i) J H locs → ∀ ls, lv_has ls 3 [(0, .ref (ad b)), (1, .int (nI i))] → W p l e (rmK 0 0 0 0) (s.setDrawn s.drawn) m [.ref (ad b)].toArray below meth cd H locs 0 0 (MQ below (qV D cy ad I (cl0 b G 3) J s.heap.size) [.ref (ad b)].toArray s ((rmK 0 0 0 0)).cells ((rmK 0 0 0 0)).slots (aA ad s.heap.size)) (F0 m 2 ls []) := by
    intro n
    induction n with
    | zero =>
      intro i hi H locs hst ls hl
      obtain rfl : 3 = i := by omega
      refine lv_iload_n hx hb dX2_clear_2 rfl (lv_at hl 1 rfl) ?_
      refine lv_iconst (v := 3) hx hb dX2_clear_3 (by decide) ?_
      refine lv_icmp_ge (tgt := 42) hx hb dX2_clear_4 (by decide) (fun c_4 => ?_) (fun c_4 => absurd ((show (3 : Int32) ≤ nI 3 by decide)) c_4)
      exact e_v hx hb hr hlk hst dX2_clear_42
    | succ n ih_lp0 =>
      intro i hi H locs hst ls hl
      refine lv_iload_n hx hb dX2_clear_2 rfl (lv_at hl 1 rfl) ?_
      refine lv_iconst (v := 3) hx hb dX2_clear_3 (by decide) ?_
      refine lv_icmp_ge (tgt := 42) hx hb dX2_clear_4 (by decide) (fun c_4 => absurd c_4 ((nI_ge (b := 3) (by omega) (by decide)))) (fun c_4 => ?_)
      refine lv_aload_n hx hb dX2_clear_7 rfl (lv_at hl 0 rfl) ?_
      refine w_getR am hst (k := 1) (b := ad (b + 5)) (by omega) (fun _ _ _ => cE_F hf) rfl inT2 (by decide) (fun _ _ _ => rfl) fRX2_16 dX2_clear_8 ?_
      refine lv_iload_n hx hb dX2_clear_11 rfl (lv_at hl 1 rfl) ?_
      refine lv_dconst0 hx hb dX2_clear_12 ?_
      refine w_dast am hst cn_k0 (by omega) (fun _ _ _ => cE_F5 hf) (n := i) (nI_clamp (by omega)) (vp_in_nI (by omega) (by decide)) dX2_clear_13 (fun H locs hst => ?_)
      refine lv_iconst (v := 0) hx hb dX2_clear_14 (by decide) ?_
      refine lv_istore_n (lv' := [(2, .int 0), (0, .ref (ad b)), (1, .int (nI i))]) hx hb dX2_clear_15 rfl hl (by decide) rfl (fun ls hl => ?_)
      have lp1 : ∀ (n j : Nat), n + j = 3 → ∀ (H : Heap) (locs : List Loc), St D cy ad s.heap I (cl1 b i (u2 (cl0 b G i) (b + 5) i 0) j) J H locs → ∀ ls, lv_has ls 3 [(0, .ref (ad b)), (1, .int (nI i)), (2, .int (nI j))] → W p l e (rmK 0 0 0 0) (s.setDrawn s.drawn) m [.ref (ad b)].toArray below meth cd H locs 0 0 (MQ below (qV D cy ad I (cl0 b G 3) J s.heap.size) [.ref (ad b)].toArray s ((rmK 0 0 0 0)).cells ((rmK 0 0 0 0)).slots (aA ad s.heap.size)) (F0 m 16 ls []) := by
        intro n
        induction n with
        | zero =>
          intro j hi H locs hst ls hl
          obtain rfl : 3 = j := by omega
          refine lv_iload_n hx hb dX2_clear_16 rfl (lv_at hl 2 rfl) ?_
          refine lv_iconst (v := 3) hx hb dX2_clear_17 (by decide) ?_
          refine lv_icmp_ge (tgt := 36) hx hb dX2_clear_18 (by decide) (fun c_18 => ?_) (fun c_18 => absurd ((show (3 : Int32) ≤ nI 3 by decide)) c_18)
          refine lv_iinc (v := nI (i + 1)) (lv' := [(1, .int (nI (i + 1))), (0, .ref (ad b)), (2, .int (nI 3))]) hx hb dX2_clear_36 hl (k := 1) rfl (nI_1 i) (by decide) rfl (fun ls hl => ?_)
          refine lv_goto (tgt := 2) hx hb dX2_clear_39 (by decide) ?_
          exact ih_lp0 (i + 1) (by omega) _ _ hst ls (lv_sub hl [1, 0] rfl)
        | succ n ih_lp1 =>
          intro j hi H locs hst ls hl
          refine lv_iload_n hx hb dX2_clear_16 rfl (lv_at hl 2 rfl) ?_
          refine lv_iconst (v := 3) hx hb dX2_clear_17 (by decide) ?_
          refine lv_icmp_ge (tgt := 36) hx hb dX2_clear_18 (by decide) (fun c_18 => absurd c_18 ((nI_ge (b := 3) (by omega) (by decide)))) (fun c_18 => ?_)
          refine lv_aload_n hx hb dX2_clear_21 rfl (lv_at hl 0 rfl) ?_
          refine w_getR am hst (k := 0) (b := ad (b + 1)) (by omega) (fun _ _ _ => cE_F hf) rfl inT2 (by decide) (fun _ _ _ => rfl) fRX2_11 dX2_clear_22 ?_
          refine lv_iload_n hx hb dX2_clear_25 rfl (lv_at hl 1 rfl) ?_
          refine w_aldA am hst hf (n := i) (nI_clamp (by omega)) (vp_in_nI (by omega) (by decide)) dX2_clear_26 ?_
          refine lv_iload_n hx hb dX2_clear_27 rfl (lv_at hl 2 rfl) ?_
          refine lv_dconst0 hx hb dX2_clear_28 ?_
          refine w_dast am hst cn_k0 (by omega) (fun _ _ _ => cE_Fr hf (by omega)) (n := j) (nI_clamp (by omega)) (vp_in_nI (by omega) (by decide)) dX2_clear_29 (fun H locs hst => ?_)
          refine lv_iinc (v := nI (j + 1)) (lv' := [(2, .int (nI (j + 1))), (0, .ref (ad b)), (1, .int (nI i))]) hx hb dX2_clear_30 hl (k := 2) rfl (nI_1 j) (by decide) rfl (fun ls hl => ?_)
          refine lv_goto (tgt := 16) hx hb dX2_clear_33 (by decide) ?_
          exact ih_lp1 (j + 1) (by omega) _ _ hst ls (lv_sub hl [1, 2, 0] rfl)
      exact lp1 3 0 (by omega) _ _ hst ls (lv_sub hl [1, 2, 0] rfl)
  exact lp0 3 0 (by omega) _ _ hst ls (lv_sub hl [1, 0] rfl)

set_option maxHeartbeats 4000000 in
set_option maxRecDepth 100000 in
theorem k_X2_add {l : Launch} {D : va_G} {cy ad : Nat → Nat} {I : Im} {G : Dm} {J : Jm} (hadI : adI ad) {b : Nat} (hf : b = 34 ∨ b = 41) {c : Nat} (hc : 2 ≤ c ∧ c < 34) : kD l yX2_add (.code yX2_add cX2_add 4 none) (rmK 2 0 0 41) D cy ad [.ref (ad b), .ref (ad c)] I G J (qV D cy ad I (ad0 b I c G 3) J) := by
  refine start_D hadI (by decide +kernel) (Nat.le_of_ble_eq_true rfl) ?_
  intro p e s m below meth cd am hx hb hr hlk hst ls hl d0 hd
  have hl : lv_has ls 4 [(0, .ref (ad b)), (1, .ref (ad c))] := hl
  refine lv_iconst (v := 0) hx hb dX2_add_0 (by decide) ?_
  refine lv_istore_n (lv' := [(2, .int 0), (0, .ref (ad b)), (1, .ref (ad c))]) hx hb dX2_add_1 rfl hl (by decide) rfl (fun ls hl => ?_)
  have lp0 : ∀ (n i : Nat), n + i = 3 → ∀ d0 : Drawn, s.drawn.sameBut d0 lw_cs → ∀ (H : Heap) (locs : List Loc), St D cy ad s.heap I (ad0 b I c G i) J H locs → ∀ ls, lv_has ls 4 [(0, .ref (ad b)), (1, .ref (ad c)), (2, .int (nI i))] → W p l e (rmK 2 0 0 41) (s.setDrawn d0) m [.ref (ad b), .ref (ad c)].toArray below meth cd H locs 0 0 (MQD lw_cs below (qV D cy ad I (ad0 b I c G 3) J s.heap.size) [.ref (ad b), .ref (ad c)].toArray s ((rmK 2 0 0 41)).cells ((rmK 2 0 0 41)).slots (aA ad s.heap.size)) (F0 m 2 ls []) := by
    intro n
    induction n with
    | zero =>
      intro i hi d0 hd H locs hst ls hl
      obtain rfl : 3 = i := by omega
      refine lv_iload_n hx hb dX2_add_2 rfl (lv_at hl 2 rfl) ?_
      refine lv_iconst (v := 3) hx hb dX2_add_3 (by decide) ?_
      refine lv_icmp_ge (tgt := 77) hx hb dX2_add_4 (by decide) (fun c_4 => ?_) (fun c_4 => absurd ((show (3 : Int32) ≤ nI 3 by decide)) c_4)
      exact e_vD hd hx hb hr hlk hst dX2_add_77
    | succ n ih_lp0 =>
      intro i hi d0 hd H locs hst ls hl
      refine lv_iload_n hx hb dX2_add_2 rfl (lv_at hl 2 rfl) ?_
      refine lv_iconst (v := 3) hx hb dX2_add_3 (by decide) ?_
      refine lv_icmp_ge (tgt := 77) hx hb dX2_add_4 (by decide) (fun c_4 => absurd c_4 ((nI_ge (b := 3) (by omega) (by decide)))) (fun c_4 => ?_)
      refine lv_aload_n hx hb dX2_add_7 rfl (lv_at hl 0 rfl) ?_
      refine w_getR am hst (k := 1) (b := ad (b + 5)) (by omega) (fun _ _ _ => cE_F hf) rfl inT2 (by decide) (fun _ _ _ => rfl) fRX2_16 dX2_add_8 ?_
      refine lv_iload_n hx hb dX2_add_11 rfl (lv_at hl 2 rfl) ?_
      refine lv_aload_n hx hb dX2_add_12 rfl (lv_at hl 0 rfl) ?_
      refine w_getR am hst (k := 1) (b := ad (b + 5)) (by omega) (fun _ _ _ => cE_F hf) rfl inT2 (by decide) (fun _ _ _ => rfl) fRX2_16 dX2_add_13 ?_
      refine lv_iload_n hx hb dX2_add_16 rfl (lv_at hl 2 rfl) ?_
      refine w_dald am hst (by omega) (fun _ _ _ => cE_F5 hf) (n := i) (nI_clamp (by omega)) (vp_in_nI (by omega) (by decide)) dX2_add_17 (fun x1 hx1 => ?_)
      refine lv_aload_n hx hb dX2_add_18 rfl (lv_at hl 1 rfl) ?_
      refine lv_iload_n hx hb dX2_add_19 rfl (lv_at hl 2 rfl) ?_
      refine c_dD hd hst (r_ND (As := [.int (nI i)]) (rest := [.double x1, .int (nI i), .ref (ad (b + 5))]) am hst hl (k_X0_term hadI hc (i := i) (by omega)) kRX2_43 imX0_term slX0_term ⟨Nat.le_of_ble_eq_true rfl, Nat.le_of_ble_eq_true rfl⟩ (by omega) (fun _ _ _ => cE_B hc) rfl rfl rfl (Nat.le_of_ble_eq_true rfl) dX2_add_20 ⟨Nat.le_of_ble_eq_true rfl, Nat.le_of_ble_eq_true rfl⟩) (fun x2 d0 H locs hx2 hd hst => ?_)
      refine lv_aload_n hx hb dX2_add_23 rfl (lv_at hl 1 rfl) ?_
      refine w_getDN am hst (k := 4) (by omega) (fun _ _ _ => cE_B hc) rfl inT0 (by decide) (fun _ _ _ => rfl) fRX2_47 dX2_add_24 (fun x3 hx3 => ?_)
      refine w_dmul hd hx hb hx2 hx3 dX2_add_27 (fun x4 d0 hx4 hd => ?_)
      refine w_dadd hd hx hb hx1 hx4 dX2_add_28 (fun x5 d0 hx5 hd => ?_)
      refine w_dast am hst hx5 (by omega) (fun _ _ _ => cE_F5 hf) (n := i) (nI_clamp (by omega)) (vp_in_nI (by omega) (by decide)) dX2_add_29 (fun H locs hst => ?_)
      refine lv_iconst (v := 0) hx hb dX2_add_30 (by decide) ?_
      refine lv_istore_n (lv' := [(3, .int 0), (0, .ref (ad b)), (1, .ref (ad c)), (2, .int (nI i))]) hx hb dX2_add_31 rfl hl (by decide) rfl (fun ls hl => ?_)
      have lp1 : ∀ (n j : Nat), n + j = 3 → ∀ d0 : Drawn, s.drawn.sameBut d0 lw_cs → ∀ (H : Heap) (locs : List Loc), St D cy ad s.heap I (ad1 b I c i (u2 (ad0 b I c G i) (b + 5) i (Ad (ad0 b I c G i (b + 5) i) (Mu (dTerm I (ad0 b I c G i) c i) (ad0 b I c G i c 4)))) j) J H locs → ∀ ls, lv_has ls 4 [(0, .ref (ad b)), (1, .ref (ad c)), (2, .int (nI i)), (3, .int (nI j))] → W p l e (rmK 2 0 0 41) (s.setDrawn d0) m [.ref (ad b), .ref (ad c)].toArray below meth cd H locs 0 0 (MQD lw_cs below (qV D cy ad I (ad0 b I c G 3) J s.heap.size) [.ref (ad b), .ref (ad c)].toArray s ((rmK 2 0 0 41)).cells ((rmK 2 0 0 41)).slots (aA ad s.heap.size)) (F0 m 32 ls []) := by
        intro n
        induction n with
        | zero =>
          intro j hi d0 hd H locs hst ls hl
          obtain rfl : 3 = j := by omega
          refine lv_iload_n hx hb dX2_add_32 rfl (lv_at hl 3 rfl) ?_
          refine lv_iconst (v := 3) hx hb dX2_add_33 (by decide) ?_
          refine lv_icmp_ge (tgt := 71) hx hb dX2_add_34 (by decide) (fun c_34 => ?_) (fun c_34 => absurd ((show (3 : Int32) ≤ nI 3 by decide)) c_34)
          refine lv_iinc (v := nI (i + 1)) (lv' := [(2, .int (nI (i + 1))), (0, .ref (ad b)), (1, .ref (ad c)), (3, .int (nI 3))]) hx hb dX2_add_71 hl (k := 2) rfl (nI_1 i) (by decide) rfl (fun ls hl => ?_)
          refine lv_goto (tgt := 2) hx hb dX2_add_74 (by decide) ?_
          exact ih_lp0 (i + 1) (by omega) d0 hd _ _ hst ls (lv_sub hl [1, 2, 0] rfl)
        | succ n ih_lp1 =>
          intro j hi d0 hd H locs hst ls hl
          refine lv_iload_n hx hb dX2_add_32 rfl (lv_at hl 3 rfl) ?_
          refine lv_iconst (v := 3) hx hb dX2_add_33 (by decide) ?_
          refine lv_icmp_ge (tgt := 71) hx hb dX2_add_34 (by decide) (fun c_34 => absurd c_34 ((nI_ge (b := 3) (by omega) (by decide)))) (fun c_34 => ?_)
          refine lv_aload_n hx hb dX2_add_37 rfl (lv_at hl 0 rfl) ?_
          refine w_getR am hst (k := 0) (b := ad (b + 1)) (by omega) (fun _ _ _ => cE_F hf) rfl inT2 (by decide) (fun _ _ _ => rfl) fRX2_11 dX2_add_38 ?_
          refine lv_iload_n hx hb dX2_add_41 rfl (lv_at hl 2 rfl) ?_
          refine w_aldA am hst hf (n := i) (nI_clamp (by omega)) (vp_in_nI (by omega) (by decide)) dX2_add_42 ?_
          refine lv_iload_n hx hb dX2_add_43 rfl (lv_at hl 3 rfl) ?_
          refine lv_aload_n hx hb dX2_add_44 rfl (lv_at hl 0 rfl) ?_
          refine w_getR am hst (k := 0) (b := ad (b + 1)) (by omega) (fun _ _ _ => cE_F hf) rfl inT2 (by decide) (fun _ _ _ => rfl) fRX2_11 dX2_add_45 ?_
          refine lv_iload_n hx hb dX2_add_48 rfl (lv_at hl 2 rfl) ?_
          refine w_aldA am hst hf (n := i) (nI_clamp (by omega)) (vp_in_nI (by omega) (by decide)) dX2_add_49 ?_
          refine lv_iload_n hx hb dX2_add_50 rfl (lv_at hl 3 rfl) ?_
          refine w_dald am hst (by omega) (fun _ _ _ => cE_Fr hf (by omega)) (n := j) (nI_clamp (by omega)) (vp_in_nI (by omega) (by decide)) dX2_add_51 (fun x6 hx6 => ?_)
          refine lv_aload_n hx hb dX2_add_52 rfl (lv_at hl 1 rfl) ?_
          refine lv_iload_n hx hb dX2_add_53 rfl (lv_at hl 2 rfl) ?_
          refine c_dD hd hst (r_ND (As := [.int (nI i)]) (rest := [.double x6, .int (nI j), .ref (ad (b + 1 + 1 + i))]) am hst hl (k_X0_term hadI hc (i := i) (by omega)) kRX2_43 imX0_term slX0_term ⟨Nat.le_of_ble_eq_true rfl, Nat.le_of_ble_eq_true rfl⟩ (by omega) (fun _ _ _ => cE_B hc) rfl rfl rfl (Nat.le_of_ble_eq_true rfl) dX2_add_54 ⟨Nat.le_of_ble_eq_true rfl, Nat.le_of_ble_eq_true rfl⟩) (fun x7 d0 H locs hx7 hd hst => ?_)
          refine lv_aload_n hx hb dX2_add_57 rfl (lv_at hl 1 rfl) ?_
          refine lv_iload_n hx hb dX2_add_58 rfl (lv_at hl 3 rfl) ?_
          refine c_dD hd hst (r_ND (As := [.int (nI j)]) (rest := [.double x7, .double x6, .int (nI j), .ref (ad (b + 1 + 1 + i))]) am hst hl (k_X0_term hadI hc (i := j) (by omega)) kRX2_43 imX0_term slX0_term ⟨Nat.le_of_ble_eq_true rfl, Nat.le_of_ble_eq_true rfl⟩ (by omega) (fun _ _ _ => cE_B hc) rfl rfl rfl (Nat.le_of_ble_eq_true rfl) dX2_add_59 ⟨Nat.le_of_ble_eq_true rfl, Nat.le_of_ble_eq_true rfl⟩) (fun x8 d0 H locs hx8 hd hst => ?_)
          refine w_dmul hd hx hb hx7 hx8 dX2_add_62 (fun x9 d0 hx9 hd => ?_)
          refine w_dadd hd hx hb hx6 hx9 dX2_add_63 (fun x10 d0 hx10 hd => ?_)
          refine w_dast am hst hx10 (by omega) (fun _ _ _ => cE_Fr hf (by omega)) (n := j) (nI_clamp (by omega)) (vp_in_nI (by omega) (by decide)) dX2_add_64 (fun H locs hst => ?_)
          refine lv_iinc (v := nI (j + 1)) (lv' := [(3, .int (nI (j + 1))), (0, .ref (ad b)), (1, .ref (ad c)), (2, .int (nI i))]) hx hb dX2_add_65 hl (k := 3) rfl (nI_1 j) (by decide) rfl (fun ls hl => ?_)
          refine lv_goto (tgt := 32) hx hb dX2_add_68 (by decide) ?_
          exact ih_lp1 (j + 1) (by omega) d0 hd _ _ hst ls (lv_sub hl [1, 2, 3, 0] rfl)
      exact lp1 3 0 (by omega) d0 hd _ _ hst ls (lv_sub hl [1, 2, 3, 0] rfl)
  exact lp0 3 0 (by omega) d0 hd _ _ hst ls (lv_sub hl [1, 2, 0] rfl)

set_option maxHeartbeats 4000000 in
set_option maxRecDepth 100000 in
theorem k_X2_isPassedOver {l : Launch} {D : va_G} {cy ad : Nat → Nat} {I : Im} {G : Dm} {J : Jm} (hadI : adI ad) {b : Nat} (hf : b = 34 ∨ b = 41) {k : Nat} (hk : k < 3) : kM l yX2_isPassedOver (.code yX2_isPassedOver cX2_isPassedOver 6 (some .boolean)) (rmK 0 0 0 0) D cy ad [.ref (ad b), .int (nI k)] I G J (qI D cy ad (zB (pvO (G (b + 1 + 1 + k) k))) I G J) := by
  refine start_M hadI (by decide +kernel) (Nat.le_of_ble_eq_true rfl) ?_
  intro p e s m below meth cd am hx hb hr hlk hst ls hl
  have hl : lv_has ls 6 [(0, .ref (ad b)), (1, .int (nI k))] := hl
  refine lv_aload_n hx hb dX2_isPassedOver_0 rfl (lv_at hl 0 rfl) ?_
  refine w_getR am hst (k := 0) (b := ad (b + 1)) (by omega) (fun _ _ _ => cE_F hf) rfl inT2 (by decide) (fun _ _ _ => rfl) fRX2_11 dX2_isPassedOver_1 ?_
  refine lv_iload_n hx hb dX2_isPassedOver_4 rfl (lv_at hl 1 rfl) ?_
  refine w_aldA am hst hf (n := k) (nI_clamp (by omega)) (vp_in_nI (by omega) (by decide)) dX2_isPassedOver_5 ?_
  refine lv_iload_n hx hb dX2_isPassedOver_6 rfl (lv_at hl 1 rfl) ?_
  refine w_dald am hst (by omega) (fun _ _ _ => cE_Fr hf (by omega)) (n := k) (nI_clamp (by omega)) (vp_in_nI (by omega) (by decide)) dX2_isPassedOver_7 (fun x1 hx1 => ?_)
  refine lv_dstore_n (lv' := [(2, .double x1), (0, .ref (ad b)), (1, .int (nI k))]) hx hb dX2_isPassedOver_8 rfl hl (by decide) rfl (fun ls hl => ?_)
  refine lv_dload_n hx hb dX2_isPassedOver_9 rfl (lv_at hl 0 rfl) ?_
  refine lv_dconst0 hx hb dX2_isPassedOver_10 ?_
  refine w_dcmp hx hb hx1 cn_k0 dX2_isPassedOver_11 ?_
  refine lv_if_ge (tgt := 20) hx hb dX2_isPassedOver_12 (by decide) (fun c_12 => ?_) (fun c_12 => ?_)
  · skip
    refine lv_dload_n hx hb dX2_isPassedOver_20 rfl (lv_at hl 0 rfl) ?_
    refine lv_dstore (lv' := [(4, .double x1), (2, .double x1), (0, .ref (ad b)), (1, .int (nI k))]) hx hb dX2_isPassedOver_21 hl (by decide) rfl (fun ls hl => ?_)
    refine lv_dload hx hb dX2_isPassedOver_23 (lv_at hl 0 rfl) ?_
    refine lv_ldc2d hx hb am.2.2.2.1 (amT am _ wRX2_59) dX2_isPassedOver_25 ?_
    refine w_dcmp hx hb hx1 cn_k4517110426252607488 dX2_isPassedOver_28 ?_
    refine lv_if_ge (tgt := 36) hx hb dX2_isPassedOver_29 (by decide) (fun c_29 => ?_) (fun c_29 => ?_)
    · skip
      refine lv_iconst (v := 0) hx hb dX2_isPassedOver_36 (by decide) ?_
      exact e_i hx hb hr hlk hst rfl (by simp only [pvO, pvS, zB, c_12, c_29, not_true_eq_false, not_false_eq_true, decide_true, decide_false, Bool.true_and, Bool.false_and, Bool.and_true, Bool.and_false, Bool.and_self, if_true, if_false, ite_true, ite_false, reduceIte, Bool.false_eq_true]) dX2_isPassedOver_37
    · skip
      refine lv_iconst (v := 1) hx hb dX2_isPassedOver_32 (by decide) ?_
      refine lv_goto (tgt := 37) hx hb dX2_isPassedOver_33 (by decide) ?_
      exact e_i hx hb hr hlk hst rfl (by simp only [pvO, pvS, zB, c_12, c_29, not_true_eq_false, not_false_eq_true, decide_true, decide_false, Bool.true_and, Bool.false_and, Bool.and_true, Bool.and_false, Bool.and_self, if_true, if_false, ite_true, ite_false, reduceIte, Bool.false_eq_true]) dX2_isPassedOver_37
  · skip
    refine lv_dload_n hx hb dX2_isPassedOver_15 rfl (lv_at hl 0 rfl) ?_
    refine w_dneg hx hb hx1 dX2_isPassedOver_16 (fun x2 hx2 => ?_)
    refine lv_goto (tgt := 21) hx hb dX2_isPassedOver_17 (by decide) ?_
    refine lv_dstore (lv' := [(4, .double x2), (2, .double x1), (0, .ref (ad b)), (1, .int (nI k))]) hx hb dX2_isPassedOver_21 hl (by decide) rfl (fun ls hl => ?_)
    refine lv_dload hx hb dX2_isPassedOver_23 (lv_at hl 0 rfl) ?_
    refine lv_ldc2d hx hb am.2.2.2.1 (amT am _ wRX2_59) dX2_isPassedOver_25 ?_
    refine w_dcmp hx hb hx2 cn_k4517110426252607488 dX2_isPassedOver_28 ?_
    refine lv_if_ge (tgt := 36) hx hb dX2_isPassedOver_29 (by decide) (fun c_29 => ?_) (fun c_29 => ?_)
    · skip
      refine lv_iconst (v := 0) hx hb dX2_isPassedOver_36 (by decide) ?_
      exact e_i hx hb hr hlk hst rfl (by simp only [pvO, pvS, zB, c_12, c_29, not_true_eq_false, not_false_eq_true, decide_true, decide_false, Bool.true_and, Bool.false_and, Bool.and_true, Bool.and_false, Bool.and_self, if_true, if_false, ite_true, ite_false, reduceIte, Bool.false_eq_true]) dX2_isPassedOver_37
    · skip
      refine lv_iconst (v := 1) hx hb dX2_isPassedOver_32 (by decide) ?_
      refine lv_goto (tgt := 37) hx hb dX2_isPassedOver_33 (by decide) ?_
      exact e_i hx hb hr hlk hst rfl (by simp only [pvO, pvS, zB, c_12, c_29, not_true_eq_false, not_false_eq_true, decide_true, decide_false, Bool.true_and, Bool.false_and, Bool.and_true, Bool.and_false, Bool.and_self, if_true, if_false, ite_true, ite_false, reduceIte, Bool.false_eq_true]) dX2_isPassedOver_37

set_option maxHeartbeats 4000000 in
set_option maxRecDepth 100000 in
theorem k_X2_lessen {l : Launch} {D : va_G} {cy ad : Nat → Nat} {I : Im} {G : Dm} {J : Jm} (hadI : adI ad) {b : Nat} (hf : b = 34 ∨ b = 41) {r c : Nat} {y f : UInt64} (hr3 : r < 3) (hc3 : c < 3) (hy : cn y = f) : kD l yX2_lessen (.code yX2_lessen cX2_lessen 6 none) (rmK 0 0 0 0) D cy ad [.ref (ad b), .int (nI r), .int (nI c), .double y] I G J (qV D cy ad I (le0 b r c f G) J) := by
  refine start_D hadI (by decide +kernel) (Nat.le_of_ble_eq_true rfl) ?_
  intro p e s m below meth cd am hx hb hr hlk hst ls hl d0 hd
  have hl : lv_has ls 6 [(0, .ref (ad b)), (1, .int (nI r)), (2, .int (nI c)), (3, .double y)] := hl
  refine lv_iload_n hx hb dX2_lessen_0 rfl (lv_at hl 2 rfl) ?_
  refine lv_istore (lv' := [(5, .int (nI c)), (0, .ref (ad b)), (1, .int (nI r)), (2, .int (nI c)), (3, .double y)]) hx hb dX2_lessen_1 hl (by decide) rfl (fun ls hl => ?_)
  have lp0 : ∀ (n k : Nat), n + k = 3 - c → ∀ d0 : Drawn, s.drawn.sameBut d0 lw_cs → ∀ (H : Heap) (locs : List Loc), St D cy ad s.heap I (le1 b r c f G k) J H locs → ∀ ls, lv_has ls 6 [(0, .ref (ad b)), (1, .int (nI r)), (2, .int (nI c)), (3, .double y), (5, .int (nI (c + (k))))] → W p l e (rmK 0 0 0 0) (s.setDrawn d0) m [.ref (ad b), .int (nI r), .int (nI c), .double y].toArray below meth cd H locs 0 0 (MQD lw_cs below (qV D cy ad I (le0 b r c f G) J s.heap.size) [.ref (ad b), .int (nI r), .int (nI c), .double y].toArray s ((rmK 0 0 0 0)).cells ((rmK 0 0 0 0)).slots (aA ad s.heap.size)) (F0 m 3 ls []) := by
    intro n
    induction n with
    | zero =>
      intro k hi d0 hd H locs hst ls hl
      obtain rfl : 3 - c = k := by omega
      refine lv_iload hx hb dX2_lessen_3 (lv_at hl 4 rfl) ?_
      refine lv_iconst (v := 3) hx hb dX2_lessen_5 (by decide) ?_
      refine lv_icmp_ge (tgt := 45) hx hb dX2_lessen_6 (by decide) (fun c_6 => ?_) (fun c_6 => absurd ((show (3 : Int32) ≤ nI (c + (3 - c)) by rw [show c + (3 - c) = 3 by omega]; decide)) c_6)
      refine lv_aload_n hx hb dX2_lessen_45 rfl (lv_at hl 0 rfl) ?_
      refine w_getR am hst (k := 1) (b := ad (b + 5)) (by omega) (fun _ _ _ => cE_F hf) rfl inT2 (by decide) (fun _ _ _ => rfl) fRX2_16 dX2_lessen_46 ?_
      refine lv_iload_n hx hb dX2_lessen_49 rfl (lv_at hl 1 rfl) ?_
      refine lv_aload_n hx hb dX2_lessen_50 rfl (lv_at hl 0 rfl) ?_
      refine w_getR am hst (k := 1) (b := ad (b + 5)) (by omega) (fun _ _ _ => cE_F hf) rfl inT2 (by decide) (fun _ _ _ => rfl) fRX2_16 dX2_lessen_51 ?_
      refine lv_iload_n hx hb dX2_lessen_54 rfl (lv_at hl 1 rfl) ?_
      refine w_dald am hst (by omega) (fun _ _ _ => cE_F5 hf) (n := r) (nI_clamp (by omega)) (vp_in_nI (by omega) (by decide)) dX2_lessen_55 (fun x1 hx1 => ?_)
      refine lv_dload_n hx hb dX2_lessen_56 rfl (lv_at hl 3 rfl) ?_
      refine lv_aload_n hx hb dX2_lessen_57 rfl (lv_at hl 0 rfl) ?_
      refine w_getR am hst (k := 1) (b := ad (b + 5)) (by omega) (fun _ _ _ => cE_F hf) rfl inT2 (by decide) (fun _ _ _ => rfl) fRX2_16 dX2_lessen_58 ?_
      refine lv_iload_n hx hb dX2_lessen_61 rfl (lv_at hl 2 rfl) ?_
      refine w_dald am hst (by omega) (fun _ _ _ => cE_F5 hf) (n := c) (nI_clamp (by omega)) (vp_in_nI (by omega) (by decide)) dX2_lessen_62 (fun x2 hx2 => ?_)
      refine w_dmul hd hx hb hy hx2 dX2_lessen_63 (fun x3 d0 hx3 hd => ?_)
      refine w_dsub hd hx hb hx1 hx3 dX2_lessen_64 (fun x4 d0 hx4 hd => ?_)
      refine w_dast am hst hx4 (by omega) (fun _ _ _ => cE_F5 hf) (n := r) (nI_clamp (by omega)) (vp_in_nI (by omega) (by decide)) dX2_lessen_65 (fun H locs hst => ?_)
      exact e_vD hd hx hb hr hlk hst dX2_lessen_66
    | succ n ih_lp0 =>
      intro k hi d0 hd H locs hst ls hl
      refine lv_iload hx hb dX2_lessen_3 (lv_at hl 4 rfl) ?_
      refine lv_iconst (v := 3) hx hb dX2_lessen_5 (by decide) ?_
      refine lv_icmp_ge (tgt := 45) hx hb dX2_lessen_6 (by decide) (fun c_6 => absurd c_6 ((nI_ge (b := 3) (by omega) (by decide)))) (fun c_6 => ?_)
      refine lv_aload_n hx hb dX2_lessen_9 rfl (lv_at hl 0 rfl) ?_
      refine w_getR am hst (k := 0) (b := ad (b + 1)) (by omega) (fun _ _ _ => cE_F hf) rfl inT2 (by decide) (fun _ _ _ => rfl) fRX2_11 dX2_lessen_10 ?_
      refine lv_iload_n hx hb dX2_lessen_13 rfl (lv_at hl 1 rfl) ?_
      refine w_aldA am hst hf (n := r) (nI_clamp (by omega)) (vp_in_nI (by omega) (by decide)) dX2_lessen_14 ?_
      refine lv_iload hx hb dX2_lessen_15 (lv_at hl 4 rfl) ?_
      refine lv_aload_n hx hb dX2_lessen_17 rfl (lv_at hl 0 rfl) ?_
      refine w_getR am hst (k := 0) (b := ad (b + 1)) (by omega) (fun _ _ _ => cE_F hf) rfl inT2 (by decide) (fun _ _ _ => rfl) fRX2_11 dX2_lessen_18 ?_
      refine lv_iload_n hx hb dX2_lessen_21 rfl (lv_at hl 1 rfl) ?_
      refine w_aldA am hst hf (n := r) (nI_clamp (by omega)) (vp_in_nI (by omega) (by decide)) dX2_lessen_22 ?_
      refine lv_iload hx hb dX2_lessen_23 (lv_at hl 4 rfl) ?_
      refine w_dald am hst (by omega) (fun _ _ _ => cE_Fr hf (by omega)) (n := c + (k)) (nI_clamp (by omega)) (vp_in_nI (by omega) (by decide)) dX2_lessen_25 (fun x5 hx5 => ?_)
      refine lv_dload_n hx hb dX2_lessen_26 rfl (lv_at hl 3 rfl) ?_
      refine lv_aload_n hx hb dX2_lessen_27 rfl (lv_at hl 0 rfl) ?_
      refine w_getR am hst (k := 0) (b := ad (b + 1)) (by omega) (fun _ _ _ => cE_F hf) rfl inT2 (by decide) (fun _ _ _ => rfl) fRX2_11 dX2_lessen_28 ?_
      refine lv_iload_n hx hb dX2_lessen_31 rfl (lv_at hl 2 rfl) ?_
      refine w_aldA am hst hf (n := c) (nI_clamp (by omega)) (vp_in_nI (by omega) (by decide)) dX2_lessen_32 ?_
      refine lv_iload hx hb dX2_lessen_33 (lv_at hl 4 rfl) ?_
      refine w_dald am hst (by omega) (fun _ _ _ => cE_Fr hf (by omega)) (n := c + (k)) (nI_clamp (by omega)) (vp_in_nI (by omega) (by decide)) dX2_lessen_35 (fun x6 hx6 => ?_)
      refine w_dmul hd hx hb hy hx6 dX2_lessen_36 (fun x7 d0 hx7 hd => ?_)
      refine w_dsub hd hx hb hx5 hx7 dX2_lessen_37 (fun x8 d0 hx8 hd => ?_)
      refine w_dast am hst hx8 (by omega) (fun _ _ _ => cE_Fr hf (by omega)) (n := c + (k)) (nI_clamp (by omega)) (vp_in_nI (by omega) (by decide)) dX2_lessen_38 (fun H locs hst => ?_)
      refine lv_iinc (v := nI (c + (k) + 1)) (lv' := [(5, .int (nI (c + (k) + 1))), (0, .ref (ad b)), (1, .int (nI r)), (2, .int (nI c)), (3, .double y)]) hx hb dX2_lessen_39 hl (k := 4) rfl (nI_1 (c + (k))) (by decide) rfl (fun ls hl => ?_)
      refine lv_goto (tgt := 3) hx hb dX2_lessen_42 (by decide) ?_
      exact ih_lp0 (k + 1) (by omega) d0 hd _ _ hst ls (lv_sub hl [1, 2, 3, 4, 0] rfl)
  exact lp0 (3 - c) 0 (by omega) d0 hd _ _ hst ls (lv_sub hl [1, 2, 3, 4, 0] rfl)

