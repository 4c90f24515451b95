/-! the law's loop -/
theorem and31 (x : Int32) : ∃ m, m < 32 ∧ x &&& 31 = nI m := by
  refine ⟨x.toBitVec.toNat % 32, Nat.mod_lt _ (by decide), ?_⟩
  have e : x = nI x.toBitVec.toNat := Int32.toBitVec_inj.mp (by
    show x.toBitVec = BitVec.ofNat 32 x.toBitVec.toNat
    simp)
  have e2 : x &&& 31 = nI x.toBitVec.toNat &&& nI 31 := congrArg (fun y => y &&& 31) e
  rw [e2, xI_and, show (31 : Nat) = 2 ^ 5 - 1 from rfl, Nat.and_two_pow_sub_one_eq_mod]
theorem lp_cmp {L i : Nat} (hL : L ≤ 3073) (hi : i ≤ 100000) : nI L - 6 < nI i ↔ L < i + 6 := by
  rw [show (6 : Int32) = nI 6 from rfl, Int32.lt_iff_toInt_lt, pk_sub_toInt (by omega) (by omega), nI_toInt (by omega)]
  omega
set_option maxHeartbeats 4000000 in
set_option maxRecDepth 100000 in
theorem law_loop {p : Program} {l : Launch} {e : Env} {s : State} {m : MethodId} {args : Array Value} {below : List Frame} {meth : Method} {c : Code} {Q : State → Prop} {D : va_G} {cy ad : Nat → Nat} {ba L : Nat} {xs : Nat → Int32} (am : Amb p s m args c cL_law 9 RL D cy ad) (hN : nC s) (hx : p.tables.exec = Jvm.exec) (hb : c.code = cL_law) (hX : va_X ba L xs s s.heap) (hbl : ba < s.heap.size) (hbA : ¬ aA ad s.heap.size ba) (hL : L ≤ 3073) (hno : l.stackTraces = false)
    (hexit : ∀ (d0 : Drawn) (H : Heap) (locs : List Loc) (ls : Array Slot) (cells slots : Nat) (I : Im) (G : Dm) (J : Jm), s.drawn.sameBut d0 lw_cs → St D cy ad s.heap I G J H locs → cells ≤ 601024 → slots ≤ 7293000 → W p l e room_1 (s.setDrawn d0) m args below meth c H locs cells slots Q (F0 m 1409 ls [.int 1])) :
    ∀ (n k : Nat), L < 1 + 6 * k + 6 * (n + 1) → ∀ (cells slots : Nat), cells + (n + 1) ≤ 601024 ∧ slots + 6 * (n + 1) ≤ 7293000 → ∀ (d0 : Drawn) (H : Heap) (locs : List Loc) (ls : Array Slot) (I : Im) (G : Dm) (J : Jm), s.drawn.sameBut d0 lw_cs → St D cy ad s.heap I G J H locs → Rel I G J k → k < 8000 → lv_has ls 9 [(0, .ref ba), (1, .ref (ad 0)), (2, .ref (ad 53)), (3, .ref (ad 70)), (4, .ref (ad 71)), (5, .int (nI (1 + 6 * k)))] →
      W p l e room_1 (s.setDrawn d0) m args below meth c H locs cells slots Q (F0 m 38 ls []) := by
  have hadI := am.2.2.2.2.2.2.1
  have hlen : Int32.ofNat L = nI L := rfl
  intro n
  induction n with
  | zero =>
    intro k hk cells slots hcs d0 H locs ls I G J hd hst hR hk8 hl
    refine lv_iload hx hb dL_law_38 (lv_at hl 5 rfl) ?_
    refine lv_aload_n hx hb dL_law_40 rfl (lv_at hl 0 rfl) ?_
    refine va_slen (s := s.setDrawn d0) hx hb (va_X.moved (Vm.Alike.refl s.vm) hX) hbl hbA hst.2 dL_law_41 ?_
    rw [hlen]
    refine lv_bipush (v := 6) hx hb dL_law_42 (by decide) ?_
    refine lv_isub hx hb dL_law_44 ?_
    refine lv_icmp_gt (tgt := 1408) hx hb dL_law_45 (by decide) (fun _ => ?_) (fun z => absurd ((lp_cmp hL (by omega)).mpr (by omega)) z)
    refine lv_iconst (v := 1) hx hb dL_law_1408 (by decide) ?_
    exact hexit d0 H locs ls cells slots I G J hd hst (by omega) (by omega)
  | succ n ih =>
    intro k hk cells slots hcs d0 H locs ls I G J hd hst hR hk8 hl
    refine lv_iload hx hb dL_law_38 (lv_at hl 5 rfl) ?_
    refine lv_aload_n hx hb dL_law_40 rfl (lv_at hl 0 rfl) ?_
    refine va_slen (s := s.setDrawn d0) hx hb (va_X.moved (Vm.Alike.refl s.vm) hX) hbl hbA hst.2 dL_law_41 ?_
    rw [hlen]
    refine lv_bipush (v := 6) hx hb dL_law_42 (by decide) ?_
    refine lv_isub hx hb dL_law_44 ?_
    by_cases hgo : L < 1 + 6 * k + 6
    · skip
      refine lv_icmp_gt (tgt := 1408) hx hb dL_law_45 (by decide) (fun _ => ?_) (fun z => absurd ((lp_cmp hL (by omega)).mpr (by omega)) z)
      refine lv_iconst (v := 1) hx hb dL_law_1408 (by decide) ?_
      exact hexit d0 H locs ls cells slots I G J hd hst (by omega) (by omega)
    have hi : 1 + 6 * k + 6 ≤ L := by omega
    refine lv_icmp_gt (tgt := 1408) hx hb dL_law_45 (by decide) (fun z => absurd ((lp_cmp hL (by omega)).mp z) (by omega)) (fun _ => ?_)
    have htail : ∀ (d1 : Drawn) (H1 : Heap) (locs1 : List Loc) (ls1 : Array Slot) (I2 : Im) (G2 : Dm) (J1 : Jm), Rel I2 G2 J1 (k + 1) → s.drawn.sameBut d1 lw_cs → St D cy ad s.heap I2 G2 J1 H1 locs1 → lv_has ls1 9 [(0, .ref ba), (1, .ref (ad 0)), (2, .ref (ad 53)), (3, .ref (ad 70)), (4, .ref (ad 71)), (5, .int (nI (1 + 6 * k)))] → W p l e room_1 (s.setDrawn d1) m args below meth c H1 locs1 (cells + 1) (slots + 6) Q (F0 m 1402 ls1 []) := by
      intro d1 H1 locs1 ls1 I2 G2 J1 hR1 hd1 hst1 hl1
      refine lv_iinc (v := nI (1 + 6 * (k + 1))) (lv' := [(5, .int (nI (1 + 6 * (k + 1)))), (0, .ref ba), (1, .ref (ad 0)), (2, .ref (ad 53)), (3, .ref (ad 70)), (4, .ref (ad 71))]) hx hb dL_law_1402 hl1 (k := 5) rfl (nI_s (1 + 6 * k) 6) (by decide) rfl (fun ls hl => ?_)
      refine lv_goto (tgt := 38) hx hb dL_law_1405 (by decide) ?_
      exact ih (k + 1) (by omega) (cells + 1) (slots + 6) ⟨by omega, by omega⟩ d1 H1 locs1 ls I2 G2 J1 hd1 hst1 hR1 (by omega) (lv_sub hl [1, 2, 3, 4, 5, 0] rfl)
    have hcl : cells + 1 ≤ 601024 ∧ slots + 6 ≤ 7293000 := ⟨by omega, by omega⟩
    refine lv_aload_n hx hb dL_law_48 rfl (lv_at hl 0 rfl) ?_
    refine lv_iload hx hb dL_law_49 (lv_at hl 5 rfl) ?_
    refine w_scr hx hb hX hbl hbA hst (j := 1 + 6 * k) (by omega) hL dL_law_51 ?_
    refine lv_bipush (v := 31) hx hb dL_law_52 (by decide) ?_
    refine lv_iand hx hb dL_law_54 ?_
    obtain ⟨q, hq, eq⟩ := and31 (xs (1 + 6 * k))
    rw [eq]
    rcases Nat.lt_or_ge q 19 with q19 | q19
    · rcases (show q = 0 ∨ q = 1 ∨ q = 2 ∨ q = 3 ∨ q = 4 ∨ q = 5 ∨ q = 6 ∨ q = 7 ∨ q = 8 ∨ q = 9 ∨ q = 10 ∨ q = 11 ∨ q = 12 ∨ q = 13 ∨ q = 14 ∨ q = 15 ∨ q = 16 ∨ q = 17 ∨ q = 18 by omega) with rfl | rfl | rfl | rfl | rfl | rfl | rfl | rfl | rfl | rfl | rfl | rfl | rfl | rfl | rfl | rfl | rfl | rfl | rfl
      · refine lv_tableIn (off := 89) (tgt := 144) hx hb dL_law_55 (by decide) (by decide) rfl (by decide) ?_
        obtain ⟨code1, b0, I1, G1, J1, I2, G2, hW, hM, ht, he, hR1⟩ := op_board hno hadI hR (by omega) 
        exact ch_board am hN hx hb hX hbl hbA hi hL hd hst hl hcl hW hM ht he (fun d1 H1 locs1 ls1 a1 a2 a3 => htail d1 H1 locs1 ls1 I2 G2 J1 hR1 a1 a2 a3)
      · refine lv_tableIn (off := 133) (tgt := 188) hx hb dL_law_55 (by decide) (by decide) rfl (by decide) ?_
        obtain ⟨code1, b0, I1, G1, J1, I2, G2, hW, hM, ht, he, hR1⟩ := op_row hno hadI hR (by omega) (xs (1 + 6 * k + 1)) (Mu (FP.i2d (xs (1 + 6 * k + 2))) 4593671619917905920)
        exact ch_row am hN hx hb hX hbl hbA hi hL hd hst hl hcl hW hM ht he (fun d1 H1 locs1 ls1 a1 a2 a3 => htail d1 H1 locs1 ls1 I2 G2 J1 hR1 a1 a2 a3)
      · refine lv_tableIn (off := 211) (tgt := 266) hx hb dL_law_55 (by decide) (by decide) rfl (by decide) ?_
        obtain ⟨code1, I1, G1, J1, I2, G2, hW, hM, ht, hR1⟩ := op_echo hno hadI hR (by omega) (xs (1 + 6 * k + 1)) (Mu (FP.i2d (xs (1 + 6 * k + 2))) 4593671619917905920) (Mu (FP.i2d (xs (1 + 6 * k + 3))) 4593671619917905920)
        exact ch_echo am hN hx hb hX hbl hbA hi hL hd hst hl hcl hW hM ht (fun d1 H1 locs1 ls1 a1 a2 a3 => htail d1 H1 locs1 ls1 I2 G2 J1 hR1 a1 a2 a3)
      · refine lv_tableIn (off := 291) (tgt := 346) hx hb dL_law_55 (by decide) (by decide) rfl (by decide) ?_
        obtain ⟨code1, I1, G1, J1, I2, G2, hW, hM, ht, hR1⟩ := op_knots hno hadI hR (by omega) (xs (1 + 6 * k + 1)) (Mu (FP.i2d (xs (1 + 6 * k + 2))) 4593671619917905920)
        exact ch_knots am hN hx hb hX hbl hbA hi hL hd hst hl hcl hW hM ht (fun d1 H1 locs1 ls1 a1 a2 a3 => htail d1 H1 locs1 ls1 I2 G2 J1 hR1 a1 a2 a3)
      · refine lv_tableIn (off := 349) (tgt := 404) hx hb dL_law_55 (by decide) (by decide) rfl (by decide) ?_
        obtain ⟨code1, I1, G1, J1, I2, G2, hW, hM, ht, hR1⟩ := op_broken hno hadI hR (by omega) (xs (1 + 6 * k + 1)) (Mu (FP.i2d (xs (1 + 6 * k + 2))) 4593671619917905920)
        exact ch_broken am hN hx hb hX hbl hbA hi hL hd hst hl hcl hW hM ht (fun d1 H1 locs1 ls1 a1 a2 a3 => htail d1 H1 locs1 ls1 I2 G2 J1 hR1 a1 a2 a3)
      · refine lv_tableIn (off := 407) (tgt := 462) hx hb dL_law_55 (by decide) (by decide) rfl (by decide) ?_
        obtain ⟨a0, b0, I1, G1, J1, I2, G2, hW, hM, he, hR1⟩ := op_fit hno hadI hR (by omega) 
        exact ch_fit am hN hx hb hX hbl hbA hi hL hd hst hl hcl hW hM he (fun d1 H1 locs1 ls1 a1 a2 a3 => htail d1 H1 locs1 ls1 I2 G2 J1 hR1 a1 a2 a3)
      · refine lv_tableIn (off := 420) (tgt := 475) hx hb dL_law_55 (by decide) (by decide) rfl (by decide) ?_
        obtain ⟨code1, b0, I1, G1, J1, I2, G2, hW, hM, ht, he, hR1⟩ := op_number hno hadI hR (by omega) (xs (1 + 6 * k + 1))
        exact ch_number am hN hx hb hX hbl hbA hi hL hd hst hl hcl hW hM ht he (fun d1 H1 locs1 ls1 a1 a2 a3 => htail d1 H1 locs1 ls1 I2 G2 J1 hR1 a1 a2 a3)
      · refine lv_tableIn (off := 497) (tgt := 552) hx hb dL_law_55 (by decide) (by decide) rfl (by decide) ?_
        obtain ⟨code1, b0, I1, G1, J1, I2, G2, hW, hM, ht, he, hR1⟩ := op_foretold hno hadI hR (by omega) (xs (1 + 6 * k + 1))
        exact ch_foretold am hN hx hb hX hbl hbA hi hL hd hst hl hcl hW hM ht he (fun d1 H1 locs1 ls1 a1 a2 a3 => htail d1 H1 locs1 ls1 I2 G2 J1 hR1 a1 a2 a3)
      · refine lv_tableIn (off := 574) (tgt := 629) hx hb dL_law_55 (by decide) (by decide) rfl (by decide) ?_
        obtain ⟨code1, b0, I1, G1, J1, I2, G2, hW, hM, ht, he, hR1⟩ := op_leftOut hno hadI hR (by omega) (xs (1 + 6 * k + 1))
        exact ch_leftOut am hN hx hb hX hbl hbA hi hL hd hst hl hcl hW hM ht he (fun d1 H1 locs1 ls1 a1 a2 a3 => htail d1 H1 locs1 ls1 I2 G2 J1 hR1 a1 a2 a3)
      · refine lv_tableIn (off := 651) (tgt := 706) hx hb dL_law_55 (by decide) (by decide) rfl (by decide) ?_
        obtain ⟨code1, I1, G1, J1, I2, G2, hW, hM, ht, hR1⟩ := op_limit hno hadI hR (by omega) (xs (1 + 6 * k + 1)) (Mu (FP.i2d (xs (1 + 6 * k + 2))) 4593671619917905920)
        exact ch_limit am hN hx hb hX hbl hbA hi hL hd hst hl hcl hW hM ht (fun d1 H1 locs1 ls1 a1 a2 a3 => htail d1 H1 locs1 ls1 I2 G2 J1 hR1 a1 a2 a3)
      · refine lv_tableIn (off := 709) (tgt := 764) hx hb dL_law_55 (by decide) (by decide) rfl (by decide) ?_
        obtain ⟨code1, b0, I1, G1, J1, I2, G2, hW, hM, ht, he, hR1⟩ := op_setting hno hadI hR (by omega) (xs (1 + 6 * k + 1)) (xs (1 + 6 * k + 2)) (xs (1 + 6 * k + 3))
        exact ch_setting am hN hx hb hX hbl hbA hi hL hd hst hl hcl hW hM ht he (fun d1 H1 locs1 ls1 a1 a2 a3 => htail d1 H1 locs1 ls1 I2 G2 J1 hR1 a1 a2 a3)
      · refine lv_tableIn (off := 789) (tgt := 844) hx hb dL_law_55 (by decide) (by decide) rfl (by decide) ?_
        obtain ⟨code1, b0, I1, G1, J1, I2, G2, hW, hM, ht, he, hR1⟩ := op_odds hno hadI hR (by omega) (xs (1 + 6 * k + 1)) (xs (1 + 6 * k + 2)) (xs (1 + 6 * k + 3)) (xs (1 + 6 * k + 4)) (xs (1 + 6 * k + 5))
        exact ch_odds am hN hx hb hX hbl hbA hi hL hd hst hl hcl hW hM ht he (fun d1 H1 locs1 ls1 a1 a2 a3 => htail d1 H1 locs1 ls1 I2 G2 J1 hR1 a1 a2 a3)
      · refine lv_tableIn (off := 892) (tgt := 947) hx hb dL_law_55 (by decide) (by decide) rfl (by decide) ?_
        obtain ⟨code1, I1, G1, J1, I2, G2, hW, hM, ht, hR1⟩ := op_chart hno hadI hR (by omega) (xs (1 + 6 * k + 1)) (xs (1 + 6 * k + 2))
        exact ch_chart am hN hx hb hX hbl hbA hi hL hd hst hl hcl hW hM ht (fun d1 H1 locs1 ls1 a1 a2 a3 => htail d1 H1 locs1 ls1 I2 G2 J1 hR1 a1 a2 a3)
      · refine lv_tableIn (off := 940) (tgt := 995) hx hb dL_law_55 (by decide) (by decide) rfl (by decide) ?_
        obtain ⟨a0, b0, I1, G1, J1, I2, G2, hW, hM, he, hR1⟩ := op_test hno hadI hR (by omega) (decide (¬ xs (1 + 6 * k + 1) = 0))
        exact ch_test am hN hx hb hX hbl hbA hi hL hd hst hl hcl hW hM he (fun d1 H1 locs1 ls1 a1 a2 a3 => htail d1 H1 locs1 ls1 I2 G2 J1 hR1 a1 a2 a3)
      · refine lv_tableIn (off := 981) (tgt := 1036) hx hb dL_law_55 (by decide) (by decide) rfl (by decide) ?_
        obtain ⟨code1, b0, I1, G1, J1, I2, G2, hW, hM, ht, he, hR1⟩ := op_proof hno hadI hR (by omega) (Mu (FP.i2d (xs (1 + 6 * k + 1))) 4593671619917905920)
        exact ch_proof am hN hx hb hX hbl hbA hi hL hd hst hl hcl hW hM ht he (fun d1 H1 locs1 ls1 a1 a2 a3 => htail d1 H1 locs1 ls1 I2 G2 J1 hR1 a1 a2 a3)
      · refine lv_tableIn (off := 1047) (tgt := 1102) hx hb dL_law_55 (by decide) (by decide) rfl (by decide) ?_
        obtain ⟨code1, b0, I1, G1, J1, I2, G2, hW, hM, ht, he, hR1⟩ := op_about hno hadI hR (by omega) (xs (1 + 6 * k + 1)) (xs (1 + 6 * k + 2))
        exact ch_about am hN hx hb hX hbl hbA hi hL hd hst hl hcl hW hM ht he (fun d1 H1 locs1 ls1 a1 a2 a3 => htail d1 H1 locs1 ls1 I2 G2 J1 hR1 a1 a2 a3)
      · refine lv_tableIn (off := 1115) (tgt := 1170) hx hb dL_law_55 (by decide) (by decide) rfl (by decide) ?_
        obtain ⟨code1, b0, I1, G1, J1, I2, G2, hW, hM, ht, he, hR1⟩ := op_reference hno hadI hR (by omega) (xs (1 + 6 * k + 1)) (Mu (FP.i2d (xs (1 + 6 * k + 2))) 4593671619917905920) (fm_X _)
        exact ch_reference am hN hx hb hX hbl hbA hi hL hd hst hl hcl hW hM ht he (fun d1 H1 locs1 ls1 a1 a2 a3 => htail d1 H1 locs1 ls1 I2 G2 J1 hR1 a1 a2 a3)
      · refine lv_tableIn (off := 1193) (tgt := 1248) hx hb dL_law_55 (by decide) (by decide) rfl (by decide) ?_
        obtain ⟨code1, b0, I1, G1, J1, I2, G2, hW, hM, ht, he, hR1⟩ := op_drift hno hadI hR (by omega) (xs (1 + 6 * k + 1))
        exact ch_drift am hN hx hb hX hbl hbA hi hL hd hst hl hcl hW hM ht he (fun d1 H1 locs1 ls1 a1 a2 a3 => htail d1 H1 locs1 ls1 I2 G2 J1 hR1 a1 a2 a3)
      · refine lv_tableIn (off := 1270) (tgt := 1325) hx hb dL_law_55 (by decide) (by decide) rfl (by decide) ?_
        obtain ⟨code1, b0, I1, G1, J1, I2, G2, hW, hM, ht, he, hR1⟩ := op_drawn hno hadI hR (by omega) (xs (1 + 6 * k + 1))
        exact ch_drawn am hN hx hb hX hbl hbA hi hL hd hst hl hcl hW hM ht he (fun d1 H1 locs1 ls1 a1 a2 a3 => htail d1 H1 locs1 ls1 I2 G2 J1 hR1 a1 a2 a3)
    · refine lv_tableOut (tgt := 1402) hx hb dL_law_55 (Or.inr (by rw [nI_toInt (by omega)]; omega)) (by decide) ?_
      exact W.wide (k := cells + 1) (n := slots + 6) (Nat.le_succ _) (Nat.le_add_right _ 6) (htail d0 H locs ls I G J (hR.le (Nat.le_succ k)) hd hst hl)

