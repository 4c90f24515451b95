/-! the law, one operation at a time: from its case to the next turn -/
def dEq (r R : UInt64) : Prop := Op.cmpValue (FP.dcmp r R) CmpOp.l = 0 ∨ (¬ Op.cmpValue (FP.dcmp r r) CmpOp.l = 0 ∧ ¬ Op.cmpValue (FP.dcmp R R) CmpOp.l = 0)
theorem nI_s (i : Nat) (k : Nat) : nI i + nI k = nI (i + k) := nI_add i k
theorem w_scr {p : Program} {l : Launch} {e : Env} {R : Room} {s : State} {m : MethodId} {args : Array Value} {below : List Frame} {meth : Method} {c : Code} {H : Heap} {locs : List Loc} {cells slots : Nat} {Q : State → Prop} {cc : ByteArray} {D : va_G} {cy ad : Nat → Nat} {I : Im} {G : Dm} {J : Jm} {d0 : Drawn} {pc : Nat} {ls : Array Slot} {rest : List Value} (hx : p.tables.exec = Jvm.exec) (hb : c.code = cc) {b L j : Nat} {xs : Nat → Int32} (hX : va_X b L xs s s.heap) (hbl : b < s.heap.size) (hbA : ¬ aA ad s.heap.size b) (hst : St D cy ad s.heap I G J H locs) (hj : j < L) (hL : L ≤ 3073) (hdg : decode cc pc = .ok (.iaload, 1))
    (kk : W p l e R (s.setDrawn d0) m args below meth c H locs cells slots Q (F0 m (pc + 1) ls (.int (xs j) :: rest))) :
    W p l e R (s.setDrawn d0) m args below meth c H locs cells slots Q (F0 m pc ls (.int (nI j) :: .ref b :: rest)) := by
  refine va_sld (s := s.setDrawn d0) hx hb (va_X.moved (Vm.Alike.refl s.vm) hX) hbl hbA hst.2 (i := nI j) (vp_in_nI hj (by omega)) hdg ?_
  rw [nI_clamp (by omega)]
  exact kk
set_option maxHeartbeats 4000000 in
set_option maxRecDepth 100000 in
theorem ch_board {p : Program} {l : Launch} {e : Env} {s : State} {m : MethodId} {args : Array Value} {below : List Frame} {meth : Method} {c : Code} {H : Heap} {locs : List Loc} {cells slots : Nat} {Q : State → Prop} {D : va_G} {cy ad : Nat → Nat} {d0 : Drawn} {ls : Array Slot} {ba L i : Nat} {xs : Nat → Int32} (am : Amb p s m args c cL_law 9 RL D cy ad) (hN : nC s) (hx : p.tables.exec = Jvm.exec) (hb : c.code = cL_law) (hX : va_X ba L xs s s.heap) (hbl : ba < s.heap.size) (hbA : ¬ aA ad s.heap.size ba) (hi : i + 6 ≤ L) (hL : L ≤ 3073) {I I1 I2 : Im} {G G1 G2 : Dm} {J J1 : Jm} (hd : s.drawn.sameBut d0 lw_cs) (hst : St D cy ad s.heap I G J H locs) (hl : lv_has ls 9 [(0, .ref ba), (1, .ref (ad 0)), (2, .ref (ad 53)), (3, .ref (ad 70)), (4, .ref (ad 71)), (5, .int (nI i))]) (hcl : cells + 1 ≤ 601024 ∧ slots + 6 ≤ 7293000)
    {code1 : Int32} {b0 : Int32} (hW : nD l yL_board (.codeWith yL_board cL_board 3 (some .int) [(0, 8, 11, 13)]) D cy ad [.ref (ad 0), .ref (ad 70)] I G J (qI D cy ad code1 I1 G1 J1)) (hM : kD l yX5_board (.code yX5_board cX5_board 1 (some .int)) rU D cy ad [.ref (ad 53)] I1 G1 J1 (qI D cy ad b0 I2 G2 J1)) (ht : I2 53 0 = code1) (he : code1 = 0 → J1 70 0 = b0.toInt64)
    (kk : ∀ (d1 : Drawn) (H1 : Heap) (locs1 : List Loc) (ls1 : Array Slot), s.drawn.sameBut d1 lw_cs → St D cy ad s.heap I2 G2 J1 H1 locs1 → lv_has ls1 9 [(0, .ref ba), (1, .ref (ad 0)), (2, .ref (ad 53)), (3, .ref (ad 70)), (4, .ref (ad 71)), (5, .int (nI i))] → W p l e room_1 (s.setDrawn d1) m args below meth c H1 locs1 (cells + 1) (slots + 6) Q (F0 m 1402 ls1 [])) :
    W p l e room_1 (s.setDrawn d0) m args below meth c H locs cells slots Q (F0 m 144 ls []) := by
  have hadI := am.2.2.2.2.2.2.1
  refine lv_aload_n hx hb dL_law_144 rfl (lv_at hl 1 rfl) ?_
  refine lv_aload_n hx hb dL_law_145 rfl (lv_at hl 3 rfl) ?_
  refine c_iD hd hst (r_WN (As := [.ref (ad 0), .ref (ad 70)]) (rest := []) am hN hst hl (hW) kRL_88 smL_board ⟨Nat.le_of_ble_eq_true rfl, Nat.le_of_ble_eq_true rfl⟩ rfl rfl (Nat.le_of_ble_eq_true rfl) dL_law_146 ⟨hcl.1, hcl.2⟩) (fun d0 H locs hd hst => ?_)
  refine lv_istore (lv' := [(6, .int code1), (0, .ref ba), (1, .ref (ad 0)), (2, .ref (ad 53)), (3, .ref (ad 70)), (4, .ref (ad 71)), (5, .int (nI i))]) hx hb dL_law_149 hl (by decide) rfl (fun ls hl => ?_)
  refine lv_aload_n hx hb dL_law_151 rfl (lv_at hl 3 rfl) ?_
  refine c_iD hd hst (r_VD (As := []) (rest := []) am hst hl (hM) kRL_91 imX5_board slX5_board ⟨Nat.le_of_ble_eq_true rfl, Nat.le_of_ble_eq_true rfl⟩ (by decide) (fun _ _ _ => cE_M) rfl rfl rfl (Nat.le_of_ble_eq_true rfl) dL_law_152 ⟨hcl.1, hcl.2⟩) (fun d0 H locs hd hst => ?_)
  refine lv_istore (lv' := [(7, .int b0), (6, .int code1), (0, .ref ba), (1, .ref (ad 0)), (2, .ref (ad 53)), (3, .ref (ad 70)), (4, .ref (ad 71)), (5, .int (nI i))]) hx hb dL_law_155 hl (by decide) rfl (fun ls hl => ?_)
  refine lv_aload_n hx hb dL_law_157 rfl (lv_at hl 4 rfl) ?_
  refine c_i hst (r_V (As := []) (rest := []) am hst hl (k_X5_thrown hadI) kRL_92 imX5_thrown slX5_thrown ⟨Nat.le_of_ble_eq_true rfl, Nat.le_of_ble_eq_true rfl⟩ (by decide) (fun _ _ _ => cE_M) rfl rfl rfl (Nat.le_of_ble_eq_true rfl) dL_law_158 ⟨hcl.1, hcl.2⟩) (fun H locs hst => ?_)
  refine lv_iload hx hb dL_law_161 (lv_at hl 1 rfl) ?_
  refine lv_icmp_eq (tgt := 168) hx hb dL_law_163 (by decide) (fun c_163 => ?_) (fun c_163 => absurd ht c_163)
  refine lv_iload hx hb dL_law_168 (lv_at hl 1 rfl) ?_
  refine lv_if_ne (tgt := 185) hx hb dL_law_170 (by decide) (fun c_170 => ?_) (fun c_170 => ?_)
  · skip
    refine lv_goto (tgt := 1402) hx hb dL_law_185 (by decide) ?_
    exact kk _ _ _ _ hd hst (lv_sub hl [2, 3, 4, 5, 6, 7] rfl)
  · skip
    refine lv_aload_n hx hb dL_law_173 rfl (lv_at hl 5 rfl) ?_
    refine lv_iconst (v := 0) hx hb dL_law_174 (by decide) ?_
    refine w_lald am hst (by decide) (fun _ _ _ => cE_70) (n := 0) rfl (vinL (by decide)) dL_law_175 ?_
    refine lv_iload hx hb dL_law_176 (lv_at hl 0 rfl) ?_
    refine lv_i2l hx hb dL_law_178 rfl ?_
    refine W.lcmp hx hb dL_law_179 ?_
    refine lv_if_eq (tgt := 185) hx hb dL_law_180 (by decide) (fun c_180 => ?_) (fun c_180 => absurd ((lg_cmp0.mpr (he c_170))) c_180)
    refine lv_goto (tgt := 1402) hx hb dL_law_185 (by decide) ?_
    exact kk _ _ _ _ hd hst (lv_sub hl [2, 3, 4, 5, 6, 7] rfl)

set_option maxHeartbeats 4000000 in
set_option maxRecDepth 100000 in
theorem ch_row {p : Program} {l : Launch} {e : Env} {s : State} {m : MethodId} {args : Array Value} {below : List Frame} {meth : Method} {c : Code} {H : Heap} {locs : List Loc} {cells slots : Nat} {Q : State → Prop} {D : va_G} {cy ad : Nat → Nat} {d0 : Drawn} {ls : Array Slot} {ba L i : Nat} {xs : Nat → Int32} (am : Amb p s m args c cL_law 9 RL D cy ad) (hN : nC s) (hx : p.tables.exec = Jvm.exec) (hb : c.code = cL_law) (hX : va_X ba L xs s s.heap) (hbl : ba < s.heap.size) (hbA : ¬ aA ad s.heap.size ba) (hi : i + 6 ≤ L) (hL : L ≤ 3073) {I I1 I2 : Im} {G G1 G2 : Dm} {J J1 : Jm} (hd : s.drawn.sameBut d0 lw_cs) (hst : St D cy ad s.heap I G J H locs) (hl : lv_has ls 9 [(0, .ref ba), (1, .ref (ad 0)), (2, .ref (ad 53)), (3, .ref (ad 70)), (4, .ref (ad 71)), (5, .int (nI i))]) (hcl : cells + 1 ≤ 601024 ∧ slots + 6 ≤ 7293000)
    {code1 : Int32} {b0 : Int32} (hW : ∀ x1 : UInt64, cn x1 = Mu (FP.i2d (xs (i + 2))) 4593671619917905920 → nD l yL_row (.codeWith yL_row cL_row 6 (some .int) [(0, 11, 14, 19), (0, 11, 18, 21), (0, 11, 22, 13)]) D cy ad [.ref (ad 0), .int (xs (i + 1)), .double x1, .ref (ad 70)] I G J (qI D cy ad code1 I1 G1 J1)) (hM : ∀ x1 : UInt64, cn x1 = Mu (FP.i2d (xs (i + 2))) 4593671619917905920 → kD l yX5_row (.code yX5_row cX5_row 4 (some .int)) rU D cy ad [.ref (ad 53), .int (xs (i + 1)), .double x1] I1 G1 J1 (qI D cy ad b0 I2 G2 J1)) (ht : I2 53 0 = code1) (he : code1 = 0 → J1 70 0 = b0.toInt64)
    (kk : ∀ (d1 : Drawn) (H1 : Heap) (locs1 : List Loc) (ls1 : Array Slot), s.drawn.sameBut d1 lw_cs → St D cy ad s.heap I2 G2 J1 H1 locs1 → lv_has ls1 9 [(0, .ref ba), (1, .ref (ad 0)), (2, .ref (ad 53)), (3, .ref (ad 70)), (4, .ref (ad 71)), (5, .int (nI i))] → W p l e room_1 (s.setDrawn d1) m args below meth c H1 locs1 (cells + 1) (slots + 6) Q (F0 m 1402 ls1 [])) :
    W p l e room_1 (s.setDrawn d0) m args below meth c H locs cells slots Q (F0 m 188 ls []) := by
  have hadI := am.2.2.2.2.2.2.1
  refine lv_aload_n hx hb dL_law_188 rfl (lv_at hl 1 rfl) ?_
  refine lv_aload_n hx hb dL_law_189 rfl (lv_at hl 0 rfl) ?_
  refine lv_iload hx hb dL_law_190 (lv_at hl 5 rfl) ?_
  refine lv_iconst (v := 1) hx hb dL_law_192 (by decide) ?_
  refine lv_iadd hx hb dL_law_193 ?_
  rw [show nI i + 1 = nI (i + 1) from nI_s i 1]
  refine w_scr hx hb hX hbl hbA hst (j := i + 1) (by omega) hL dL_law_194 ?_
  refine lv_aload_n hx hb dL_law_195 rfl (lv_at hl 0 rfl) ?_
  refine lv_iload hx hb dL_law_196 (lv_at hl 5 rfl) ?_
  refine lv_iconst (v := 2) hx hb dL_law_198 (by decide) ?_
  refine lv_iadd hx hb dL_law_199 ?_
  rw [show nI i + 2 = nI (i + 2) from nI_s i 2]
  refine w_scr hx hb hX hbl hbA hst (j := i + 2) (by omega) hL dL_law_200 ?_
  refine w_i2d hx hb dL_law_201 (fun x1 hx1 => ?_)
  refine lv_ldc2d hx hb am.2.2.2.1 (amT am _ wRL_95) dL_law_202 ?_
  refine w_dmul hd hx hb hx1 cn_k4593671619917905920 dL_law_205 (fun x2 d0 hx2 hd => ?_)
  refine lv_aload_n hx hb dL_law_206 rfl (lv_at hl 3 rfl) ?_
  refine c_iD hd hst (r_WN (As := [.ref (ad 0), .int (xs (i + 1)), .double x2, .ref (ad 70)]) (rest := []) am hN hst hl (hW _ hx2) kRL_97 smL_row ⟨Nat.le_of_ble_eq_true rfl, Nat.le_of_ble_eq_true rfl⟩ rfl rfl (Nat.le_of_ble_eq_true rfl) dL_law_207 ⟨hcl.1, hcl.2⟩) (fun d0 H locs hd hst => ?_)
  refine lv_istore (lv' := [(6, .int code1), (0, .ref ba), (1, .ref (ad 0)), (2, .ref (ad 53)), (3, .ref (ad 70)), (4, .ref (ad 71)), (5, .int (nI i))]) hx hb dL_law_210 hl (by decide) rfl (fun ls hl => ?_)
  refine lv_aload_n hx hb dL_law_212 rfl (lv_at hl 3 rfl) ?_
  refine lv_aload_n hx hb dL_law_213 rfl (lv_at hl 1 rfl) ?_
  refine lv_iload hx hb dL_law_214 (lv_at hl 6 rfl) ?_
  refine lv_iconst (v := 1) hx hb dL_law_216 (by decide) ?_
  refine lv_iadd hx hb dL_law_217 ?_
  rw [show nI i + 1 = nI (i + 1) from nI_s i 1]
  refine w_scr hx hb hX hbl hbA hst (j := i + 1) (by omega) hL dL_law_218 ?_
  refine lv_aload_n hx hb dL_law_219 rfl (lv_at hl 1 rfl) ?_
  refine lv_iload hx hb dL_law_220 (lv_at hl 6 rfl) ?_
  refine lv_iconst (v := 2) hx hb dL_law_222 (by decide) ?_
  refine lv_iadd hx hb dL_law_223 ?_
  rw [show nI i + 2 = nI (i + 2) from nI_s i 2]
  refine w_scr hx hb hX hbl hbA hst (j := i + 2) (by omega) hL dL_law_224 ?_
  refine w_i2d hx hb dL_law_225 (fun x3 hx3 => ?_)
  refine lv_ldc2d hx hb am.2.2.2.1 (amT am _ wRL_95) dL_law_226 ?_
  refine w_dmul hd hx hb hx3 cn_k4593671619917905920 dL_law_229 (fun x4 d0 hx4 hd => ?_)
  refine c_iD hd hst (r_VD (As := [.int (xs (i + 1)), .double x4]) (rest := []) am hst hl (hM _ hx4) kRL_100 imX5_row slX5_row ⟨Nat.le_of_ble_eq_true rfl, Nat.le_of_ble_eq_true rfl⟩ (by decide) (fun _ _ _ => cE_M) rfl rfl rfl (Nat.le_of_ble_eq_true rfl) dL_law_230 ⟨hcl.1, hcl.2⟩) (fun d0 H locs hd hst => ?_)
  refine lv_istore (lv' := [(7, .int b0), (6, .int code1), (0, .ref ba), (1, .ref (ad 0)), (2, .ref (ad 53)), (3, .ref (ad 70)), (4, .ref (ad 71)), (5, .int (nI i))]) hx hb dL_law_233 hl (by decide) rfl (fun ls hl => ?_)
  refine lv_aload_n hx hb dL_law_235 rfl (lv_at hl 4 rfl) ?_
  refine c_i hst (r_V (As := []) (rest := []) am hst hl (k_X5_thrown hadI) kRL_92 imX5_thrown slX5_thrown ⟨Nat.le_of_ble_eq_true rfl, Nat.le_of_ble_eq_true rfl⟩ (by decide) (fun _ _ _ => cE_M) rfl rfl rfl (Nat.le_of_ble_eq_true rfl) dL_law_236 ⟨hcl.1, hcl.2⟩) (fun H locs hst => ?_)
  refine lv_iload hx hb dL_law_239 (lv_at hl 1 rfl) ?_
  refine lv_icmp_eq (tgt := 246) hx hb dL_law_241 (by decide) (fun c_241 => ?_) (fun c_241 => absurd ht c_241)
  refine lv_iload hx hb dL_law_246 (lv_at hl 1 rfl) ?_
  refine lv_if_ne (tgt := 263) hx hb dL_law_248 (by decide) (fun c_248 => ?_) (fun c_248 => ?_)
  · skip
    refine lv_goto (tgt := 1402) hx hb dL_law_263 (by decide) ?_
    exact kk _ _ _ _ hd hst (lv_sub hl [2, 3, 4, 5, 6, 7] rfl)
  · skip
    refine lv_aload_n hx hb dL_law_251 rfl (lv_at hl 5 rfl) ?_
    refine lv_iconst (v := 0) hx hb dL_law_252 (by decide) ?_
    refine w_lald am hst (by decide) (fun _ _ _ => cE_70) (n := 0) rfl (vinL (by decide)) dL_law_253 ?_
    refine lv_iload hx hb dL_law_254 (lv_at hl 0 rfl) ?_
    refine lv_i2l hx hb dL_law_256 rfl ?_
    refine W.lcmp hx hb dL_law_257 ?_
    refine lv_if_eq (tgt := 263) hx hb dL_law_258 (by decide) (fun c_258 => ?_) (fun c_258 => absurd ((lg_cmp0.mpr (he c_248))) c_258)
    refine lv_goto (tgt := 1402) hx hb dL_law_263 (by decide) ?_
    exact kk _ _ _ _ hd hst (lv_sub hl [2, 3, 4, 5, 6, 7] rfl)

set_option maxHeartbeats 4000000 in
set_option maxRecDepth 100000 in
theorem ch_echo {p : Program} {l : Launch} {e : Env} {s : State} {m : MethodId} {args : Array Value} {below : List Frame} {meth : Method} {c : Code} {H : Heap} {locs : List Loc} {cells slots : Nat} {Q : State → Prop} {D : va_G} {cy ad : Nat → Nat} {d0 : Drawn} {ls : Array Slot} {ba L i : Nat} {xs : Nat → Int32} (am : Amb p s m args c cL_law 9 RL D cy ad) (hN : nC s) (hx : p.tables.exec = Jvm.exec) (hb : c.code = cL_law) (hX : va_X ba L xs s s.heap) (hbl : ba < s.heap.size) (hbA : ¬ aA ad s.heap.size ba) (hi : i + 6 ≤ L) (hL : L ≤ 3073) {I I1 I2 : Im} {G G1 G2 : Dm} {J J1 : Jm} (hd : s.drawn.sameBut d0 lw_cs) (hst : St D cy ad s.heap I G J H locs) (hl : lv_has ls 9 [(0, .ref ba), (1, .ref (ad 0)), (2, .ref (ad 53)), (3, .ref (ad 70)), (4, .ref (ad 71)), (5, .int (nI i))]) (hcl : cells + 1 ≤ 601024 ∧ slots + 6 ≤ 7293000)
    {code1 : Int32} (hW : ∀ x1 : UInt64, cn x1 = Mu (FP.i2d (xs (i + 2))) 4593671619917905920 → ∀ x2 : UInt64, cn x2 = Mu (FP.i2d (xs (i + 3))) 4593671619917905920 → nD l yL_echo (.codeWith yL_echo cL_echo 7 (some .int) [(0, 8, 11, 19), (0, 8, 15, 21)]) D cy ad [.ref (ad 0), .int (xs (i + 1)), .double x1, .double x2] I G J (qI D cy ad code1 I1 G1 J1)) (hM : ∀ x1 : UInt64, cn x1 = Mu (FP.i2d (xs (i + 2))) 4593671619917905920 → ∀ x2 : UInt64, cn x2 = Mu (FP.i2d (xs (i + 3))) 4593671619917905920 → kD l yX5_echo (.code yX5_echo cX5_echo 6 none) rU D cy ad [.ref (ad 53), .int (xs (i + 1)), .double x1, .double x2] I1 G1 J1 (qV D cy ad I2 G2 J1)) (ht : I2 53 0 = code1) 
    (kk : ∀ (d1 : Drawn) (H1 : Heap) (locs1 : List Loc) (ls1 : Array Slot), s.drawn.sameBut d1 lw_cs → St D cy ad s.heap I2 G2 J1 H1 locs1 → lv_has ls1 9 [(0, .ref ba), (1, .ref (ad 0)), (2, .ref (ad 53)), (3, .ref (ad 70)), (4, .ref (ad 71)), (5, .int (nI i))] → W p l e room_1 (s.setDrawn d1) m args below meth c H1 locs1 (cells + 1) (slots + 6) Q (F0 m 1402 ls1 [])) :
    W p l e room_1 (s.setDrawn d0) m args below meth c H locs cells slots Q (F0 m 266 ls []) := by
  have hadI := am.2.2.2.2.2.2.1
  refine lv_aload_n hx hb dL_law_266 rfl (lv_at hl 1 rfl) ?_
  refine lv_aload_n hx hb dL_law_267 rfl (lv_at hl 0 rfl) ?_
  refine lv_iload hx hb dL_law_268 (lv_at hl 5 rfl) ?_
  refine lv_iconst (v := 1) hx hb dL_law_270 (by decide) ?_
  refine lv_iadd hx hb dL_law_271 ?_
  rw [show nI i + 1 = nI (i + 1) from nI_s i 1]
  refine w_scr hx hb hX hbl hbA hst (j := i + 1) (by omega) hL dL_law_272 ?_
  refine lv_aload_n hx hb dL_law_273 rfl (lv_at hl 0 rfl) ?_
  refine lv_iload hx hb dL_law_274 (lv_at hl 5 rfl) ?_
  refine lv_iconst (v := 2) hx hb dL_law_276 (by decide) ?_
  refine lv_iadd hx hb dL_law_277 ?_
  rw [show nI i + 2 = nI (i + 2) from nI_s i 2]
  refine w_scr hx hb hX hbl hbA hst (j := i + 2) (by omega) hL dL_law_278 ?_
  refine w_i2d hx hb dL_law_279 (fun x1 hx1 => ?_)
  refine lv_ldc2d hx hb am.2.2.2.1 (amT am _ wRL_95) dL_law_280 ?_
  refine w_dmul hd hx hb hx1 cn_k4593671619917905920 dL_law_283 (fun x2 d0 hx2 hd => ?_)
  refine lv_aload_n hx hb dL_law_284 rfl (lv_at hl 0 rfl) ?_
  refine lv_iload hx hb dL_law_285 (lv_at hl 5 rfl) ?_
  refine lv_iconst (v := 3) hx hb dL_law_287 (by decide) ?_
  refine lv_iadd hx hb dL_law_288 ?_
  rw [show nI i + 3 = nI (i + 3) from nI_s i 3]
  refine w_scr hx hb hX hbl hbA hst (j := i + 3) (by omega) hL dL_law_289 ?_
  refine w_i2d hx hb dL_law_290 (fun x3 hx3 => ?_)
  refine lv_ldc2d hx hb am.2.2.2.1 (amT am _ wRL_95) dL_law_291 ?_
  refine w_dmul hd hx hb hx3 cn_k4593671619917905920 dL_law_294 (fun x4 d0 hx4 hd => ?_)
  refine c_iD hd hst (r_WN (As := [.ref (ad 0), .int (xs (i + 1)), .double x2, .double x4]) (rest := []) am hN hst hl (hW _ hx2 _ hx4) kRL_101 smL_echo ⟨Nat.le_of_ble_eq_true rfl, Nat.le_of_ble_eq_true rfl⟩ rfl rfl (Nat.le_of_ble_eq_true rfl) dL_law_295 ⟨hcl.1, hcl.2⟩) (fun d0 H locs hd hst => ?_)
  refine lv_istore (lv' := [(6, .int code1), (0, .ref ba), (1, .ref (ad 0)), (2, .ref (ad 53)), (3, .ref (ad 70)), (4, .ref (ad 71)), (5, .int (nI i))]) hx hb dL_law_298 hl (by decide) rfl (fun ls hl => ?_)
  refine lv_aload_n hx hb dL_law_300 rfl (lv_at hl 3 rfl) ?_
  refine lv_aload_n hx hb dL_law_301 rfl (lv_at hl 1 rfl) ?_
  refine lv_iload hx hb dL_law_302 (lv_at hl 6 rfl) ?_
  refine lv_iconst (v := 1) hx hb dL_law_304 (by decide) ?_
  refine lv_iadd hx hb dL_law_305 ?_
  rw [show nI i + 1 = nI (i + 1) from nI_s i 1]
  refine w_scr hx hb hX hbl hbA hst (j := i + 1) (by omega) hL dL_law_306 ?_
  refine lv_aload_n hx hb dL_law_307 rfl (lv_at hl 1 rfl) ?_
  refine lv_iload hx hb dL_law_308 (lv_at hl 6 rfl) ?_
  refine lv_iconst (v := 2) hx hb dL_law_310 (by decide) ?_
  refine lv_iadd hx hb dL_law_311 ?_
  rw [show nI i + 2 = nI (i + 2) from nI_s i 2]
  refine w_scr hx hb hX hbl hbA hst (j := i + 2) (by omega) hL dL_law_312 ?_
  refine w_i2d hx hb dL_law_313 (fun x5 hx5 => ?_)
  refine lv_ldc2d hx hb am.2.2.2.1 (amT am _ wRL_95) dL_law_314 ?_
  refine w_dmul hd hx hb hx5 cn_k4593671619917905920 dL_law_317 (fun x6 d0 hx6 hd => ?_)
  refine lv_aload_n hx hb dL_law_318 rfl (lv_at hl 1 rfl) ?_
  refine lv_iload hx hb dL_law_319 (lv_at hl 6 rfl) ?_
  refine lv_iconst (v := 3) hx hb dL_law_321 (by decide) ?_
  refine lv_iadd hx hb dL_law_322 ?_
  rw [show nI i + 3 = nI (i + 3) from nI_s i 3]
  refine w_scr hx hb hX hbl hbA hst (j := i + 3) (by omega) hL dL_law_323 ?_
  refine w_i2d hx hb dL_law_324 (fun x7 hx7 => ?_)
  refine lv_ldc2d hx hb am.2.2.2.1 (amT am _ wRL_95) dL_law_325 ?_
  refine w_dmul hd hx hb hx7 cn_k4593671619917905920 dL_law_328 (fun x8 d0 hx8 hd => ?_)
  refine c_vD hd hst (r_VD (As := [.int (xs (i + 1)), .double x6, .double x8]) (rest := []) am hst hl (hM _ hx6 _ hx8) kRL_104 imX5_echo slX5_echo ⟨Nat.le_of_ble_eq_true rfl, Nat.le_of_ble_eq_true rfl⟩ (by decide) (fun _ _ _ => cE_M) rfl rfl rfl (Nat.le_of_ble_eq_true rfl) dL_law_329 ⟨hcl.1, hcl.2⟩) (fun d0 H locs hd hst => ?_)
  refine lv_aload_n hx hb dL_law_332 rfl (lv_at hl 3 rfl) ?_
  refine c_i hst (r_V (As := []) (rest := []) am hst hl (k_X5_thrown hadI) kRL_92 imX5_thrown slX5_thrown ⟨Nat.le_of_ble_eq_true rfl, Nat.le_of_ble_eq_true rfl⟩ (by decide) (fun _ _ _ => cE_M) rfl rfl rfl (Nat.le_of_ble_eq_true rfl) dL_law_333 ⟨hcl.1, hcl.2⟩) (fun H locs hst => ?_)
  refine lv_iload hx hb dL_law_336 (lv_at hl 0 rfl) ?_
  refine lv_icmp_eq (tgt := 343) hx hb dL_law_338 (by decide) (fun c_338 => ?_) (fun c_338 => absurd ht c_338)
  refine lv_goto (tgt := 1402) hx hb dL_law_343 (by decide) ?_
  exact kk _ _ _ _ hd hst (lv_sub hl [1, 2, 3, 4, 5, 6] rfl)

set_option maxHeartbeats 4000000 in
set_option maxRecDepth 100000 in
theorem ch_knots {p : Program} {l : Launch} {e : Env} {s : State} {m : MethodId} {args : Array Value} {below : List Frame} {meth : Method} {c : Code} {H : Heap} {locs : List Loc} {cells slots : Nat} {Q : State → Prop} {D : va_G} {cy ad : Nat → Nat} {d0 : Drawn} {ls : Array Slot} {ba L i : Nat} {xs : Nat → Int32} (am : Amb p s m args c cL_law 9 RL D cy ad) (hN : nC s) (hx : p.tables.exec = Jvm.exec) (hb : c.code = cL_law) (hX : va_X ba L xs s s.heap) (hbl : ba < s.heap.size) (hbA : ¬ aA ad s.heap.size ba) (hi : i + 6 ≤ L) (hL : L ≤ 3073) {I I1 I2 : Im} {G G1 G2 : Dm} {J J1 : Jm} (hd : s.drawn.sameBut d0 lw_cs) (hst : St D cy ad s.heap I G J H locs) (hl : lv_has ls 9 [(0, .ref ba), (1, .ref (ad 0)), (2, .ref (ad 53)), (3, .ref (ad 70)), (4, .ref (ad 71)), (5, .int (nI i))]) (hcl : cells + 1 ≤ 601024 ∧ slots + 6 ≤ 7293000)
    {code1 : Int32} (hW : ∀ x1 : UInt64, cn x1 = Mu (FP.i2d (xs (i + 2))) 4593671619917905920 → nD l yL_knots (.codeWith yL_knots cL_knots 5 (some .int) [(0, 6, 9, 19), (0, 6, 13, 21)]) D cy ad [.ref (ad 0), .int (xs (i + 1)), .double x1] I G J (qI D cy ad code1 I1 G1 J1)) (hM : ∀ x1 : UInt64, cn x1 = Mu (FP.i2d (xs (i + 2))) 4593671619917905920 → kD l yX5_knots (.code yX5_knots cX5_knots 4 none) rU D cy ad [.ref (ad 53), .int (xs (i + 1)), .double x1] I1 G1 J1 (qV D cy ad I2 G2 J1)) (ht : I2 53 0 = code1) 
    (kk : ∀ (d1 : Drawn) (H1 : Heap) (locs1 : List Loc) (ls1 : Array Slot), s.drawn.sameBut d1 lw_cs → St D cy ad s.heap I2 G2 J1 H1 locs1 → lv_has ls1 9 [(0, .ref ba), (1, .ref (ad 0)), (2, .ref (ad 53)), (3, .ref (ad 70)), (4, .ref (ad 71)), (5, .int (nI i))] → W p l e room_1 (s.setDrawn d1) m args below meth c H1 locs1 (cells + 1) (slots + 6) Q (F0 m 1402 ls1 [])) :
    W p l e room_1 (s.setDrawn d0) m args below meth c H locs cells slots Q (F0 m 346 ls []) := by
  have hadI := am.2.2.2.2.2.2.1
  refine lv_aload_n hx hb dL_law_346 rfl (lv_at hl 1 rfl) ?_
  refine lv_aload_n hx hb dL_law_347 rfl (lv_at hl 0 rfl) ?_
  refine lv_iload hx hb dL_law_348 (lv_at hl 5 rfl) ?_
  refine lv_iconst (v := 1) hx hb dL_law_350 (by decide) ?_
  refine lv_iadd hx hb dL_law_351 ?_
  rw [show nI i + 1 = nI (i + 1) from nI_s i 1]
  refine w_scr hx hb hX hbl hbA hst (j := i + 1) (by omega) hL dL_law_352 ?_
  refine lv_aload_n hx hb dL_law_353 rfl (lv_at hl 0 rfl) ?_
  refine lv_iload hx hb dL_law_354 (lv_at hl 5 rfl) ?_
  refine lv_iconst (v := 2) hx hb dL_law_356 (by decide) ?_
  refine lv_iadd hx hb dL_law_357 ?_
  rw [show nI i + 2 = nI (i + 2) from nI_s i 2]
  refine w_scr hx hb hX hbl hbA hst (j := i + 2) (by omega) hL dL_law_358 ?_
  refine w_i2d hx hb dL_law_359 (fun x1 hx1 => ?_)
  refine lv_ldc2d hx hb am.2.2.2.1 (amT am _ wRL_95) dL_law_360 ?_
  refine w_dmul hd hx hb hx1 cn_k4593671619917905920 dL_law_363 (fun x2 d0 hx2 hd => ?_)
  refine c_iD hd hst (r_WN (As := [.ref (ad 0), .int (xs (i + 1)), .double x2]) (rest := []) am hN hst hl (hW _ hx2) kRL_105 smL_knots ⟨Nat.le_of_ble_eq_true rfl, Nat.le_of_ble_eq_true rfl⟩ rfl rfl (Nat.le_of_ble_eq_true rfl) dL_law_364 ⟨hcl.1, hcl.2⟩) (fun d0 H locs hd hst => ?_)
  refine lv_istore (lv' := [(6, .int code1), (0, .ref ba), (1, .ref (ad 0)), (2, .ref (ad 53)), (3, .ref (ad 70)), (4, .ref (ad 71)), (5, .int (nI i))]) hx hb dL_law_367 hl (by decide) rfl (fun ls hl => ?_)
  refine lv_aload_n hx hb dL_law_369 rfl (lv_at hl 3 rfl) ?_
  refine lv_aload_n hx hb dL_law_370 rfl (lv_at hl 1 rfl) ?_
  refine lv_iload hx hb dL_law_371 (lv_at hl 6 rfl) ?_
  refine lv_iconst (v := 1) hx hb dL_law_373 (by decide) ?_
  refine lv_iadd hx hb dL_law_374 ?_
  rw [show nI i + 1 = nI (i + 1) from nI_s i 1]
  refine w_scr hx hb hX hbl hbA hst (j := i + 1) (by omega) hL dL_law_375 ?_
  refine lv_aload_n hx hb dL_law_376 rfl (lv_at hl 1 rfl) ?_
  refine lv_iload hx hb dL_law_377 (lv_at hl 6 rfl) ?_
  refine lv_iconst (v := 2) hx hb dL_law_379 (by decide) ?_
  refine lv_iadd hx hb dL_law_380 ?_
  rw [show nI i + 2 = nI (i + 2) from nI_s i 2]
  refine w_scr hx hb hX hbl hbA hst (j := i + 2) (by omega) hL dL_law_381 ?_
  refine w_i2d hx hb dL_law_382 (fun x3 hx3 => ?_)
  refine lv_ldc2d hx hb am.2.2.2.1 (amT am _ wRL_95) dL_law_383 ?_
  refine w_dmul hd hx hb hx3 cn_k4593671619917905920 dL_law_386 (fun x4 d0 hx4 hd => ?_)
  refine c_vD hd hst (r_VD (As := [.int (xs (i + 1)), .double x4]) (rest := []) am hst hl (hM _ hx4) kRL_108 imX5_knots slX5_knots ⟨Nat.le_of_ble_eq_true rfl, Nat.le_of_ble_eq_true rfl⟩ (by decide) (fun _ _ _ => cE_M) rfl rfl rfl (Nat.le_of_ble_eq_true rfl) dL_law_387 ⟨hcl.1, hcl.2⟩) (fun d0 H locs hd hst => ?_)
  refine lv_aload_n hx hb dL_law_390 rfl (lv_at hl 3 rfl) ?_
  refine c_i hst (r_V (As := []) (rest := []) am hst hl (k_X5_thrown hadI) kRL_92 imX5_thrown slX5_thrown ⟨Nat.le_of_ble_eq_true rfl, Nat.le_of_ble_eq_true rfl⟩ (by decide) (fun _ _ _ => cE_M) rfl rfl rfl (Nat.le_of_ble_eq_true rfl) dL_law_391 ⟨hcl.1, hcl.2⟩) (fun H locs hst => ?_)
  refine lv_iload hx hb dL_law_394 (lv_at hl 0 rfl) ?_
  refine lv_icmp_eq (tgt := 401) hx hb dL_law_396 (by decide) (fun c_396 => ?_) (fun c_396 => absurd ht c_396)
  refine lv_goto (tgt := 1402) hx hb dL_law_401 (by decide) ?_
  exact kk _ _ _ _ hd hst (lv_sub hl [1, 2, 3, 4, 5, 6] rfl)

set_option maxHeartbeats 4000000 in
set_option maxRecDepth 100000 in
theorem ch_broken {p : Program} {l : Launch} {e : Env} {s : State} {m : MethodId} {args : Array Value} {below : List Frame} {meth : Method} {c : Code} {H : Heap} {locs : List Loc} {cells slots : Nat} {Q : State → Prop} {D : va_G} {cy ad : Nat → Nat} {d0 : Drawn} {ls : Array Slot} {ba L i : Nat} {xs : Nat → Int32} (am : Amb p s m args c cL_law 9 RL D cy ad) (hN : nC s) (hx : p.tables.exec = Jvm.exec) (hb : c.code = cL_law) (hX : va_X ba L xs s s.heap) (hbl : ba < s.heap.size) (hbA : ¬ aA ad s.heap.size ba) (hi : i + 6 ≤ L) (hL : L ≤ 3073) {I I1 I2 : Im} {G G1 G2 : Dm} {J J1 : Jm} (hd : s.drawn.sameBut d0 lw_cs) (hst : St D cy ad s.heap I G J H locs) (hl : lv_has ls 9 [(0, .ref ba), (1, .ref (ad 0)), (2, .ref (ad 53)), (3, .ref (ad 70)), (4, .ref (ad 71)), (5, .int (nI i))]) (hcl : cells + 1 ≤ 601024 ∧ slots + 6 ≤ 7293000)
    {code1 : Int32} (hW : ∀ x1 : UInt64, cn x1 = Mu (FP.i2d (xs (i + 2))) 4593671619917905920 → nD l yL_broken (.codeWith yL_broken cL_broken 5 (some .int) [(0, 6, 9, 19), (0, 6, 13, 21), (0, 6, 17, 13)]) D cy ad [.ref (ad 0), .int (xs (i + 1)), .double x1] I G J (qI D cy ad code1 I1 G1 J1)) (hM : ∀ x1 : UInt64, cn x1 = Mu (FP.i2d (xs (i + 2))) 4593671619917905920 → kD l yX5_broken (.code yX5_broken cX5_broken 4 none) rU D cy ad [.ref (ad 53), .int (xs (i + 1)), .double x1] I1 G1 J1 (qV D cy ad I2 G2 J1)) (ht : I2 53 0 = code1) 
    (kk : ∀ (d1 : Drawn) (H1 : Heap) (locs1 : List Loc) (ls1 : Array Slot), s.drawn.sameBut d1 lw_cs → St D cy ad s.heap I2 G2 J1 H1 locs1 → lv_has ls1 9 [(0, .ref ba), (1, .ref (ad 0)), (2, .ref (ad 53)), (3, .ref (ad 70)), (4, .ref (ad 71)), (5, .int (nI i))] → W p l e room_1 (s.setDrawn d1) m args below meth c H1 locs1 (cells + 1) (slots + 6) Q (F0 m 1402 ls1 [])) :
    W p l e room_1 (s.setDrawn d0) m args below meth c H locs cells slots Q (F0 m 404 ls []) := by
  have hadI := am.2.2.2.2.2.2.1
  refine lv_aload_n hx hb dL_law_404 rfl (lv_at hl 1 rfl) ?_
  refine lv_aload_n hx hb dL_law_405 rfl (lv_at hl 0 rfl) ?_
  refine lv_iload hx hb dL_law_406 (lv_at hl 5 rfl) ?_
  refine lv_iconst (v := 1) hx hb dL_law_408 (by decide) ?_
  refine lv_iadd hx hb dL_law_409 ?_
  rw [show nI i + 1 = nI (i + 1) from nI_s i 1]
  refine w_scr hx hb hX hbl hbA hst (j := i + 1) (by omega) hL dL_law_410 ?_
  refine lv_aload_n hx hb dL_law_411 rfl (lv_at hl 0 rfl) ?_
  refine lv_iload hx hb dL_law_412 (lv_at hl 5 rfl) ?_
  refine lv_iconst (v := 2) hx hb dL_law_414 (by decide) ?_
  refine lv_iadd hx hb dL_law_415 ?_
  rw [show nI i + 2 = nI (i + 2) from nI_s i 2]
  refine w_scr hx hb hX hbl hbA hst (j := i + 2) (by omega) hL dL_law_416 ?_
  refine w_i2d hx hb dL_law_417 (fun x1 hx1 => ?_)
  refine lv_ldc2d hx hb am.2.2.2.1 (amT am _ wRL_95) dL_law_418 ?_
  refine w_dmul hd hx hb hx1 cn_k4593671619917905920 dL_law_421 (fun x2 d0 hx2 hd => ?_)
  refine c_iD hd hst (r_WN (As := [.ref (ad 0), .int (xs (i + 1)), .double x2]) (rest := []) am hN hst hl (hW _ hx2) kRL_109 smL_broken ⟨Nat.le_of_ble_eq_true rfl, Nat.le_of_ble_eq_true rfl⟩ rfl rfl (Nat.le_of_ble_eq_true rfl) dL_law_422 ⟨hcl.1, hcl.2⟩) (fun d0 H locs hd hst => ?_)
  refine lv_istore (lv' := [(6, .int code1), (0, .ref ba), (1, .ref (ad 0)), (2, .ref (ad 53)), (3, .ref (ad 70)), (4, .ref (ad 71)), (5, .int (nI i))]) hx hb dL_law_425 hl (by decide) rfl (fun ls hl => ?_)
  refine lv_aload_n hx hb dL_law_427 rfl (lv_at hl 3 rfl) ?_
  refine lv_aload_n hx hb dL_law_428 rfl (lv_at hl 1 rfl) ?_
  refine lv_iload hx hb dL_law_429 (lv_at hl 6 rfl) ?_
  refine lv_iconst (v := 1) hx hb dL_law_431 (by decide) ?_
  refine lv_iadd hx hb dL_law_432 ?_
  rw [show nI i + 1 = nI (i + 1) from nI_s i 1]
  refine w_scr hx hb hX hbl hbA hst (j := i + 1) (by omega) hL dL_law_433 ?_
  refine lv_aload_n hx hb dL_law_434 rfl (lv_at hl 1 rfl) ?_
  refine lv_iload hx hb dL_law_435 (lv_at hl 6 rfl) ?_
  refine lv_iconst (v := 2) hx hb dL_law_437 (by decide) ?_
  refine lv_iadd hx hb dL_law_438 ?_
  rw [show nI i + 2 = nI (i + 2) from nI_s i 2]
  refine w_scr hx hb hX hbl hbA hst (j := i + 2) (by omega) hL dL_law_439 ?_
  refine w_i2d hx hb dL_law_440 (fun x3 hx3 => ?_)
  refine lv_ldc2d hx hb am.2.2.2.1 (amT am _ wRL_95) dL_law_441 ?_
  refine w_dmul hd hx hb hx3 cn_k4593671619917905920 dL_law_444 (fun x4 d0 hx4 hd => ?_)
  refine c_vD hd hst (r_VD (As := [.int (xs (i + 1)), .double x4]) (rest := []) am hst hl (hM _ hx4) kRL_111 imX5_broken slX5_broken ⟨Nat.le_of_ble_eq_true rfl, Nat.le_of_ble_eq_true rfl⟩ (by decide) (fun _ _ _ => cE_M) rfl rfl rfl (Nat.le_of_ble_eq_true rfl) dL_law_445 ⟨hcl.1, hcl.2⟩) (fun d0 H locs hd hst => ?_)
  refine lv_aload_n hx hb dL_law_448 rfl (lv_at hl 3 rfl) ?_
  refine c_i hst (r_V (As := []) (rest := []) am hst hl (k_X5_thrown hadI) kRL_92 imX5_thrown slX5_thrown ⟨Nat.le_of_ble_eq_true rfl, Nat.le_of_ble_eq_true rfl⟩ (by decide) (fun _ _ _ => cE_M) rfl rfl rfl (Nat.le_of_ble_eq_true rfl) dL_law_449 ⟨hcl.1, hcl.2⟩) (fun H locs hst => ?_)
  refine lv_iload hx hb dL_law_452 (lv_at hl 0 rfl) ?_
  refine lv_icmp_eq (tgt := 459) hx hb dL_law_454 (by decide) (fun c_454 => ?_) (fun c_454 => absurd ht c_454)
  refine lv_goto (tgt := 1402) hx hb dL_law_459 (by decide) ?_
  exact kk _ _ _ _ hd hst (lv_sub hl [1, 2, 3, 4, 5, 6] rfl)

set_option maxHeartbeats 4000000 in
set_option maxRecDepth 100000 in
theorem ch_fit {p : Program} {l : Launch} {e : Env} {s : State} {m : MethodId} {args : Array Value} {below : List Frame} {meth : Method} {c : Code} {H : Heap} {locs : List Loc} {cells slots : Nat} {Q : State → Prop} {D : va_G} {cy ad : Nat → Nat} {d0 : Drawn} {ls : Array Slot} {ba L i : Nat} {xs : Nat → Int32} (am : Amb p s m args c cL_law 9 RL D cy ad) (hN : nC s) (hx : p.tables.exec = Jvm.exec) (hb : c.code = cL_law) (hX : va_X ba L xs s s.heap) (hbl : ba < s.heap.size) (hbA : ¬ aA ad s.heap.size ba) (hi : i + 6 ≤ L) (hL : L ≤ 3073) {I I1 I2 : Im} {G G1 G2 : Dm} {J J1 : Jm} (hd : s.drawn.sameBut d0 lw_cs) (hst : St D cy ad s.heap I G J H locs) (hl : lv_has ls 9 [(0, .ref ba), (1, .ref (ad 0)), (2, .ref (ad 53)), (3, .ref (ad 70)), (4, .ref (ad 71)), (5, .int (nI i))]) (hcl : cells + 1 ≤ 601024 ∧ slots + 6 ≤ 7293000)
    {a0 : Int32} {b0 : Int32} (hW : kD l yX4_fit (.code yX4_fit cX4_fit 1 (some .int)) rU D cy ad [.ref (ad 0)] I G J (qI D cy ad a0 I1 G1 J1)) (hM : kD l yX5_fit (.code yX5_fit cX5_fit 3 (some .int)) rU D cy ad [.ref (ad 53)] I1 G1 J1 (qI D cy ad b0 I2 G2 J1)) (he : a0 = b0)
    (kk : ∀ (d1 : Drawn) (H1 : Heap) (locs1 : List Loc) (ls1 : Array Slot), s.drawn.sameBut d1 lw_cs → St D cy ad s.heap I2 G2 J1 H1 locs1 → lv_has ls1 9 [(0, .ref ba), (1, .ref (ad 0)), (2, .ref (ad 53)), (3, .ref (ad 70)), (4, .ref (ad 71)), (5, .int (nI i))] → W p l e room_1 (s.setDrawn d1) m args below meth c H1 locs1 (cells + 1) (slots + 6) Q (F0 m 1402 ls1 [])) :
    W p l e room_1 (s.setDrawn d0) m args below meth c H locs cells slots Q (F0 m 462 ls []) := by
  have hadI := am.2.2.2.2.2.2.1
  refine lv_aload_n hx hb dL_law_462 rfl (lv_at hl 1 rfl) ?_
  refine c_iD hd hst (r_VD (As := []) (rest := []) am hst hl (hW) kRL_112 imX4_fit slX4_fit ⟨Nat.le_of_ble_eq_true rfl, Nat.le_of_ble_eq_true rfl⟩ (by decide) (fun _ _ _ => cE_S) rfl rfl rfl (Nat.le_of_ble_eq_true rfl) dL_law_463 ⟨(Nat.le_trans (Nat.le_succ _) hcl.1), (Nat.le_trans (Nat.le_add_right _ 6) hcl.2)⟩) (fun d0 H locs hd hst => ?_)
  refine lv_aload_n hx hb dL_law_466 rfl (lv_at hl 2 rfl) ?_
  refine c_iD hd hst (r_VD (As := []) (rest := [.int a0]) am hst hl (hM) kRL_115 imX5_fit slX5_fit ⟨Nat.le_of_ble_eq_true rfl, Nat.le_of_ble_eq_true rfl⟩ (by decide) (fun _ _ _ => cE_M) rfl rfl rfl (Nat.le_of_ble_eq_true rfl) dL_law_467 ⟨(Nat.le_trans (Nat.le_succ _) hcl.1), (Nat.le_trans (Nat.le_add_right _ 6) hcl.2)⟩) (fun d0 H locs hd hst => ?_)
  refine lv_icmp_eq (tgt := 1402) hx hb dL_law_470 (by decide) (fun c_470 => ?_) (fun c_470 => absurd he c_470)
  refine W.wide (k := cells + 1) (n := slots + 6) (Nat.le_succ _) (Nat.le_add_right _ 6) ?_
  exact kk _ _ _ _ hd hst (lv_sub hl [0, 1, 2, 3, 4, 5] rfl)

set_option maxHeartbeats 4000000 in
set_option maxRecDepth 100000 in
theorem ch_number {p : Program} {l : Launch} {e : Env} {s : State} {m : MethodId} {args : Array Value} {below : List Frame} {meth : Method} {c : Code} {H : Heap} {locs : List Loc} {cells slots : Nat} {Q : State → Prop} {D : va_G} {cy ad : Nat → Nat} {d0 : Drawn} {ls : Array Slot} {ba L i : Nat} {xs : Nat → Int32} (am : Amb p s m args c cL_law 9 RL D cy ad) (hN : nC s) (hx : p.tables.exec = Jvm.exec) (hb : c.code = cL_law) (hX : va_X ba L xs s s.heap) (hbl : ba < s.heap.size) (hbA : ¬ aA ad s.heap.size ba) (hi : i + 6 ≤ L) (hL : L ≤ 3073) {I I1 I2 : Im} {G G1 G2 : Dm} {J J1 : Jm} (hd : s.drawn.sameBut d0 lw_cs) (hst : St D cy ad s.heap I G J H locs) (hl : lv_has ls 9 [(0, .ref ba), (1, .ref (ad 0)), (2, .ref (ad 53)), (3, .ref (ad 70)), (4, .ref (ad 71)), (5, .int (nI i))]) (hcl : cells + 1 ≤ 601024 ∧ slots + 6 ≤ 7293000)
    {code1 : Int32} {b0 : UInt64} (hW : nD l yL_number (.codeWith yL_number cL_number 4 (some .int) [(0, 8, 11, 19)]) D cy ad [.ref (ad 0), .int (xs (i + 1)), .ref (ad 71)] I G J (qI D cy ad code1 I1 G1 J1)) (hM : kD l yX5_number (.code yX5_number cX5_number 2 (some .double)) rU D cy ad [.ref (ad 53), .int (xs (i + 1))] I1 G1 J1 (qD D cy ad b0 I2 G2 J1)) (ht : I2 53 0 = code1) (he : code1 = 0 → dEq (G2 71 0) b0)
    (kk : ∀ (d1 : Drawn) (H1 : Heap) (locs1 : List Loc) (ls1 : Array Slot), s.drawn.sameBut d1 lw_cs → St D cy ad s.heap I2 G2 J1 H1 locs1 → lv_has ls1 9 [(0, .ref ba), (1, .ref (ad 0)), (2, .ref (ad 53)), (3, .ref (ad 70)), (4, .ref (ad 71)), (5, .int (nI i))] → W p l e room_1 (s.setDrawn d1) m args below meth c H1 locs1 (cells + 1) (slots + 6) Q (F0 m 1402 ls1 [])) :
    W p l e room_1 (s.setDrawn d0) m args below meth c H locs cells slots Q (F0 m 475 ls []) := by
  have hadI := am.2.2.2.2.2.2.1
  refine lv_aload_n hx hb dL_law_475 rfl (lv_at hl 1 rfl) ?_
  refine lv_aload_n hx hb dL_law_476 rfl (lv_at hl 0 rfl) ?_
  refine lv_iload hx hb dL_law_477 (lv_at hl 5 rfl) ?_
  refine lv_iconst (v := 1) hx hb dL_law_479 (by decide) ?_
  refine lv_iadd hx hb dL_law_480 ?_
  rw [show nI i + 1 = nI (i + 1) from nI_s i 1]
  refine w_scr hx hb hX hbl hbA hst (j := i + 1) (by omega) hL dL_law_481 ?_
  refine lv_aload hx hb dL_law_482 (lv_at hl 4 rfl) ?_
  refine c_iD hd hst (r_WN (As := [.ref (ad 0), .int (xs (i + 1)), .ref (ad 71)]) (rest := []) am hN hst hl (hW) kRL_116 smL_number ⟨Nat.le_of_ble_eq_true rfl, Nat.le_of_ble_eq_true rfl⟩ rfl rfl (Nat.le_of_ble_eq_true rfl) dL_law_484 ⟨hcl.1, hcl.2⟩) (fun d0 H locs hd hst => ?_)
  refine lv_istore (lv' := [(6, .int code1), (0, .ref ba), (1, .ref (ad 0)), (2, .ref (ad 53)), (3, .ref (ad 70)), (4, .ref (ad 71)), (5, .int (nI i))]) hx hb dL_law_487 hl (by decide) rfl (fun ls hl => ?_)
  refine lv_aload_n hx hb dL_law_489 rfl (lv_at hl 3 rfl) ?_
  refine lv_aload_n hx hb dL_law_490 rfl (lv_at hl 1 rfl) ?_
  refine lv_iload hx hb dL_law_491 (lv_at hl 6 rfl) ?_
  refine lv_iconst (v := 1) hx hb dL_law_493 (by decide) ?_
  refine lv_iadd hx hb dL_law_494 ?_
  rw [show nI i + 1 = nI (i + 1) from nI_s i 1]
  refine w_scr hx hb hX hbl hbA hst (j := i + 1) (by omega) hL dL_law_495 ?_
  refine c_dD hd hst (r_VD (As := [.int (xs (i + 1))]) (rest := []) am hst hl (hM) kRL_119 imX5_number slX5_number ⟨Nat.le_of_ble_eq_true rfl, Nat.le_of_ble_eq_true rfl⟩ (by decide) (fun _ _ _ => cE_M) rfl rfl rfl (Nat.le_of_ble_eq_true rfl) dL_law_496 ⟨hcl.1, hcl.2⟩) (fun x1 d0 H locs hx1 hd hst => ?_)
  refine lv_dstore (lv' := [(7, .double x1), (6, .int code1), (0, .ref ba), (1, .ref (ad 0)), (2, .ref (ad 53)), (3, .ref (ad 70)), (4, .ref (ad 71)), (5, .int (nI i))]) hx hb dL_law_499 hl (by decide) rfl (fun ls hl => ?_)
  refine lv_aload_n hx hb dL_law_501 rfl (lv_at hl 4 rfl) ?_
  refine c_i hst (r_V (As := []) (rest := []) am hst hl (k_X5_thrown hadI) kRL_92 imX5_thrown slX5_thrown ⟨Nat.le_of_ble_eq_true rfl, Nat.le_of_ble_eq_true rfl⟩ (by decide) (fun _ _ _ => cE_M) rfl rfl rfl (Nat.le_of_ble_eq_true rfl) dL_law_502 ⟨hcl.1, hcl.2⟩) (fun H locs hst => ?_)
  refine lv_iload hx hb dL_law_505 (lv_at hl 1 rfl) ?_
  refine lv_icmp_eq (tgt := 512) hx hb dL_law_507 (by decide) (fun c_507 => ?_) (fun c_507 => absurd ht c_507)
  refine lv_iload hx hb dL_law_512 (lv_at hl 1 rfl) ?_
  refine lv_if_ne (tgt := 549) hx hb dL_law_514 (by decide) (fun c_514 => ?_) (fun c_514 => ?_)
  · skip
    refine lv_goto (tgt := 1402) hx hb dL_law_549 (by decide) ?_
    exact kk _ _ _ _ hd hst (lv_sub hl [2, 3, 4, 5, 6, 7] rfl)
  · skip
    refine lv_aload hx hb dL_law_517 (lv_at hl 6 rfl) ?_
    refine lv_iconst (v := 0) hx hb dL_law_519 (by decide) ?_
    refine w_dald am hst (by decide) (fun _ _ _ => cE_71) (n := 0) rfl (vinL (by decide)) dL_law_520 (fun x2 hx2 => ?_)
    refine lv_dload hx hb dL_law_521 (lv_at hl 0 rfl) ?_
    refine w_dcmp hx hb hx2 hx1 dL_law_523 ?_
    refine lv_if_eq (tgt := 549) hx hb dL_law_524 (by decide) (fun c_524 => ?_) (fun c_524 => ?_)
    · skip
      refine lv_goto (tgt := 1402) hx hb dL_law_549 (by decide) ?_
      exact kk _ _ _ _ hd hst (lv_sub hl [2, 3, 4, 5, 6, 7] rfl)
    · skip
      refine lv_aload hx hb dL_law_527 (lv_at hl 6 rfl) ?_
      refine lv_iconst (v := 0) hx hb dL_law_529 (by decide) ?_
      refine w_dald am hst (by decide) (fun _ _ _ => cE_71) (n := 0) rfl (vinL (by decide)) dL_law_530 (fun x3 hx3 => ?_)
      refine lv_aload hx hb dL_law_531 (lv_at hl 6 rfl) ?_
      refine lv_iconst (v := 0) hx hb dL_law_533 (by decide) ?_
      refine w_dald am hst (by decide) (fun _ _ _ => cE_71) (n := 0) rfl (vinL (by decide)) dL_law_534 (fun x4 hx4 => ?_)
      refine w_dcmp hx hb hx3 hx4 dL_law_535 ?_
      refine lv_if_eq (tgt := 547) hx hb dL_law_536 (by decide) (fun c_536 => absurd c_536 (((he c_514).resolve_left c_524).1)) (fun c_536 => ?_)
      refine lv_dload hx hb dL_law_539 (lv_at hl 0 rfl) ?_
      refine lv_dload hx hb dL_law_541 (lv_at hl 0 rfl) ?_
      refine w_dcmp hx hb hx1 hx1 dL_law_543 ?_
      refine lv_if_ne (tgt := 549) hx hb dL_law_544 (by decide) (fun c_544 => ?_) (fun c_544 => absurd c_544 (((he c_514).resolve_left c_524).2))
      refine lv_goto (tgt := 1402) hx hb dL_law_549 (by decide) ?_
      exact kk _ _ _ _ hd hst (lv_sub hl [2, 3, 4, 5, 6, 7] rfl)

set_option maxHeartbeats 4000000 in
set_option maxRecDepth 100000 in
theorem ch_foretold {p : Program} {l : Launch} {e : Env} {s : State} {m : MethodId} {args : Array Value} {below : List Frame} {meth : Method} {c : Code} {H : Heap} {locs : List Loc} {cells slots : Nat} {Q : State → Prop} {D : va_G} {cy ad : Nat → Nat} {d0 : Drawn} {ls : Array Slot} {ba L i : Nat} {xs : Nat → Int32} (am : Amb p s m args c cL_law 9 RL D cy ad) (hN : nC s) (hx : p.tables.exec = Jvm.exec) (hb : c.code = cL_law) (hX : va_X ba L xs s s.heap) (hbl : ba < s.heap.size) (hbA : ¬ aA ad s.heap.size ba) (hi : i + 6 ≤ L) (hL : L ≤ 3073) {I I1 I2 : Im} {G G1 G2 : Dm} {J J1 : Jm} (hd : s.drawn.sameBut d0 lw_cs) (hst : St D cy ad s.heap I G J H locs) (hl : lv_has ls 9 [(0, .ref ba), (1, .ref (ad 0)), (2, .ref (ad 53)), (3, .ref (ad 70)), (4, .ref (ad 71)), (5, .int (nI i))]) (hcl : cells + 1 ≤ 601024 ∧ slots + 6 ≤ 7293000)
    {code1 : Int32} {b0 : UInt64} (hW : nD l yL_foretold (.codeWith yL_foretold cL_foretold 4 (some .int) [(0, 8, 11, 19), (0, 8, 14, 13)]) D cy ad [.ref (ad 0), .int (xs (i + 1)), .ref (ad 71)] I G J (qI D cy ad code1 I1 G1 J1)) (hM : kD l yX5_foretold (.code yX5_foretold cX5_foretold 2 (some .double)) rU D cy ad [.ref (ad 53), .int (xs (i + 1))] I1 G1 J1 (qD D cy ad b0 I2 G2 J1)) (ht : I2 53 0 = code1) (he : code1 = 0 → dEq (G2 71 0) b0)
    (kk : ∀ (d1 : Drawn) (H1 : Heap) (locs1 : List Loc) (ls1 : Array Slot), s.drawn.sameBut d1 lw_cs → St D cy ad s.heap I2 G2 J1 H1 locs1 → lv_has ls1 9 [(0, .ref ba), (1, .ref (ad 0)), (2, .ref (ad 53)), (3, .ref (ad 70)), (4, .ref (ad 71)), (5, .int (nI i))] → W p l e room_1 (s.setDrawn d1) m args below meth c H1 locs1 (cells + 1) (slots + 6) Q (F0 m 1402 ls1 [])) :
    W p l e room_1 (s.setDrawn d0) m args below meth c H locs cells slots Q (F0 m 552 ls []) := by
  have hadI := am.2.2.2.2.2.2.1
  refine lv_aload_n hx hb dL_law_552 rfl (lv_at hl 1 rfl) ?_
  refine lv_aload_n hx hb dL_law_553 rfl (lv_at hl 0 rfl) ?_
  refine lv_iload hx hb dL_law_554 (lv_at hl 5 rfl) ?_
  refine lv_iconst (v := 1) hx hb dL_law_556 (by decide) ?_
  refine lv_iadd hx hb dL_law_557 ?_
  rw [show nI i + 1 = nI (i + 1) from nI_s i 1]
  refine w_scr hx hb hX hbl hbA hst (j := i + 1) (by omega) hL dL_law_558 ?_
  refine lv_aload hx hb dL_law_559 (lv_at hl 4 rfl) ?_
  refine c_iD hd hst (r_WN (As := [.ref (ad 0), .int (xs (i + 1)), .ref (ad 71)]) (rest := []) am hN hst hl (hW) kRL_120 smL_foretold ⟨Nat.le_of_ble_eq_true rfl, Nat.le_of_ble_eq_true rfl⟩ rfl rfl (Nat.le_of_ble_eq_true rfl) dL_law_561 ⟨hcl.1, hcl.2⟩) (fun d0 H locs hd hst => ?_)
  refine lv_istore (lv' := [(6, .int code1), (0, .ref ba), (1, .ref (ad 0)), (2, .ref (ad 53)), (3, .ref (ad 70)), (4, .ref (ad 71)), (5, .int (nI i))]) hx hb dL_law_564 hl (by decide) rfl (fun ls hl => ?_)
  refine lv_aload_n hx hb dL_law_566 rfl (lv_at hl 3 rfl) ?_
  refine lv_aload_n hx hb dL_law_567 rfl (lv_at hl 1 rfl) ?_
  refine lv_iload hx hb dL_law_568 (lv_at hl 6 rfl) ?_
  refine lv_iconst (v := 1) hx hb dL_law_570 (by decide) ?_
  refine lv_iadd hx hb dL_law_571 ?_
  rw [show nI i + 1 = nI (i + 1) from nI_s i 1]
  refine w_scr hx hb hX hbl hbA hst (j := i + 1) (by omega) hL dL_law_572 ?_
  refine c_dD hd hst (r_VD (As := [.int (xs (i + 1))]) (rest := []) am hst hl (hM) kRL_122 imX5_foretold slX5_foretold ⟨Nat.le_of_ble_eq_true rfl, Nat.le_of_ble_eq_true rfl⟩ (by decide) (fun _ _ _ => cE_M) rfl rfl rfl (Nat.le_of_ble_eq_true rfl) dL_law_573 ⟨hcl.1, hcl.2⟩) (fun x1 d0 H locs hx1 hd hst => ?_)
  refine lv_dstore (lv' := [(7, .double x1), (6, .int code1), (0, .ref ba), (1, .ref (ad 0)), (2, .ref (ad 53)), (3, .ref (ad 70)), (4, .ref (ad 71)), (5, .int (nI i))]) hx hb dL_law_576 hl (by decide) rfl (fun ls hl => ?_)
  refine lv_aload_n hx hb dL_law_578 rfl (lv_at hl 4 rfl) ?_
  refine c_i hst (r_V (As := []) (rest := []) am hst hl (k_X5_thrown hadI) kRL_92 imX5_thrown slX5_thrown ⟨Nat.le_of_ble_eq_true rfl, Nat.le_of_ble_eq_true rfl⟩ (by decide) (fun _ _ _ => cE_M) rfl rfl rfl (Nat.le_of_ble_eq_true rfl) dL_law_579 ⟨hcl.1, hcl.2⟩) (fun H locs hst => ?_)
  refine lv_iload hx hb dL_law_582 (lv_at hl 1 rfl) ?_
  refine lv_icmp_eq (tgt := 589) hx hb dL_law_584 (by decide) (fun c_584 => ?_) (fun c_584 => absurd ht c_584)
  refine lv_iload hx hb dL_law_589 (lv_at hl 1 rfl) ?_
  refine lv_if_ne (tgt := 626) hx hb dL_law_591 (by decide) (fun c_591 => ?_) (fun c_591 => ?_)
  · skip
    refine lv_goto (tgt := 1402) hx hb dL_law_626 (by decide) ?_
    exact kk _ _ _ _ hd hst (lv_sub hl [2, 3, 4, 5, 6, 7] rfl)
  · skip
    refine lv_aload hx hb dL_law_594 (lv_at hl 6 rfl) ?_
    refine lv_iconst (v := 0) hx hb dL_law_596 (by decide) ?_
    refine w_dald am hst (by decide) (fun _ _ _ => cE_71) (n := 0) rfl (vinL (by decide)) dL_law_597 (fun x2 hx2 => ?_)
    refine lv_dload hx hb dL_law_598 (lv_at hl 0 rfl) ?_
    refine w_dcmp hx hb hx2 hx1 dL_law_600 ?_
    refine lv_if_eq (tgt := 626) hx hb dL_law_601 (by decide) (fun c_601 => ?_) (fun c_601 => ?_)
    · skip
      refine lv_goto (tgt := 1402) hx hb dL_law_626 (by decide) ?_
      exact kk _ _ _ _ hd hst (lv_sub hl [2, 3, 4, 5, 6, 7] rfl)
    · skip
      refine lv_aload hx hb dL_law_604 (lv_at hl 6 rfl) ?_
      refine lv_iconst (v := 0) hx hb dL_law_606 (by decide) ?_
      refine w_dald am hst (by decide) (fun _ _ _ => cE_71) (n := 0) rfl (vinL (by decide)) dL_law_607 (fun x3 hx3 => ?_)
      refine lv_aload hx hb dL_law_608 (lv_at hl 6 rfl) ?_
      refine lv_iconst (v := 0) hx hb dL_law_610 (by decide) ?_
      refine w_dald am hst (by decide) (fun _ _ _ => cE_71) (n := 0) rfl (vinL (by decide)) dL_law_611 (fun x4 hx4 => ?_)
      refine w_dcmp hx hb hx3 hx4 dL_law_612 ?_
      refine lv_if_eq (tgt := 624) hx hb dL_law_613 (by decide) (fun c_613 => absurd c_613 (((he c_591).resolve_left c_601).1)) (fun c_613 => ?_)
      refine lv_dload hx hb dL_law_616 (lv_at hl 0 rfl) ?_
      refine lv_dload hx hb dL_law_618 (lv_at hl 0 rfl) ?_
      refine w_dcmp hx hb hx1 hx1 dL_law_620 ?_
      refine lv_if_ne (tgt := 626) hx hb dL_law_621 (by decide) (fun c_621 => ?_) (fun c_621 => absurd c_621 (((he c_591).resolve_left c_601).2))
      refine lv_goto (tgt := 1402) hx hb dL_law_626 (by decide) ?_
      exact kk _ _ _ _ hd hst (lv_sub hl [2, 3, 4, 5, 6, 7] rfl)

set_option maxHeartbeats 4000000 in
set_option maxRecDepth 100000 in
theorem ch_leftOut {p : Program} {l : Launch} {e : Env} {s : State} {m : MethodId} {args : Array Value} {below : List Frame} {meth : Method} {c : Code} {H : Heap} {locs : List Loc} {cells slots : Nat} {Q : State → Prop} {D : va_G} {cy ad : Nat → Nat} {d0 : Drawn} {ls : Array Slot} {ba L i : Nat} {xs : Nat → Int32} (am : Amb p s m args c cL_law 9 RL D cy ad) (hN : nC s) (hx : p.tables.exec = Jvm.exec) (hb : c.code = cL_law) (hX : va_X ba L xs s s.heap) (hbl : ba < s.heap.size) (hbA : ¬ aA ad s.heap.size ba) (hi : i + 6 ≤ L) (hL : L ≤ 3073) {I I1 I2 : Im} {G G1 G2 : Dm} {J J1 : Jm} (hd : s.drawn.sameBut d0 lw_cs) (hst : St D cy ad s.heap I G J H locs) (hl : lv_has ls 9 [(0, .ref ba), (1, .ref (ad 0)), (2, .ref (ad 53)), (3, .ref (ad 70)), (4, .ref (ad 71)), (5, .int (nI i))]) (hcl : cells + 1 ≤ 601024 ∧ slots + 6 ≤ 7293000)
    {code1 : Int32} {b0 : UInt64} (hW : nD l yL_leftOut (.codeWith yL_leftOut cL_leftOut 4 (some .int) [(0, 8, 11, 19), (0, 8, 14, 13)]) D cy ad [.ref (ad 0), .int (xs (i + 1)), .ref (ad 71)] I G J (qI D cy ad code1 I1 G1 J1)) (hM : kD l yX5_leftOut (.code yX5_leftOut cX5_leftOut 3 (some .double)) rU D cy ad [.ref (ad 53), .int (xs (i + 1))] I1 G1 J1 (qD D cy ad b0 I2 G2 J1)) (ht : I2 53 0 = code1) (he : code1 = 0 → dEq (G2 71 0) b0)
    (kk : ∀ (d1 : Drawn) (H1 : Heap) (locs1 : List Loc) (ls1 : Array Slot), s.drawn.sameBut d1 lw_cs → St D cy ad s.heap I2 G2 J1 H1 locs1 → lv_has ls1 9 [(0, .ref ba), (1, .ref (ad 0)), (2, .ref (ad 53)), (3, .ref (ad 70)), (4, .ref (ad 71)), (5, .int (nI i))] → W p l e room_1 (s.setDrawn d1) m args below meth c H1 locs1 (cells + 1) (slots + 6) Q (F0 m 1402 ls1 [])) :
    W p l e room_1 (s.setDrawn d0) m args below meth c H locs cells slots Q (F0 m 629 ls []) := by
  have hadI := am.2.2.2.2.2.2.1
  refine lv_aload_n hx hb dL_law_629 rfl (lv_at hl 1 rfl) ?_
  refine lv_aload_n hx hb dL_law_630 rfl (lv_at hl 0 rfl) ?_
  refine lv_iload hx hb dL_law_631 (lv_at hl 5 rfl) ?_
  refine lv_iconst (v := 1) hx hb dL_law_633 (by decide) ?_
  refine lv_iadd hx hb dL_law_634 ?_
  rw [show nI i + 1 = nI (i + 1) from nI_s i 1]
  refine w_scr hx hb hX hbl hbA hst (j := i + 1) (by omega) hL dL_law_635 ?_
  refine lv_aload hx hb dL_law_636 (lv_at hl 4 rfl) ?_
  refine c_iD hd hst (r_WN (As := [.ref (ad 0), .int (xs (i + 1)), .ref (ad 71)]) (rest := []) am hN hst hl (hW) kRL_123 smL_leftOut ⟨Nat.le_of_ble_eq_true rfl, Nat.le_of_ble_eq_true rfl⟩ rfl rfl (Nat.le_of_ble_eq_true rfl) dL_law_638 ⟨hcl.1, hcl.2⟩) (fun d0 H locs hd hst => ?_)
  refine lv_istore (lv' := [(6, .int code1), (0, .ref ba), (1, .ref (ad 0)), (2, .ref (ad 53)), (3, .ref (ad 70)), (4, .ref (ad 71)), (5, .int (nI i))]) hx hb dL_law_641 hl (by decide) rfl (fun ls hl => ?_)
  refine lv_aload_n hx hb dL_law_643 rfl (lv_at hl 3 rfl) ?_
  refine lv_aload_n hx hb dL_law_644 rfl (lv_at hl 1 rfl) ?_
  refine lv_iload hx hb dL_law_645 (lv_at hl 6 rfl) ?_
  refine lv_iconst (v := 1) hx hb dL_law_647 (by decide) ?_
  refine lv_iadd hx hb dL_law_648 ?_
  rw [show nI i + 1 = nI (i + 1) from nI_s i 1]
  refine w_scr hx hb hX hbl hbA hst (j := i + 1) (by omega) hL dL_law_649 ?_
  refine c_dD hd hst (r_VD (As := [.int (xs (i + 1))]) (rest := []) am hst hl (hM) kRL_125 imX5_leftOut slX5_leftOut ⟨Nat.le_of_ble_eq_true rfl, Nat.le_of_ble_eq_true rfl⟩ (by decide) (fun _ _ _ => cE_M) rfl rfl rfl (Nat.le_of_ble_eq_true rfl) dL_law_650 ⟨hcl.1, hcl.2⟩) (fun x1 d0 H locs hx1 hd hst => ?_)
  refine lv_dstore (lv' := [(7, .double x1), (6, .int code1), (0, .ref ba), (1, .ref (ad 0)), (2, .ref (ad 53)), (3, .ref (ad 70)), (4, .ref (ad 71)), (5, .int (nI i))]) hx hb dL_law_653 hl (by decide) rfl (fun ls hl => ?_)
  refine lv_aload_n hx hb dL_law_655 rfl (lv_at hl 4 rfl) ?_
  refine c_i hst (r_V (As := []) (rest := []) am hst hl (k_X5_thrown hadI) kRL_92 imX5_thrown slX5_thrown ⟨Nat.le_of_ble_eq_true rfl, Nat.le_of_ble_eq_true rfl⟩ (by decide) (fun _ _ _ => cE_M) rfl rfl rfl (Nat.le_of_ble_eq_true rfl) dL_law_656 ⟨hcl.1, hcl.2⟩) (fun H locs hst => ?_)
  refine lv_iload hx hb dL_law_659 (lv_at hl 1 rfl) ?_
  refine lv_icmp_eq (tgt := 666) hx hb dL_law_661 (by decide) (fun c_661 => ?_) (fun c_661 => absurd ht c_661)
  refine lv_iload hx hb dL_law_666 (lv_at hl 1 rfl) ?_
  refine lv_if_ne (tgt := 703) hx hb dL_law_668 (by decide) (fun c_668 => ?_) (fun c_668 => ?_)
  · skip
    refine lv_goto (tgt := 1402) hx hb dL_law_703 (by decide) ?_
    exact kk _ _ _ _ hd hst (lv_sub hl [2, 3, 4, 5, 6, 7] rfl)
  · skip
    refine lv_aload hx hb dL_law_671 (lv_at hl 6 rfl) ?_
    refine lv_iconst (v := 0) hx hb dL_law_673 (by decide) ?_
    refine w_dald am hst (by decide) (fun _ _ _ => cE_71) (n := 0) rfl (vinL (by decide)) dL_law_674 (fun x2 hx2 => ?_)
    refine lv_dload hx hb dL_law_675 (lv_at hl 0 rfl) ?_
    refine w_dcmp hx hb hx2 hx1 dL_law_677 ?_
    refine lv_if_eq (tgt := 703) hx hb dL_law_678 (by decide) (fun c_678 => ?_) (fun c_678 => ?_)
    · skip
      refine lv_goto (tgt := 1402) hx hb dL_law_703 (by decide) ?_
      exact kk _ _ _ _ hd hst (lv_sub hl [2, 3, 4, 5, 6, 7] rfl)
    · skip
      refine lv_aload hx hb dL_law_681 (lv_at hl 6 rfl) ?_
      refine lv_iconst (v := 0) hx hb dL_law_683 (by decide) ?_
      refine w_dald am hst (by decide) (fun _ _ _ => cE_71) (n := 0) rfl (vinL (by decide)) dL_law_684 (fun x3 hx3 => ?_)
      refine lv_aload hx hb dL_law_685 (lv_at hl 6 rfl) ?_
      refine lv_iconst (v := 0) hx hb dL_law_687 (by decide) ?_
      refine w_dald am hst (by decide) (fun _ _ _ => cE_71) (n := 0) rfl (vinL (by decide)) dL_law_688 (fun x4 hx4 => ?_)
      refine w_dcmp hx hb hx3 hx4 dL_law_689 ?_
      refine lv_if_eq (tgt := 701) hx hb dL_law_690 (by decide) (fun c_690 => absurd c_690 (((he c_668).resolve_left c_678).1)) (fun c_690 => ?_)
      refine lv_dload hx hb dL_law_693 (lv_at hl 0 rfl) ?_
      refine lv_dload hx hb dL_law_695 (lv_at hl 0 rfl) ?_
      refine w_dcmp hx hb hx1 hx1 dL_law_697 ?_
      refine lv_if_ne (tgt := 703) hx hb dL_law_698 (by decide) (fun c_698 => ?_) (fun c_698 => absurd c_698 (((he c_668).resolve_left c_678).2))
      refine lv_goto (tgt := 1402) hx hb dL_law_703 (by decide) ?_
      exact kk _ _ _ _ hd hst (lv_sub hl [2, 3, 4, 5, 6, 7] rfl)

set_option maxHeartbeats 4000000 in
set_option maxRecDepth 100000 in
theorem ch_limit {p : Program} {l : Launch} {e : Env} {s : State} {m : MethodId} {args : Array Value} {below : List Frame} {meth : Method} {c : Code} {H : Heap} {locs : List Loc} {cells slots : Nat} {Q : State → Prop} {D : va_G} {cy ad : Nat → Nat} {d0 : Drawn} {ls : Array Slot} {ba L i : Nat} {xs : Nat → Int32} (am : Amb p s m args c cL_law 9 RL D cy ad) (hN : nC s) (hx : p.tables.exec = Jvm.exec) (hb : c.code = cL_law) (hX : va_X ba L xs s s.heap) (hbl : ba < s.heap.size) (hbA : ¬ aA ad s.heap.size ba) (hi : i + 6 ≤ L) (hL : L ≤ 3073) {I I1 I2 : Im} {G G1 G2 : Dm} {J J1 : Jm} (hd : s.drawn.sameBut d0 lw_cs) (hst : St D cy ad s.heap I G J H locs) (hl : lv_has ls 9 [(0, .ref ba), (1, .ref (ad 0)), (2, .ref (ad 53)), (3, .ref (ad 70)), (4, .ref (ad 71)), (5, .int (nI i))]) (hcl : cells + 1 ≤ 601024 ∧ slots + 6 ≤ 7293000)
    {code1 : Int32} (hW : ∀ x1 : UInt64, cn x1 = Mu (FP.i2d (xs (i + 2))) 4593671619917905920 → nD l yL_limit (.codeWith yL_limit cL_limit 5 (some .int) [(0, 6, 9, 19), (0, 6, 13, 21)]) D cy ad [.ref (ad 0), .int (xs (i + 1)), .double x1] I G J (qI D cy ad code1 I1 G1 J1)) (hM : ∀ x1 : UInt64, cn x1 = Mu (FP.i2d (xs (i + 2))) 4593671619917905920 → kD l yX5_limit (.code yX5_limit cX5_limit 4 none) rU D cy ad [.ref (ad 53), .int (xs (i + 1)), .double x1] I1 G1 J1 (qV D cy ad I2 G2 J1)) (ht : I2 53 0 = code1) 
    (kk : ∀ (d1 : Drawn) (H1 : Heap) (locs1 : List Loc) (ls1 : Array Slot), s.drawn.sameBut d1 lw_cs → St D cy ad s.heap I2 G2 J1 H1 locs1 → lv_has ls1 9 [(0, .ref ba), (1, .ref (ad 0)), (2, .ref (ad 53)), (3, .ref (ad 70)), (4, .ref (ad 71)), (5, .int (nI i))] → W p l e room_1 (s.setDrawn d1) m args below meth c H1 locs1 (cells + 1) (slots + 6) Q (F0 m 1402 ls1 [])) :
    W p l e room_1 (s.setDrawn d0) m args below meth c H locs cells slots Q (F0 m 706 ls []) := by
  have hadI := am.2.2.2.2.2.2.1
  refine lv_aload_n hx hb dL_law_706 rfl (lv_at hl 1 rfl) ?_
  refine lv_aload_n hx hb dL_law_707 rfl (lv_at hl 0 rfl) ?_
  refine lv_iload hx hb dL_law_708 (lv_at hl 5 rfl) ?_
  refine lv_iconst (v := 1) hx hb dL_law_710 (by decide) ?_
  refine lv_iadd hx hb dL_law_711 ?_
  rw [show nI i + 1 = nI (i + 1) from nI_s i 1]
  refine w_scr hx hb hX hbl hbA hst (j := i + 1) (by omega) hL dL_law_712 ?_
  refine lv_aload_n hx hb dL_law_713 rfl (lv_at hl 0 rfl) ?_
  refine lv_iload hx hb dL_law_714 (lv_at hl 5 rfl) ?_
  refine lv_iconst (v := 2) hx hb dL_law_716 (by decide) ?_
  refine lv_iadd hx hb dL_law_717 ?_
  rw [show nI i + 2 = nI (i + 2) from nI_s i 2]
  refine w_scr hx hb hX hbl hbA hst (j := i + 2) (by omega) hL dL_law_718 ?_
  refine w_i2d hx hb dL_law_719 (fun x1 hx1 => ?_)
  refine lv_ldc2d hx hb am.2.2.2.1 (amT am _ wRL_95) dL_law_720 ?_
  refine w_dmul hd hx hb hx1 cn_k4593671619917905920 dL_law_723 (fun x2 d0 hx2 hd => ?_)
  refine c_iD hd hst (r_WN (As := [.ref (ad 0), .int (xs (i + 1)), .double x2]) (rest := []) am hN hst hl (hW _ hx2) kRL_126 smL_limit ⟨Nat.le_of_ble_eq_true rfl, Nat.le_of_ble_eq_true rfl⟩ rfl rfl (Nat.le_of_ble_eq_true rfl) dL_law_724 ⟨hcl.1, hcl.2⟩) (fun d0 H locs hd hst => ?_)
  refine lv_istore (lv' := [(6, .int code1), (0, .ref ba), (1, .ref (ad 0)), (2, .ref (ad 53)), (3, .ref (ad 70)), (4, .ref (ad 71)), (5, .int (nI i))]) hx hb dL_law_727 hl (by decide) rfl (fun ls hl => ?_)
  refine lv_aload_n hx hb dL_law_729 rfl (lv_at hl 3 rfl) ?_
  refine lv_aload_n hx hb dL_law_730 rfl (lv_at hl 1 rfl) ?_
  refine lv_iload hx hb dL_law_731 (lv_at hl 6 rfl) ?_
  refine lv_iconst (v := 1) hx hb dL_law_733 (by decide) ?_
  refine lv_iadd hx hb dL_law_734 ?_
  rw [show nI i + 1 = nI (i + 1) from nI_s i 1]
  refine w_scr hx hb hX hbl hbA hst (j := i + 1) (by omega) hL dL_law_735 ?_
  refine lv_aload_n hx hb dL_law_736 rfl (lv_at hl 1 rfl) ?_
  refine lv_iload hx hb dL_law_737 (lv_at hl 6 rfl) ?_
  refine lv_iconst (v := 2) hx hb dL_law_739 (by decide) ?_
  refine lv_iadd hx hb dL_law_740 ?_
  rw [show nI i + 2 = nI (i + 2) from nI_s i 2]
  refine w_scr hx hb hX hbl hbA hst (j := i + 2) (by omega) hL dL_law_741 ?_
  refine w_i2d hx hb dL_law_742 (fun x3 hx3 => ?_)
  refine lv_ldc2d hx hb am.2.2.2.1 (amT am _ wRL_95) dL_law_743 ?_
  refine w_dmul hd hx hb hx3 cn_k4593671619917905920 dL_law_746 (fun x4 d0 hx4 hd => ?_)
  refine c_vD hd hst (r_VD (As := [.int (xs (i + 1)), .double x4]) (rest := []) am hst hl (hM _ hx4) kRL_128 imX5_limit slX5_limit ⟨Nat.le_of_ble_eq_true rfl, Nat.le_of_ble_eq_true rfl⟩ (by decide) (fun _ _ _ => cE_M) rfl rfl rfl (Nat.le_of_ble_eq_true rfl) dL_law_747 ⟨hcl.1, hcl.2⟩) (fun d0 H locs hd hst => ?_)
  refine lv_aload_n hx hb dL_law_750 rfl (lv_at hl 3 rfl) ?_
  refine c_i hst (r_V (As := []) (rest := []) am hst hl (k_X5_thrown hadI) kRL_92 imX5_thrown slX5_thrown ⟨Nat.le_of_ble_eq_true rfl, Nat.le_of_ble_eq_true rfl⟩ (by decide) (fun _ _ _ => cE_M) rfl rfl rfl (Nat.le_of_ble_eq_true rfl) dL_law_751 ⟨hcl.1, hcl.2⟩) (fun H locs hst => ?_)
  refine lv_iload hx hb dL_law_754 (lv_at hl 0 rfl) ?_
  refine lv_icmp_eq (tgt := 761) hx hb dL_law_756 (by decide) (fun c_756 => ?_) (fun c_756 => absurd ht c_756)
  refine lv_goto (tgt := 1402) hx hb dL_law_761 (by decide) ?_
  exact kk _ _ _ _ hd hst (lv_sub hl [1, 2, 3, 4, 5, 6] rfl)

set_option maxHeartbeats 4000000 in
set_option maxRecDepth 100000 in
theorem ch_setting {p : Program} {l : Launch} {e : Env} {s : State} {m : MethodId} {args : Array Value} {below : List Frame} {meth : Method} {c : Code} {H : Heap} {locs : List Loc} {cells slots : Nat} {Q : State → Prop} {D : va_G} {cy ad : Nat → Nat} {d0 : Drawn} {ls : Array Slot} {ba L i : Nat} {xs : Nat → Int32} (am : Amb p s m args c cL_law 9 RL D cy ad) (hN : nC s) (hx : p.tables.exec = Jvm.exec) (hb : c.code = cL_law) (hX : va_X ba L xs s s.heap) (hbl : ba < s.heap.size) (hbA : ¬ aA ad s.heap.size ba) (hi : i + 6 ≤ L) (hL : L ≤ 3073) {I I1 I2 : Im} {G G1 G2 : Dm} {J J1 : Jm} (hd : s.drawn.sameBut d0 lw_cs) (hst : St D cy ad s.heap I G J H locs) (hl : lv_has ls 9 [(0, .ref ba), (1, .ref (ad 0)), (2, .ref (ad 53)), (3, .ref (ad 70)), (4, .ref (ad 71)), (5, .int (nI i))]) (hcl : cells + 1 ≤ 601024 ∧ slots + 6 ≤ 7293000)
    {code1 : Int32} {b0 : Int32} (hW : nD l yL_setting (.codeWith yL_setting cL_setting 6 (some .int) [(0, 12, 15, 19), (0, 12, 19, 21)]) D cy ad [.ref (ad 0), .int (xs (i + 1)), .int (xs (i + 2)), .int (xs (i + 3)), .ref (ad 70)] I G J (qI D cy ad code1 I1 G1 J1)) (hM : kD l yX5_setting (.code yX5_setting cX5_setting 9 (some .int)) rU D cy ad [.ref (ad 53), .int (xs (i + 1)), .int (xs (i + 2)), .int (xs (i + 3))] I1 G1 J1 (qI D cy ad b0 I2 G2 J1)) (ht : I2 53 0 = code1) (he : code1 = 0 → J1 70 0 = b0.toInt64)
    (kk : ∀ (d1 : Drawn) (H1 : Heap) (locs1 : List Loc) (ls1 : Array Slot), s.drawn.sameBut d1 lw_cs → St D cy ad s.heap I2 G2 J1 H1 locs1 → lv_has ls1 9 [(0, .ref ba), (1, .ref (ad 0)), (2, .ref (ad 53)), (3, .ref (ad 70)), (4, .ref (ad 71)), (5, .int (nI i))] → W p l e room_1 (s.setDrawn d1) m args below meth c H1 locs1 (cells + 1) (slots + 6) Q (F0 m 1402 ls1 [])) :
    W p l e room_1 (s.setDrawn d0) m args below meth c H locs cells slots Q (F0 m 764 ls []) := by
  have hadI := am.2.2.2.2.2.2.1
  refine lv_aload_n hx hb dL_law_764 rfl (lv_at hl 1 rfl) ?_
  refine lv_aload_n hx hb dL_law_765 rfl (lv_at hl 0 rfl) ?_
  refine lv_iload hx hb dL_law_766 (lv_at hl 5 rfl) ?_
  refine lv_iconst (v := 1) hx hb dL_law_768 (by decide) ?_
  refine lv_iadd hx hb dL_law_769 ?_
  rw [show nI i + 1 = nI (i + 1) from nI_s i 1]
  refine w_scr hx hb hX hbl hbA hst (j := i + 1) (by omega) hL dL_law_770 ?_
  refine lv_aload_n hx hb dL_law_771 rfl (lv_at hl 0 rfl) ?_
  refine lv_iload hx hb dL_law_772 (lv_at hl 5 rfl) ?_
  refine lv_iconst (v := 2) hx hb dL_law_774 (by decide) ?_
  refine lv_iadd hx hb dL_law_775 ?_
  rw [show nI i + 2 = nI (i + 2) from nI_s i 2]
  refine w_scr hx hb hX hbl hbA hst (j := i + 2) (by omega) hL dL_law_776 ?_
  refine lv_aload_n hx hb dL_law_777 rfl (lv_at hl 0 rfl) ?_
  refine lv_iload hx hb dL_law_778 (lv_at hl 5 rfl) ?_
  refine lv_iconst (v := 3) hx hb dL_law_780 (by decide) ?_
  refine lv_iadd hx hb dL_law_781 ?_
  rw [show nI i + 3 = nI (i + 3) from nI_s i 3]
  refine w_scr hx hb hX hbl hbA hst (j := i + 3) (by omega) hL dL_law_782 ?_
  refine lv_aload_n hx hb dL_law_783 rfl (lv_at hl 3 rfl) ?_
  refine c_iD hd hst (r_WN (As := [.ref (ad 0), .int (xs (i + 1)), .int (xs (i + 2)), .int (xs (i + 3)), .ref (ad 70)]) (rest := []) am hN hst hl (hW) kRL_129 smL_setting ⟨Nat.le_of_ble_eq_true rfl, Nat.le_of_ble_eq_true rfl⟩ rfl rfl (Nat.le_of_ble_eq_true rfl) dL_law_784 ⟨hcl.1, hcl.2⟩) (fun d0 H locs hd hst => ?_)
  refine lv_istore (lv' := [(6, .int code1), (0, .ref ba), (1, .ref (ad 0)), (2, .ref (ad 53)), (3, .ref (ad 70)), (4, .ref (ad 71)), (5, .int (nI i))]) hx hb dL_law_787 hl (by decide) rfl (fun ls hl => ?_)
  refine lv_aload_n hx hb dL_law_789 rfl (lv_at hl 3 rfl) ?_
  refine lv_aload_n hx hb dL_law_790 rfl (lv_at hl 1 rfl) ?_
  refine lv_iload hx hb dL_law_791 (lv_at hl 6 rfl) ?_
  refine lv_iconst (v := 1) hx hb dL_law_793 (by decide) ?_
  refine lv_iadd hx hb dL_law_794 ?_
  rw [show nI i + 1 = nI (i + 1) from nI_s i 1]
  refine w_scr hx hb hX hbl hbA hst (j := i + 1) (by omega) hL dL_law_795 ?_
  refine lv_aload_n hx hb dL_law_796 rfl (lv_at hl 1 rfl) ?_
  refine lv_iload hx hb dL_law_797 (lv_at hl 6 rfl) ?_
  refine lv_iconst (v := 2) hx hb dL_law_799 (by decide) ?_
  refine lv_iadd hx hb dL_law_800 ?_
  rw [show nI i + 2 = nI (i + 2) from nI_s i 2]
  refine w_scr hx hb hX hbl hbA hst (j := i + 2) (by omega) hL dL_law_801 ?_
  refine lv_aload_n hx hb dL_law_802 rfl (lv_at hl 1 rfl) ?_
  refine lv_iload hx hb dL_law_803 (lv_at hl 6 rfl) ?_
  refine lv_iconst (v := 3) hx hb dL_law_805 (by decide) ?_
  refine lv_iadd hx hb dL_law_806 ?_
  rw [show nI i + 3 = nI (i + 3) from nI_s i 3]
  refine w_scr hx hb hX hbl hbA hst (j := i + 3) (by omega) hL dL_law_807 ?_
  refine c_iD hd hst (r_VD (As := [.int (xs (i + 1)), .int (xs (i + 2)), .int (xs (i + 3))]) (rest := []) am hst hl (hM) kRL_132 imX5_setting slX5_setting ⟨Nat.le_of_ble_eq_true rfl, Nat.le_of_ble_eq_true rfl⟩ (by decide) (fun _ _ _ => cE_M) rfl rfl rfl (Nat.le_of_ble_eq_true rfl) dL_law_808 ⟨hcl.1, hcl.2⟩) (fun d0 H locs hd hst => ?_)
  refine lv_istore (lv' := [(7, .int b0), (6, .int code1), (0, .ref ba), (1, .ref (ad 0)), (2, .ref (ad 53)), (3, .ref (ad 70)), (4, .ref (ad 71)), (5, .int (nI i))]) hx hb dL_law_811 hl (by decide) rfl (fun ls hl => ?_)
  refine lv_aload_n hx hb dL_law_813 rfl (lv_at hl 4 rfl) ?_
  refine c_i hst (r_V (As := []) (rest := []) am hst hl (k_X5_thrown hadI) kRL_92 imX5_thrown slX5_thrown ⟨Nat.le_of_ble_eq_true rfl, Nat.le_of_ble_eq_true rfl⟩ (by decide) (fun _ _ _ => cE_M) rfl rfl rfl (Nat.le_of_ble_eq_true rfl) dL_law_814 ⟨hcl.1, hcl.2⟩) (fun H locs hst => ?_)
  refine lv_iload hx hb dL_law_817 (lv_at hl 1 rfl) ?_
  refine lv_icmp_eq (tgt := 824) hx hb dL_law_819 (by decide) (fun c_819 => ?_) (fun c_819 => absurd ht c_819)
  refine lv_iload hx hb dL_law_824 (lv_at hl 1 rfl) ?_
  refine lv_if_ne (tgt := 841) hx hb dL_law_826 (by decide) (fun c_826 => ?_) (fun c_826 => ?_)
  · skip
    refine lv_goto (tgt := 1402) hx hb dL_law_841 (by decide) ?_
    exact kk _ _ _ _ hd hst (lv_sub hl [2, 3, 4, 5, 6, 7] rfl)
  · skip
    refine lv_aload_n hx hb dL_law_829 rfl (lv_at hl 5 rfl) ?_
    refine lv_iconst (v := 0) hx hb dL_law_830 (by decide) ?_
    refine w_lald am hst (by decide) (fun _ _ _ => cE_70) (n := 0) rfl (vinL (by decide)) dL_law_831 ?_
    refine lv_iload hx hb dL_law_832 (lv_at hl 0 rfl) ?_
    refine lv_i2l hx hb dL_law_834 rfl ?_
    refine W.lcmp hx hb dL_law_835 ?_
    refine lv_if_eq (tgt := 841) hx hb dL_law_836 (by decide) (fun c_836 => ?_) (fun c_836 => absurd ((lg_cmp0.mpr (he c_826))) c_836)
    refine lv_goto (tgt := 1402) hx hb dL_law_841 (by decide) ?_
    exact kk _ _ _ _ hd hst (lv_sub hl [2, 3, 4, 5, 6, 7] rfl)

set_option maxHeartbeats 4000000 in
set_option maxRecDepth 100000 in
theorem ch_odds {p : Program} {l : Launch} {e : Env} {s : State} {m : MethodId} {args : Array Value} {below : List Frame} {meth : Method} {c : Code} {H : Heap} {locs : List Loc} {cells slots : Nat} {Q : State → Prop} {D : va_G} {cy ad : Nat → Nat} {d0 : Drawn} {ls : Array Slot} {ba L i : Nat} {xs : Nat → Int32} (am : Amb p s m args c cL_law 9 RL D cy ad) (hN : nC s) (hx : p.tables.exec = Jvm.exec) (hb : c.code = cL_law) (hX : va_X ba L xs s s.heap) (hbl : ba < s.heap.size) (hbA : ¬ aA ad s.heap.size ba) (hi : i + 6 ≤ L) (hL : L ≤ 3073) {I I1 I2 : Im} {G G1 G2 : Dm} {J J1 : Jm} (hd : s.drawn.sameBut d0 lw_cs) (hst : St D cy ad s.heap I G J H locs) (hl : lv_has ls 9 [(0, .ref ba), (1, .ref (ad 0)), (2, .ref (ad 53)), (3, .ref (ad 70)), (4, .ref (ad 71)), (5, .int (nI i))]) (hcl : cells + 1 ≤ 601024 ∧ slots + 6 ≤ 7293000)
    {code1 : Int32} {b0 : Int64} (hW : nD l yL_odds (.codeWith yL_odds cL_odds 8 (some .int) [(0, 15, 18, 19), (0, 15, 22, 21)]) D cy ad [.ref (ad 0), .int (xs (i + 1)), .int (xs (i + 2)), .int (xs (i + 3)), .int (xs (i + 4)), .int (xs (i + 5)), .ref (ad 70)] I G J (qI D cy ad code1 I1 G1 J1)) (hM : kD l yX5_odds (.code yX5_odds cX5_odds 17 (some .long)) rU D cy ad [.ref (ad 53), .int (xs (i + 1)), .int (xs (i + 2)), .int (xs (i + 3)), .int (xs (i + 4)), .int (xs (i + 5))] I1 G1 J1 (qL D cy ad b0 I2 G2 J1)) (ht : I2 53 0 = code1) (he : code1 = 0 → J1 70 0 = b0)
    (kk : ∀ (d1 : Drawn) (H1 : Heap) (locs1 : List Loc) (ls1 : Array Slot), s.drawn.sameBut d1 lw_cs → St D cy ad s.heap I2 G2 J1 H1 locs1 → lv_has ls1 9 [(0, .ref ba), (1, .ref (ad 0)), (2, .ref (ad 53)), (3, .ref (ad 70)), (4, .ref (ad 71)), (5, .int (nI i))] → W p l e room_1 (s.setDrawn d1) m args below meth c H1 locs1 (cells + 1) (slots + 6) Q (F0 m 1402 ls1 [])) :
    W p l e room_1 (s.setDrawn d0) m args below meth c H locs cells slots Q (F0 m 844 ls []) := by
  have hadI := am.2.2.2.2.2.2.1
  refine lv_aload_n hx hb dL_law_844 rfl (lv_at hl 1 rfl) ?_
  refine lv_aload_n hx hb dL_law_845 rfl (lv_at hl 0 rfl) ?_
  refine lv_iload hx hb dL_law_846 (lv_at hl 5 rfl) ?_
  refine lv_iconst (v := 1) hx hb dL_law_848 (by decide) ?_
  refine lv_iadd hx hb dL_law_849 ?_
  rw [show nI i + 1 = nI (i + 1) from nI_s i 1]
  refine w_scr hx hb hX hbl hbA hst (j := i + 1) (by omega) hL dL_law_850 ?_
  refine lv_aload_n hx hb dL_law_851 rfl (lv_at hl 0 rfl) ?_
  refine lv_iload hx hb dL_law_852 (lv_at hl 5 rfl) ?_
  refine lv_iconst (v := 2) hx hb dL_law_854 (by decide) ?_
  refine lv_iadd hx hb dL_law_855 ?_
  rw [show nI i + 2 = nI (i + 2) from nI_s i 2]
  refine w_scr hx hb hX hbl hbA hst (j := i + 2) (by omega) hL dL_law_856 ?_
  refine lv_aload_n hx hb dL_law_857 rfl (lv_at hl 0 rfl) ?_
  refine lv_iload hx hb dL_law_858 (lv_at hl 5 rfl) ?_
  refine lv_iconst (v := 3) hx hb dL_law_860 (by decide) ?_
  refine lv_iadd hx hb dL_law_861 ?_
  rw [show nI i + 3 = nI (i + 3) from nI_s i 3]
  refine w_scr hx hb hX hbl hbA hst (j := i + 3) (by omega) hL dL_law_862 ?_
  refine lv_aload_n hx hb dL_law_863 rfl (lv_at hl 0 rfl) ?_
  refine lv_iload hx hb dL_law_864 (lv_at hl 5 rfl) ?_
  refine lv_iconst (v := 4) hx hb dL_law_866 (by decide) ?_
  refine lv_iadd hx hb dL_law_867 ?_
  rw [show nI i + 4 = nI (i + 4) from nI_s i 4]
  refine w_scr hx hb hX hbl hbA hst (j := i + 4) (by omega) hL dL_law_868 ?_
  refine lv_aload_n hx hb dL_law_869 rfl (lv_at hl 0 rfl) ?_
  refine lv_iload hx hb dL_law_870 (lv_at hl 5 rfl) ?_
  refine lv_iconst (v := 5) hx hb dL_law_872 (by decide) ?_
  refine lv_iadd hx hb dL_law_873 ?_
  rw [show nI i + 5 = nI (i + 5) from nI_s i 5]
  refine w_scr hx hb hX hbl hbA hst (j := i + 5) (by omega) hL dL_law_874 ?_
  refine lv_aload_n hx hb dL_law_875 rfl (lv_at hl 3 rfl) ?_
  refine c_iD hd hst (r_WN (As := [.ref (ad 0), .int (xs (i + 1)), .int (xs (i + 2)), .int (xs (i + 3)), .int (xs (i + 4)), .int (xs (i + 5)), .ref (ad 70)]) (rest := []) am hN hst hl (hW) kRL_133 smL_odds ⟨Nat.le_of_ble_eq_true rfl, Nat.le_of_ble_eq_true rfl⟩ rfl rfl (Nat.le_of_ble_eq_true rfl) dL_law_876 ⟨hcl.1, hcl.2⟩) (fun d0 H locs hd hst => ?_)
  refine lv_istore (lv' := [(6, .int code1), (0, .ref ba), (1, .ref (ad 0)), (2, .ref (ad 53)), (3, .ref (ad 70)), (4, .ref (ad 71)), (5, .int (nI i))]) hx hb dL_law_879 hl (by decide) rfl (fun ls hl => ?_)
  refine lv_aload_n hx hb dL_law_881 rfl (lv_at hl 3 rfl) ?_
  refine lv_aload_n hx hb dL_law_882 rfl (lv_at hl 1 rfl) ?_
  refine lv_iload hx hb dL_law_883 (lv_at hl 6 rfl) ?_
  refine lv_iconst (v := 1) hx hb dL_law_885 (by decide) ?_
  refine lv_iadd hx hb dL_law_886 ?_
  rw [show nI i + 1 = nI (i + 1) from nI_s i 1]
  refine w_scr hx hb hX hbl hbA hst (j := i + 1) (by omega) hL dL_law_887 ?_
  refine lv_aload_n hx hb dL_law_888 rfl (lv_at hl 1 rfl) ?_
  refine lv_iload hx hb dL_law_889 (lv_at hl 6 rfl) ?_
  refine lv_iconst (v := 2) hx hb dL_law_891 (by decide) ?_
  refine lv_iadd hx hb dL_law_892 ?_
  rw [show nI i + 2 = nI (i + 2) from nI_s i 2]
  refine w_scr hx hb hX hbl hbA hst (j := i + 2) (by omega) hL dL_law_893 ?_
  refine lv_aload_n hx hb dL_law_894 rfl (lv_at hl 1 rfl) ?_
  refine lv_iload hx hb dL_law_895 (lv_at hl 6 rfl) ?_
  refine lv_iconst (v := 3) hx hb dL_law_897 (by decide) ?_
  refine lv_iadd hx hb dL_law_898 ?_
  rw [show nI i + 3 = nI (i + 3) from nI_s i 3]
  refine w_scr hx hb hX hbl hbA hst (j := i + 3) (by omega) hL dL_law_899 ?_
  refine lv_aload_n hx hb dL_law_900 rfl (lv_at hl 1 rfl) ?_
  refine lv_iload hx hb dL_law_901 (lv_at hl 6 rfl) ?_
  refine lv_iconst (v := 4) hx hb dL_law_903 (by decide) ?_
  refine lv_iadd hx hb dL_law_904 ?_
  rw [show nI i + 4 = nI (i + 4) from nI_s i 4]
  refine w_scr hx hb hX hbl hbA hst (j := i + 4) (by omega) hL dL_law_905 ?_
  refine lv_aload_n hx hb dL_law_906 rfl (lv_at hl 1 rfl) ?_
  refine lv_iload hx hb dL_law_907 (lv_at hl 6 rfl) ?_
  refine lv_iconst (v := 5) hx hb dL_law_909 (by decide) ?_
  refine lv_iadd hx hb dL_law_910 ?_
  rw [show nI i + 5 = nI (i + 5) from nI_s i 5]
  refine w_scr hx hb hX hbl hbA hst (j := i + 5) (by omega) hL dL_law_911 ?_
  refine c_lD hd hst (r_VD (As := [.int (xs (i + 1)), .int (xs (i + 2)), .int (xs (i + 3)), .int (xs (i + 4)), .int (xs (i + 5))]) (rest := []) am hst hl (hM) kRL_136 imX5_odds slX5_odds ⟨Nat.le_of_ble_eq_true rfl, Nat.le_of_ble_eq_true rfl⟩ (by decide) (fun _ _ _ => cE_M) rfl rfl rfl (Nat.le_of_ble_eq_true rfl) dL_law_912 ⟨hcl.1, hcl.2⟩) (fun d0 H locs hd hst => ?_)
  refine lv_lstore (lv' := [(7, .long b0), (6, .int code1), (0, .ref ba), (1, .ref (ad 0)), (2, .ref (ad 53)), (3, .ref (ad 70)), (4, .ref (ad 71)), (5, .int (nI i))]) hx hb dL_law_915 hl (by decide) rfl (fun ls hl => ?_)
  refine lv_aload_n hx hb dL_law_917 rfl (lv_at hl 4 rfl) ?_
  refine c_i hst (r_V (As := []) (rest := []) am hst hl (k_X5_thrown hadI) kRL_92 imX5_thrown slX5_thrown ⟨Nat.le_of_ble_eq_true rfl, Nat.le_of_ble_eq_true rfl⟩ (by decide) (fun _ _ _ => cE_M) rfl rfl rfl (Nat.le_of_ble_eq_true rfl) dL_law_918 ⟨hcl.1, hcl.2⟩) (fun H locs hst => ?_)
  refine lv_iload hx hb dL_law_921 (lv_at hl 1 rfl) ?_
  refine lv_icmp_eq (tgt := 928) hx hb dL_law_923 (by decide) (fun c_923 => ?_) (fun c_923 => absurd ht c_923)
  refine lv_iload hx hb dL_law_928 (lv_at hl 1 rfl) ?_
  refine lv_if_ne (tgt := 944) hx hb dL_law_930 (by decide) (fun c_930 => ?_) (fun c_930 => ?_)
  · skip
    refine lv_goto (tgt := 1402) hx hb dL_law_944 (by decide) ?_
    exact kk _ _ _ _ hd hst (lv_sub hl [2, 3, 4, 5, 6, 7] rfl)
  · skip
    refine lv_aload_n hx hb dL_law_933 rfl (lv_at hl 5 rfl) ?_
    refine lv_iconst (v := 0) hx hb dL_law_934 (by decide) ?_
    refine w_lald am hst (by decide) (fun _ _ _ => cE_70) (n := 0) rfl (vinL (by decide)) dL_law_935 ?_
    refine lv_lload hx hb dL_law_936 (lv_at hl 0 rfl) ?_
    refine W.lcmp hx hb dL_law_938 ?_
    refine lv_if_eq (tgt := 944) hx hb dL_law_939 (by decide) (fun c_939 => ?_) (fun c_939 => absurd ((lg_cmp0.mpr (he c_930))) c_939)
    refine lv_goto (tgt := 1402) hx hb dL_law_944 (by decide) ?_
    exact kk _ _ _ _ hd hst (lv_sub hl [2, 3, 4, 5, 6, 7] rfl)

set_option maxHeartbeats 4000000 in
set_option maxRecDepth 100000 in
theorem ch_chart {p : Program} {l : Launch} {e : Env} {s : State} {m : MethodId} {args : Array Value} {below : List Frame} {meth : Method} {c : Code} {H : Heap} {locs : List Loc} {cells slots : Nat} {Q : State → Prop} {D : va_G} {cy ad : Nat → Nat} {d0 : Drawn} {ls : Array Slot} {ba L i : Nat} {xs : Nat → Int32} (am : Amb p s m args c cL_law 9 RL D cy ad) (hN : nC s) (hx : p.tables.exec = Jvm.exec) (hb : c.code = cL_law) (hX : va_X ba L xs s s.heap) (hbl : ba < s.heap.size) (hbA : ¬ aA ad s.heap.size ba) (hi : i + 6 ≤ L) (hL : L ≤ 3073) {I I1 I2 : Im} {G G1 G2 : Dm} {J J1 : Jm} (hd : s.drawn.sameBut d0 lw_cs) (hst : St D cy ad s.heap I G J H locs) (hl : lv_has ls 9 [(0, .ref ba), (1, .ref (ad 0)), (2, .ref (ad 53)), (3, .ref (ad 70)), (4, .ref (ad 71)), (5, .int (nI i))]) (hcl : cells + 1 ≤ 601024 ∧ slots + 6 ≤ 7293000)
    {code1 : Int32} (hW : nD l yL_chart (.codeWith yL_chart cL_chart 4 (some .int) [(0, 6, 9, 21)]) D cy ad [.ref (ad 0), .int (xs (i + 1)), .int (xs (i + 2))] I G J (qI D cy ad code1 I1 G1 J1)) (hM : kD l yX5_chart (.code yX5_chart cX5_chart 3 none) rU D cy ad [.ref (ad 53), .int (xs (i + 1)), .int (xs (i + 2))] I1 G1 J1 (qV D cy ad I2 G2 J1)) (ht : I2 53 0 = code1) 
    (kk : ∀ (d1 : Drawn) (H1 : Heap) (locs1 : List Loc) (ls1 : Array Slot), s.drawn.sameBut d1 lw_cs → St D cy ad s.heap I2 G2 J1 H1 locs1 → lv_has ls1 9 [(0, .ref ba), (1, .ref (ad 0)), (2, .ref (ad 53)), (3, .ref (ad 70)), (4, .ref (ad 71)), (5, .int (nI i))] → W p l e room_1 (s.setDrawn d1) m args below meth c H1 locs1 (cells + 1) (slots + 6) Q (F0 m 1402 ls1 [])) :
    W p l e room_1 (s.setDrawn d0) m args below meth c H locs cells slots Q (F0 m 947 ls []) := by
  have hadI := am.2.2.2.2.2.2.1
  refine lv_aload_n hx hb dL_law_947 rfl (lv_at hl 1 rfl) ?_
  refine lv_aload_n hx hb dL_law_948 rfl (lv_at hl 0 rfl) ?_
  refine lv_iload hx hb dL_law_949 (lv_at hl 5 rfl) ?_
  refine lv_iconst (v := 1) hx hb dL_law_951 (by decide) ?_
  refine lv_iadd hx hb dL_law_952 ?_
  rw [show nI i + 1 = nI (i + 1) from nI_s i 1]
  refine w_scr hx hb hX hbl hbA hst (j := i + 1) (by omega) hL dL_law_953 ?_
  refine lv_aload_n hx hb dL_law_954 rfl (lv_at hl 0 rfl) ?_
  refine lv_iload hx hb dL_law_955 (lv_at hl 5 rfl) ?_
  refine lv_iconst (v := 2) hx hb dL_law_957 (by decide) ?_
  refine lv_iadd hx hb dL_law_958 ?_
  rw [show nI i + 2 = nI (i + 2) from nI_s i 2]
  refine w_scr hx hb hX hbl hbA hst (j := i + 2) (by omega) hL dL_law_959 ?_
  refine c_iD hd hst (r_WN (As := [.ref (ad 0), .int (xs (i + 1)), .int (xs (i + 2))]) (rest := []) am hN hst hl (hW) kRL_137 smL_chart ⟨Nat.le_of_ble_eq_true rfl, Nat.le_of_ble_eq_true rfl⟩ rfl rfl (Nat.le_of_ble_eq_true rfl) dL_law_960 ⟨hcl.1, hcl.2⟩) (fun d0 H locs hd hst => ?_)
  refine lv_istore (lv' := [(6, .int code1), (0, .ref ba), (1, .ref (ad 0)), (2, .ref (ad 53)), (3, .ref (ad 70)), (4, .ref (ad 71)), (5, .int (nI i))]) hx hb dL_law_963 hl (by decide) rfl (fun ls hl => ?_)
  refine lv_aload_n hx hb dL_law_965 rfl (lv_at hl 3 rfl) ?_
  refine lv_aload_n hx hb dL_law_966 rfl (lv_at hl 1 rfl) ?_
  refine lv_iload hx hb dL_law_967 (lv_at hl 6 rfl) ?_
  refine lv_iconst (v := 1) hx hb dL_law_969 (by decide) ?_
  refine lv_iadd hx hb dL_law_970 ?_
  rw [show nI i + 1 = nI (i + 1) from nI_s i 1]
  refine w_scr hx hb hX hbl hbA hst (j := i + 1) (by omega) hL dL_law_971 ?_
  refine lv_aload_n hx hb dL_law_972 rfl (lv_at hl 1 rfl) ?_
  refine lv_iload hx hb dL_law_973 (lv_at hl 6 rfl) ?_
  refine lv_iconst (v := 2) hx hb dL_law_975 (by decide) ?_
  refine lv_iadd hx hb dL_law_976 ?_
  rw [show nI i + 2 = nI (i + 2) from nI_s i 2]
  refine w_scr hx hb hX hbl hbA hst (j := i + 2) (by omega) hL dL_law_977 ?_
  refine c_vD hd hst (r_VD (As := [.int (xs (i + 1)), .int (xs (i + 2))]) (rest := []) am hst hl (hM) kRL_140 imX5_chart slX5_chart ⟨Nat.le_of_ble_eq_true rfl, Nat.le_of_ble_eq_true rfl⟩ (by decide) (fun _ _ _ => cE_M) rfl rfl rfl (Nat.le_of_ble_eq_true rfl) dL_law_978 ⟨hcl.1, hcl.2⟩) (fun d0 H locs hd hst => ?_)
  refine lv_aload_n hx hb dL_law_981 rfl (lv_at hl 3 rfl) ?_
  refine c_i hst (r_V (As := []) (rest := []) am hst hl (k_X5_thrown hadI) kRL_92 imX5_thrown slX5_thrown ⟨Nat.le_of_ble_eq_true rfl, Nat.le_of_ble_eq_true rfl⟩ (by decide) (fun _ _ _ => cE_M) rfl rfl rfl (Nat.le_of_ble_eq_true rfl) dL_law_982 ⟨hcl.1, hcl.2⟩) (fun H locs hst => ?_)
  refine lv_iload hx hb dL_law_985 (lv_at hl 0 rfl) ?_
  refine lv_icmp_eq (tgt := 992) hx hb dL_law_987 (by decide) (fun c_987 => ?_) (fun c_987 => absurd ht c_987)
  refine lv_goto (tgt := 1402) hx hb dL_law_992 (by decide) ?_
  exact kk _ _ _ _ hd hst (lv_sub hl [1, 2, 3, 4, 5, 6] rfl)

set_option maxHeartbeats 4000000 in
set_option maxRecDepth 100000 in
theorem ch_test {p : Program} {l : Launch} {e : Env} {s : State} {m : MethodId} {args : Array Value} {below : List Frame} {meth : Method} {c : Code} {H : Heap} {locs : List Loc} {cells slots : Nat} {Q : State → Prop} {D : va_G} {cy ad : Nat → Nat} {d0 : Drawn} {ls : Array Slot} {ba L i : Nat} {xs : Nat → Int32} (am : Amb p s m args c cL_law 9 RL D cy ad) (hN : nC s) (hx : p.tables.exec = Jvm.exec) (hb : c.code = cL_law) (hX : va_X ba L xs s s.heap) (hbl : ba < s.heap.size) (hbA : ¬ aA ad s.heap.size ba) (hi : i + 6 ≤ L) (hL : L ≤ 3073) {I I1 I2 : Im} {G G1 G2 : Dm} {J J1 : Jm} (hd : s.drawn.sameBut d0 lw_cs) (hst : St D cy ad s.heap I G J H locs) (hl : lv_has ls 9 [(0, .ref ba), (1, .ref (ad 0)), (2, .ref (ad 53)), (3, .ref (ad 70)), (4, .ref (ad 71)), (5, .int (nI i))]) (hcl : cells + 1 ≤ 601024 ∧ slots + 6 ≤ 7293000)
    {a0 : Int32} {b0 : Int32} (hW : ∀ z : Int32, z = zB (decide (¬ xs (i + 1) = 0)) → kD l yX4_test (.code yX4_test cX4_test 2 (some .boolean)) rU D cy ad [.ref (ad 0), .int z] I G J (qI D cy ad a0 I1 G1 J1)) (hM : ∀ z : Int32, z = zB (decide (¬ xs (i + 1) = 0)) → kD l yX5_test (.code yX5_test cX5_test 4 (some .boolean)) rU D cy ad [.ref (ad 53), .int z] I1 G1 J1 (qI D cy ad b0 I2 G2 J1)) (he : a0 = b0)
    (kk : ∀ (d1 : Drawn) (H1 : Heap) (locs1 : List Loc) (ls1 : Array Slot), s.drawn.sameBut d1 lw_cs → St D cy ad s.heap I2 G2 J1 H1 locs1 → lv_has ls1 9 [(0, .ref ba), (1, .ref (ad 0)), (2, .ref (ad 53)), (3, .ref (ad 70)), (4, .ref (ad 71)), (5, .int (nI i))] → W p l e room_1 (s.setDrawn d1) m args below meth c H1 locs1 (cells + 1) (slots + 6) Q (F0 m 1402 ls1 [])) :
    W p l e room_1 (s.setDrawn d0) m args below meth c H locs cells slots Q (F0 m 995 ls []) := by
  have hadI := am.2.2.2.2.2.2.1
  refine lv_aload_n hx hb dL_law_995 rfl (lv_at hl 1 rfl) ?_
  refine lv_aload_n hx hb dL_law_996 rfl (lv_at hl 0 rfl) ?_
  refine lv_iload hx hb dL_law_997 (lv_at hl 5 rfl) ?_
  refine lv_iconst (v := 1) hx hb dL_law_999 (by decide) ?_
  refine lv_iadd hx hb dL_law_1000 ?_
  rw [show nI i + 1 = nI (i + 1) from nI_s i 1]
  refine w_scr hx hb hX hbl hbA hst (j := i + 1) (by omega) hL dL_law_1001 ?_
  refine lv_if_eq (tgt := 1009) hx hb dL_law_1002 (by decide) (fun c_1002 => ?_) (fun c_1002 => ?_)
  · skip
    refine lv_iconst (v := 0) hx hb dL_law_1009 (by decide) ?_
    refine c_iD hd hst (r_VD (As := [.int 0]) (rest := []) am hst hl (hW _ (by simp only [zB, c_1002, not_true_eq_false, not_false_eq_true, decide_true, decide_false, Bool.true_and, Bool.false_and, Bool.and_true, Bool.and_false, Bool.and_self, if_true, if_false, ite_true, ite_false, reduceIte, Bool.false_eq_true])) kRL_141 imX4_test slX4_test ⟨Nat.le_of_ble_eq_true rfl, Nat.le_of_ble_eq_true rfl⟩ (by decide) (fun _ _ _ => cE_S) rfl rfl rfl (Nat.le_of_ble_eq_true rfl) dL_law_1010 ⟨(Nat.le_trans (Nat.le_succ _) hcl.1), (Nat.le_trans (Nat.le_add_right _ 6) hcl.2)⟩) (fun d0 H locs hd hst => ?_)
    refine lv_aload_n hx hb dL_law_1013 rfl (lv_at hl 2 rfl) ?_
    refine lv_aload_n hx hb dL_law_1014 rfl (lv_at hl 0 rfl) ?_
    refine lv_iload hx hb dL_law_1015 (lv_at hl 5 rfl) ?_
    refine lv_iconst (v := 1) hx hb dL_law_1017 (by decide) ?_
    refine lv_iadd hx hb dL_law_1018 ?_
    rw [show nI i + 1 = nI (i + 1) from nI_s i 1]
    refine w_scr hx hb hX hbl hbA hst (j := i + 1) (by omega) hL dL_law_1019 ?_
    refine lv_if_eq (tgt := 1027) hx hb dL_law_1020 (by decide) (fun c_1020 => ?_) (fun c_1020 => absurd c_1002 c_1020)
    refine lv_iconst (v := 0) hx hb dL_law_1027 (by decide) ?_
    refine c_iD hd hst (r_VD (As := [.int 0]) (rest := [.int a0]) am hst hl (hM _ (by simp only [zB, c_1002, not_true_eq_false, not_false_eq_true, decide_true, decide_false, Bool.true_and, Bool.false_and, Bool.and_true, Bool.and_false, Bool.and_self, if_true, if_false, ite_true, ite_false, reduceIte, Bool.false_eq_true])) kRL_145 imX5_test slX5_test ⟨Nat.le_of_ble_eq_true rfl, Nat.le_of_ble_eq_true rfl⟩ (by decide) (fun _ _ _ => cE_M) rfl rfl rfl (Nat.le_of_ble_eq_true rfl) dL_law_1028 ⟨(Nat.le_trans (Nat.le_succ _) hcl.1), (Nat.le_trans (Nat.le_add_right _ 6) hcl.2)⟩) (fun d0 H locs hd hst => ?_)
    refine lv_icmp_eq (tgt := 1402) hx hb dL_law_1031 (by decide) (fun c_1031 => ?_) (fun c_1031 => absurd he c_1031)
    refine W.wide (k := cells + 1) (n := slots + 6) (Nat.le_succ _) (Nat.le_add_right _ 6) ?_
    exact kk _ _ _ _ hd hst (lv_sub hl [0, 1, 2, 3, 4, 5] rfl)
  · skip
    refine lv_iconst (v := 1) hx hb dL_law_1005 (by decide) ?_
    refine lv_goto (tgt := 1010) hx hb dL_law_1006 (by decide) ?_
    refine c_iD hd hst (r_VD (As := [.int 1]) (rest := []) am hst hl (hW _ (by simp only [zB, c_1002, not_true_eq_false, not_false_eq_true, decide_true, decide_false, Bool.true_and, Bool.false_and, Bool.and_true, Bool.and_false, Bool.and_self, if_true, if_false, ite_true, ite_false, reduceIte, Bool.false_eq_true])) kRL_141 imX4_test slX4_test ⟨Nat.le_of_ble_eq_true rfl, Nat.le_of_ble_eq_true rfl⟩ (by decide) (fun _ _ _ => cE_S) rfl rfl rfl (Nat.le_of_ble_eq_true rfl) dL_law_1010 ⟨(Nat.le_trans (Nat.le_succ _) hcl.1), (Nat.le_trans (Nat.le_add_right _ 6) hcl.2)⟩) (fun d0 H locs hd hst => ?_)
    refine lv_aload_n hx hb dL_law_1013 rfl (lv_at hl 2 rfl) ?_
    refine lv_aload_n hx hb dL_law_1014 rfl (lv_at hl 0 rfl) ?_
    refine lv_iload hx hb dL_law_1015 (lv_at hl 5 rfl) ?_
    refine lv_iconst (v := 1) hx hb dL_law_1017 (by decide) ?_
    refine lv_iadd hx hb dL_law_1018 ?_
    rw [show nI i + 1 = nI (i + 1) from nI_s i 1]
    refine w_scr hx hb hX hbl hbA hst (j := i + 1) (by omega) hL dL_law_1019 ?_
    refine lv_if_eq (tgt := 1027) hx hb dL_law_1020 (by decide) (fun c_1020 => absurd c_1020 c_1002) (fun c_1020 => ?_)
    refine lv_iconst (v := 1) hx hb dL_law_1023 (by decide) ?_
    refine lv_goto (tgt := 1028) hx hb dL_law_1024 (by decide) ?_
    refine c_iD hd hst (r_VD (As := [.int 1]) (rest := [.int a0]) am hst hl (hM _ (by simp only [zB, c_1002, not_true_eq_false, not_false_eq_true, decide_true, decide_false, Bool.true_and, Bool.false_and, Bool.and_true, Bool.and_false, Bool.and_self, if_true, if_false, ite_true, ite_false, reduceIte, Bool.false_eq_true])) kRL_145 imX5_test slX5_test ⟨Nat.le_of_ble_eq_true rfl, Nat.le_of_ble_eq_true rfl⟩ (by decide) (fun _ _ _ => cE_M) rfl rfl rfl (Nat.le_of_ble_eq_true rfl) dL_law_1028 ⟨(Nat.le_trans (Nat.le_succ _) hcl.1), (Nat.le_trans (Nat.le_add_right _ 6) hcl.2)⟩) (fun d0 H locs hd hst => ?_)
    refine lv_icmp_eq (tgt := 1402) hx hb dL_law_1031 (by decide) (fun c_1031 => ?_) (fun c_1031 => absurd he c_1031)
    refine W.wide (k := cells + 1) (n := slots + 6) (Nat.le_succ _) (Nat.le_add_right _ 6) ?_
    exact kk _ _ _ _ hd hst (lv_sub hl [0, 1, 2, 3, 4, 5] rfl)

set_option maxHeartbeats 4000000 in
set_option maxRecDepth 100000 in
theorem ch_proof {p : Program} {l : Launch} {e : Env} {s : State} {m : MethodId} {args : Array Value} {below : List Frame} {meth : Method} {c : Code} {H : Heap} {locs : List Loc} {cells slots : Nat} {Q : State → Prop} {D : va_G} {cy ad : Nat → Nat} {d0 : Drawn} {ls : Array Slot} {ba L i : Nat} {xs : Nat → Int32} (am : Amb p s m args c cL_law 9 RL D cy ad) (hN : nC s) (hx : p.tables.exec = Jvm.exec) (hb : c.code = cL_law) (hX : va_X ba L xs s s.heap) (hbl : ba < s.heap.size) (hbA : ¬ aA ad s.heap.size ba) (hi : i + 6 ≤ L) (hL : L ≤ 3073) {I I1 I2 : Im} {G G1 G2 : Dm} {J J1 : Jm} (hd : s.drawn.sameBut d0 lw_cs) (hst : St D cy ad s.heap I G J H locs) (hl : lv_has ls 9 [(0, .ref ba), (1, .ref (ad 0)), (2, .ref (ad 53)), (3, .ref (ad 70)), (4, .ref (ad 71)), (5, .int (nI i))]) (hcl : cells + 1 ≤ 601024 ∧ slots + 6 ≤ 7293000)
    {code1 : Int32} {b0 : Int32} (hW : ∀ x0 : UInt64, cn x0 = Mu (FP.i2d (xs (i + 1))) 4593671619917905920 → nD l yL_proof (.codeWith yL_proof cL_proof 5 (some .int) [(0, 9, 12, 21)]) D cy ad [.ref (ad 0), .double x0, .ref (ad 70)] I G J (qI D cy ad code1 I1 G1 J1)) (hM : ∀ x0 : UInt64, cn x0 = Mu (FP.i2d (xs (i + 1))) 4593671619917905920 → kD l yX5_proof (.code yX5_proof cX5_proof 5 (some .int)) rU D cy ad [.ref (ad 53), .double x0] I1 G1 J1 (qI D cy ad b0 I2 G2 J1)) (ht : I2 53 0 = code1) (he : code1 = 0 → J1 70 0 = b0.toInt64)
    (kk : ∀ (d1 : Drawn) (H1 : Heap) (locs1 : List Loc) (ls1 : Array Slot), s.drawn.sameBut d1 lw_cs → St D cy ad s.heap I2 G2 J1 H1 locs1 → lv_has ls1 9 [(0, .ref ba), (1, .ref (ad 0)), (2, .ref (ad 53)), (3, .ref (ad 70)), (4, .ref (ad 71)), (5, .int (nI i))] → W p l e room_1 (s.setDrawn d1) m args below meth c H1 locs1 (cells + 1) (slots + 6) Q (F0 m 1402 ls1 [])) :
    W p l e room_1 (s.setDrawn d0) m args below meth c H locs cells slots Q (F0 m 1036 ls []) := by
  have hadI := am.2.2.2.2.2.2.1
  refine lv_aload_n hx hb dL_law_1036 rfl (lv_at hl 1 rfl) ?_
  refine lv_aload_n hx hb dL_law_1037 rfl (lv_at hl 0 rfl) ?_
  refine lv_iload hx hb dL_law_1038 (lv_at hl 5 rfl) ?_
  refine lv_iconst (v := 1) hx hb dL_law_1040 (by decide) ?_
  refine lv_iadd hx hb dL_law_1041 ?_
  rw [show nI i + 1 = nI (i + 1) from nI_s i 1]
  refine w_scr hx hb hX hbl hbA hst (j := i + 1) (by omega) hL dL_law_1042 ?_
  refine w_i2d hx hb dL_law_1043 (fun x1 hx1 => ?_)
  refine lv_ldc2d hx hb am.2.2.2.1 (amT am _ wRL_95) dL_law_1044 ?_
  refine w_dmul hd hx hb hx1 cn_k4593671619917905920 dL_law_1047 (fun x2 d0 hx2 hd => ?_)
  refine lv_aload_n hx hb dL_law_1048 rfl (lv_at hl 3 rfl) ?_
  refine c_iD hd hst (r_WN (As := [.ref (ad 0), .double x2, .ref (ad 70)]) (rest := []) am hN hst hl (hW _ hx2) kRL_146 smL_proof ⟨Nat.le_of_ble_eq_true rfl, Nat.le_of_ble_eq_true rfl⟩ rfl rfl (Nat.le_of_ble_eq_true rfl) dL_law_1049 ⟨hcl.1, hcl.2⟩) (fun d0 H locs hd hst => ?_)
  refine lv_istore (lv' := [(6, .int code1), (0, .ref ba), (1, .ref (ad 0)), (2, .ref (ad 53)), (3, .ref (ad 70)), (4, .ref (ad 71)), (5, .int (nI i))]) hx hb dL_law_1052 hl (by decide) rfl (fun ls hl => ?_)
  refine lv_aload_n hx hb dL_law_1054 rfl (lv_at hl 3 rfl) ?_
  refine lv_aload_n hx hb dL_law_1055 rfl (lv_at hl 1 rfl) ?_
  refine lv_iload hx hb dL_law_1056 (lv_at hl 6 rfl) ?_
  refine lv_iconst (v := 1) hx hb dL_law_1058 (by decide) ?_
  refine lv_iadd hx hb dL_law_1059 ?_
  rw [show nI i + 1 = nI (i + 1) from nI_s i 1]
  refine w_scr hx hb hX hbl hbA hst (j := i + 1) (by omega) hL dL_law_1060 ?_
  refine w_i2d hx hb dL_law_1061 (fun x3 hx3 => ?_)
  refine lv_ldc2d hx hb am.2.2.2.1 (amT am _ wRL_95) dL_law_1062 ?_
  refine w_dmul hd hx hb hx3 cn_k4593671619917905920 dL_law_1065 (fun x4 d0 hx4 hd => ?_)
  refine c_iD hd hst (r_VD (As := [.double x4]) (rest := []) am hst hl (hM _ hx4) kRL_149 imX5_proof slX5_proof ⟨Nat.le_of_ble_eq_true rfl, Nat.le_of_ble_eq_true rfl⟩ (by decide) (fun _ _ _ => cE_M) rfl rfl rfl (Nat.le_of_ble_eq_true rfl) dL_law_1066 ⟨hcl.1, hcl.2⟩) (fun d0 H locs hd hst => ?_)
  refine lv_istore (lv' := [(7, .int b0), (6, .int code1), (0, .ref ba), (1, .ref (ad 0)), (2, .ref (ad 53)), (3, .ref (ad 70)), (4, .ref (ad 71)), (5, .int (nI i))]) hx hb dL_law_1069 hl (by decide) rfl (fun ls hl => ?_)
  refine lv_aload_n hx hb dL_law_1071 rfl (lv_at hl 4 rfl) ?_
  refine c_i hst (r_V (As := []) (rest := []) am hst hl (k_X5_thrown hadI) kRL_92 imX5_thrown slX5_thrown ⟨Nat.le_of_ble_eq_true rfl, Nat.le_of_ble_eq_true rfl⟩ (by decide) (fun _ _ _ => cE_M) rfl rfl rfl (Nat.le_of_ble_eq_true rfl) dL_law_1072 ⟨hcl.1, hcl.2⟩) (fun H locs hst => ?_)
  refine lv_iload hx hb dL_law_1075 (lv_at hl 1 rfl) ?_
  refine lv_icmp_eq (tgt := 1082) hx hb dL_law_1077 (by decide) (fun c_1077 => ?_) (fun c_1077 => absurd ht c_1077)
  refine lv_iload hx hb dL_law_1082 (lv_at hl 1 rfl) ?_
  refine lv_if_ne (tgt := 1099) hx hb dL_law_1084 (by decide) (fun c_1084 => ?_) (fun c_1084 => ?_)
  · skip
    refine lv_goto (tgt := 1402) hx hb dL_law_1099 (by decide) ?_
    exact kk _ _ _ _ hd hst (lv_sub hl [2, 3, 4, 5, 6, 7] rfl)
  · skip
    refine lv_aload_n hx hb dL_law_1087 rfl (lv_at hl 5 rfl) ?_
    refine lv_iconst (v := 0) hx hb dL_law_1088 (by decide) ?_
    refine w_lald am hst (by decide) (fun _ _ _ => cE_70) (n := 0) rfl (vinL (by decide)) dL_law_1089 ?_
    refine lv_iload hx hb dL_law_1090 (lv_at hl 0 rfl) ?_
    refine lv_i2l hx hb dL_law_1092 rfl ?_
    refine W.lcmp hx hb dL_law_1093 ?_
    refine lv_if_eq (tgt := 1099) hx hb dL_law_1094 (by decide) (fun c_1094 => ?_) (fun c_1094 => absurd ((lg_cmp0.mpr (he c_1084))) c_1094)
    refine lv_goto (tgt := 1402) hx hb dL_law_1099 (by decide) ?_
    exact kk _ _ _ _ hd hst (lv_sub hl [2, 3, 4, 5, 6, 7] rfl)

set_option maxHeartbeats 4000000 in
set_option maxRecDepth 100000 in
theorem ch_about {p : Program} {l : Launch} {e : Env} {s : State} {m : MethodId} {args : Array Value} {below : List Frame} {meth : Method} {c : Code} {H : Heap} {locs : List Loc} {cells slots : Nat} {Q : State → Prop} {D : va_G} {cy ad : Nat → Nat} {d0 : Drawn} {ls : Array Slot} {ba L i : Nat} {xs : Nat → Int32} (am : Amb p s m args c cL_law 9 RL D cy ad) (hN : nC s) (hx : p.tables.exec = Jvm.exec) (hb : c.code = cL_law) (hX : va_X ba L xs s s.heap) (hbl : ba < s.heap.size) (hbA : ¬ aA ad s.heap.size ba) (hi : i + 6 ≤ L) (hL : L ≤ 3073) {I I1 I2 : Im} {G G1 G2 : Dm} {J J1 : Jm} (hd : s.drawn.sameBut d0 lw_cs) (hst : St D cy ad s.heap I G J H locs) (hl : lv_has ls 9 [(0, .ref ba), (1, .ref (ad 0)), (2, .ref (ad 53)), (3, .ref (ad 70)), (4, .ref (ad 71)), (5, .int (nI i))]) (hcl : cells + 1 ≤ 601024 ∧ slots + 6 ≤ 7293000)
    {code1 : Int32} {b0 : Int32} (hW : nD l yL_about (.codeWith yL_about cL_about 5 (some .int) [(0, 10, 13, 19)]) D cy ad [.ref (ad 0), .int (xs (i + 1)), .int (xs (i + 2)), .ref (ad 70)] I G J (qI D cy ad code1 I1 G1 J1)) (hM : kD l yX5_about (.code yX5_about cX5_about 3 (some .int)) rU D cy ad [.ref (ad 53), .int (xs (i + 1)), .int (xs (i + 2))] I1 G1 J1 (qI D cy ad b0 I2 G2 J1)) (ht : I2 53 0 = code1) (he : code1 = 0 → J1 70 0 = b0.toInt64)
    (kk : ∀ (d1 : Drawn) (H1 : Heap) (locs1 : List Loc) (ls1 : Array Slot), s.drawn.sameBut d1 lw_cs → St D cy ad s.heap I2 G2 J1 H1 locs1 → lv_has ls1 9 [(0, .ref ba), (1, .ref (ad 0)), (2, .ref (ad 53)), (3, .ref (ad 70)), (4, .ref (ad 71)), (5, .int (nI i))] → W p l e room_1 (s.setDrawn d1) m args below meth c H1 locs1 (cells + 1) (slots + 6) Q (F0 m 1402 ls1 [])) :
    W p l e room_1 (s.setDrawn d0) m args below meth c H locs cells slots Q (F0 m 1102 ls []) := by
  have hadI := am.2.2.2.2.2.2.1
  refine lv_aload_n hx hb dL_law_1102 rfl (lv_at hl 1 rfl) ?_
  refine lv_aload_n hx hb dL_law_1103 rfl (lv_at hl 0 rfl) ?_
  refine lv_iload hx hb dL_law_1104 (lv_at hl 5 rfl) ?_
  refine lv_iconst (v := 1) hx hb dL_law_1106 (by decide) ?_
  refine lv_iadd hx hb dL_law_1107 ?_
  rw [show nI i + 1 = nI (i + 1) from nI_s i 1]
  refine w_scr hx hb hX hbl hbA hst (j := i + 1) (by omega) hL dL_law_1108 ?_
  refine lv_aload_n hx hb dL_law_1109 rfl (lv_at hl 0 rfl) ?_
  refine lv_iload hx hb dL_law_1110 (lv_at hl 5 rfl) ?_
  refine lv_iconst (v := 2) hx hb dL_law_1112 (by decide) ?_
  refine lv_iadd hx hb dL_law_1113 ?_
  rw [show nI i + 2 = nI (i + 2) from nI_s i 2]
  refine w_scr hx hb hX hbl hbA hst (j := i + 2) (by omega) hL dL_law_1114 ?_
  refine lv_aload_n hx hb dL_law_1115 rfl (lv_at hl 3 rfl) ?_
  refine c_iD hd hst (r_WN (As := [.ref (ad 0), .int (xs (i + 1)), .int (xs (i + 2)), .ref (ad 70)]) (rest := []) am hN hst hl (hW) kRL_150 smL_about ⟨Nat.le_of_ble_eq_true rfl, Nat.le_of_ble_eq_true rfl⟩ rfl rfl (Nat.le_of_ble_eq_true rfl) dL_law_1116 ⟨hcl.1, hcl.2⟩) (fun d0 H locs hd hst => ?_)
  refine lv_istore (lv' := [(6, .int code1), (0, .ref ba), (1, .ref (ad 0)), (2, .ref (ad 53)), (3, .ref (ad 70)), (4, .ref (ad 71)), (5, .int (nI i))]) hx hb dL_law_1119 hl (by decide) rfl (fun ls hl => ?_)
  refine lv_aload_n hx hb dL_law_1121 rfl (lv_at hl 3 rfl) ?_
  refine lv_aload_n hx hb dL_law_1122 rfl (lv_at hl 1 rfl) ?_
  refine lv_iload hx hb dL_law_1123 (lv_at hl 6 rfl) ?_
  refine lv_iconst (v := 1) hx hb dL_law_1125 (by decide) ?_
  refine lv_iadd hx hb dL_law_1126 ?_
  rw [show nI i + 1 = nI (i + 1) from nI_s i 1]
  refine w_scr hx hb hX hbl hbA hst (j := i + 1) (by omega) hL dL_law_1127 ?_
  refine lv_aload_n hx hb dL_law_1128 rfl (lv_at hl 1 rfl) ?_
  refine lv_iload hx hb dL_law_1129 (lv_at hl 6 rfl) ?_
  refine lv_iconst (v := 2) hx hb dL_law_1131 (by decide) ?_
  refine lv_iadd hx hb dL_law_1132 ?_
  rw [show nI i + 2 = nI (i + 2) from nI_s i 2]
  refine w_scr hx hb hX hbl hbA hst (j := i + 2) (by omega) hL dL_law_1133 ?_
  refine c_iD hd hst (r_VD (As := [.int (xs (i + 1)), .int (xs (i + 2))]) (rest := []) am hst hl (hM) kRL_153 imX5_about slX5_about ⟨Nat.le_of_ble_eq_true rfl, Nat.le_of_ble_eq_true rfl⟩ (by decide) (fun _ _ _ => cE_M) rfl rfl rfl (Nat.le_of_ble_eq_true rfl) dL_law_1134 ⟨hcl.1, hcl.2⟩) (fun d0 H locs hd hst => ?_)
  refine lv_istore (lv' := [(7, .int b0), (6, .int code1), (0, .ref ba), (1, .ref (ad 0)), (2, .ref (ad 53)), (3, .ref (ad 70)), (4, .ref (ad 71)), (5, .int (nI i))]) hx hb dL_law_1137 hl (by decide) rfl (fun ls hl => ?_)
  refine lv_aload_n hx hb dL_law_1139 rfl (lv_at hl 4 rfl) ?_
  refine c_i hst (r_V (As := []) (rest := []) am hst hl (k_X5_thrown hadI) kRL_92 imX5_thrown slX5_thrown ⟨Nat.le_of_ble_eq_true rfl, Nat.le_of_ble_eq_true rfl⟩ (by decide) (fun _ _ _ => cE_M) rfl rfl rfl (Nat.le_of_ble_eq_true rfl) dL_law_1140 ⟨hcl.1, hcl.2⟩) (fun H locs hst => ?_)
  refine lv_iload hx hb dL_law_1143 (lv_at hl 1 rfl) ?_
  refine lv_icmp_eq (tgt := 1150) hx hb dL_law_1145 (by decide) (fun c_1145 => ?_) (fun c_1145 => absurd ht c_1145)
  refine lv_iload hx hb dL_law_1150 (lv_at hl 1 rfl) ?_
  refine lv_if_ne (tgt := 1167) hx hb dL_law_1152 (by decide) (fun c_1152 => ?_) (fun c_1152 => ?_)
  · skip
    refine lv_goto (tgt := 1402) hx hb dL_law_1167 (by decide) ?_
    exact kk _ _ _ _ hd hst (lv_sub hl [2, 3, 4, 5, 6, 7] rfl)
  · skip
    refine lv_aload_n hx hb dL_law_1155 rfl (lv_at hl 5 rfl) ?_
    refine lv_iconst (v := 0) hx hb dL_law_1156 (by decide) ?_
    refine w_lald am hst (by decide) (fun _ _ _ => cE_70) (n := 0) rfl (vinL (by decide)) dL_law_1157 ?_
    refine lv_iload hx hb dL_law_1158 (lv_at hl 0 rfl) ?_
    refine lv_i2l hx hb dL_law_1160 rfl ?_
    refine W.lcmp hx hb dL_law_1161 ?_
    refine lv_if_eq (tgt := 1167) hx hb dL_law_1162 (by decide) (fun c_1162 => ?_) (fun c_1162 => absurd ((lg_cmp0.mpr (he c_1152))) c_1162)
    refine lv_goto (tgt := 1402) hx hb dL_law_1167 (by decide) ?_
    exact kk _ _ _ _ hd hst (lv_sub hl [2, 3, 4, 5, 6, 7] rfl)

set_option maxHeartbeats 4000000 in
set_option maxRecDepth 100000 in
theorem ch_reference {p : Program} {l : Launch} {e : Env} {s : State} {m : MethodId} {args : Array Value} {below : List Frame} {meth : Method} {c : Code} {H : Heap} {locs : List Loc} {cells slots : Nat} {Q : State → Prop} {D : va_G} {cy ad : Nat → Nat} {d0 : Drawn} {ls : Array Slot} {ba L i : Nat} {xs : Nat → Int32} (am : Amb p s m args c cL_law 9 RL D cy ad) (hN : nC s) (hx : p.tables.exec = Jvm.exec) (hb : c.code = cL_law) (hX : va_X ba L xs s s.heap) (hbl : ba < s.heap.size) (hbA : ¬ aA ad s.heap.size ba) (hi : i + 6 ≤ L) (hL : L ≤ 3073) {I I1 I2 : Im} {G G1 G2 : Dm} {J J1 : Jm} (hd : s.drawn.sameBut d0 lw_cs) (hst : St D cy ad s.heap I G J H locs) (hl : lv_has ls 9 [(0, .ref ba), (1, .ref (ad 0)), (2, .ref (ad 53)), (3, .ref (ad 70)), (4, .ref (ad 71)), (5, .int (nI i))]) (hcl : cells + 1 ≤ 601024 ∧ slots + 6 ≤ 7293000)
    {code1 : Int32} {b0 : Int32} (hW : ∀ x1 : UInt64, cn x1 = Mu (FP.i2d (xs (i + 2))) 4593671619917905920 → nD l yL_reference (.codeWith yL_reference cL_reference 6 (some .int) [(0, 11, 14, 21), (0, 11, 18, 13)]) D cy ad [.ref (ad 0), .int (xs (i + 1)), .double x1, .ref (ad 70)] I G J (qI D cy ad code1 I1 G1 J1)) (hM : ∀ x1 : UInt64, cn x1 = Mu (FP.i2d (xs (i + 2))) 4593671619917905920 → kD l yX5_reference (.code yX5_reference cX5_reference 5 (some .int)) rU D cy ad [.ref (ad 53), .int (xs (i + 1)), .double x1] I1 G1 J1 (qI D cy ad b0 I2 G2 J1)) (ht : I2 53 0 = code1) (he : code1 = 0 → J1 70 0 = b0.toInt64)
    (kk : ∀ (d1 : Drawn) (H1 : Heap) (locs1 : List Loc) (ls1 : Array Slot), s.drawn.sameBut d1 lw_cs → St D cy ad s.heap I2 G2 J1 H1 locs1 → lv_has ls1 9 [(0, .ref ba), (1, .ref (ad 0)), (2, .ref (ad 53)), (3, .ref (ad 70)), (4, .ref (ad 71)), (5, .int (nI i))] → W p l e room_1 (s.setDrawn d1) m args below meth c H1 locs1 (cells + 1) (slots + 6) Q (F0 m 1402 ls1 [])) :
    W p l e room_1 (s.setDrawn d0) m args below meth c H locs cells slots Q (F0 m 1170 ls []) := by
  have hadI := am.2.2.2.2.2.2.1
  refine lv_aload_n hx hb dL_law_1170 rfl (lv_at hl 1 rfl) ?_
  refine lv_aload_n hx hb dL_law_1171 rfl (lv_at hl 0 rfl) ?_
  refine lv_iload hx hb dL_law_1172 (lv_at hl 5 rfl) ?_
  refine lv_iconst (v := 1) hx hb dL_law_1174 (by decide) ?_
  refine lv_iadd hx hb dL_law_1175 ?_
  rw [show nI i + 1 = nI (i + 1) from nI_s i 1]
  refine w_scr hx hb hX hbl hbA hst (j := i + 1) (by omega) hL dL_law_1176 ?_
  refine lv_aload_n hx hb dL_law_1177 rfl (lv_at hl 0 rfl) ?_
  refine lv_iload hx hb dL_law_1178 (lv_at hl 5 rfl) ?_
  refine lv_iconst (v := 2) hx hb dL_law_1180 (by decide) ?_
  refine lv_iadd hx hb dL_law_1181 ?_
  rw [show nI i + 2 = nI (i + 2) from nI_s i 2]
  refine w_scr hx hb hX hbl hbA hst (j := i + 2) (by omega) hL dL_law_1182 ?_
  refine w_i2d hx hb dL_law_1183 (fun x1 hx1 => ?_)
  refine lv_ldc2d hx hb am.2.2.2.1 (amT am _ wRL_95) dL_law_1184 ?_
  refine w_dmul hd hx hb hx1 cn_k4593671619917905920 dL_law_1187 (fun x2 d0 hx2 hd => ?_)
  refine lv_aload_n hx hb dL_law_1188 rfl (lv_at hl 3 rfl) ?_
  refine c_iD hd hst (r_WN (As := [.ref (ad 0), .int (xs (i + 1)), .double x2, .ref (ad 70)]) (rest := []) am hN hst hl (hW _ hx2) kRL_154 smL_reference ⟨Nat.le_of_ble_eq_true rfl, Nat.le_of_ble_eq_true rfl⟩ rfl rfl (Nat.le_of_ble_eq_true rfl) dL_law_1189 ⟨hcl.1, hcl.2⟩) (fun d0 H locs hd hst => ?_)
  refine lv_istore (lv' := [(6, .int code1), (0, .ref ba), (1, .ref (ad 0)), (2, .ref (ad 53)), (3, .ref (ad 70)), (4, .ref (ad 71)), (5, .int (nI i))]) hx hb dL_law_1192 hl (by decide) rfl (fun ls hl => ?_)
  refine lv_aload_n hx hb dL_law_1194 rfl (lv_at hl 3 rfl) ?_
  refine lv_aload_n hx hb dL_law_1195 rfl (lv_at hl 1 rfl) ?_
  refine lv_iload hx hb dL_law_1196 (lv_at hl 6 rfl) ?_
  refine lv_iconst (v := 1) hx hb dL_law_1198 (by decide) ?_
  refine lv_iadd hx hb dL_law_1199 ?_
  rw [show nI i + 1 = nI (i + 1) from nI_s i 1]
  refine w_scr hx hb hX hbl hbA hst (j := i + 1) (by omega) hL dL_law_1200 ?_
  refine lv_aload_n hx hb dL_law_1201 rfl (lv_at hl 1 rfl) ?_
  refine lv_iload hx hb dL_law_1202 (lv_at hl 6 rfl) ?_
  refine lv_iconst (v := 2) hx hb dL_law_1204 (by decide) ?_
  refine lv_iadd hx hb dL_law_1205 ?_
  rw [show nI i + 2 = nI (i + 2) from nI_s i 2]
  refine w_scr hx hb hX hbl hbA hst (j := i + 2) (by omega) hL dL_law_1206 ?_
  refine w_i2d hx hb dL_law_1207 (fun x3 hx3 => ?_)
  refine lv_ldc2d hx hb am.2.2.2.1 (amT am _ wRL_95) dL_law_1208 ?_
  refine w_dmul hd hx hb hx3 cn_k4593671619917905920 dL_law_1211 (fun x4 d0 hx4 hd => ?_)
  refine c_iD hd hst (r_VD (As := [.int (xs (i + 1)), .double x4]) (rest := []) am hst hl (hM _ hx4) kRL_156 imX5_reference slX5_reference ⟨Nat.le_of_ble_eq_true rfl, Nat.le_of_ble_eq_true rfl⟩ (by decide) (fun _ _ _ => cE_M) rfl rfl rfl (Nat.le_of_ble_eq_true rfl) dL_law_1212 ⟨hcl.1, hcl.2⟩) (fun d0 H locs hd hst => ?_)
  refine lv_istore (lv' := [(7, .int b0), (6, .int code1), (0, .ref ba), (1, .ref (ad 0)), (2, .ref (ad 53)), (3, .ref (ad 70)), (4, .ref (ad 71)), (5, .int (nI i))]) hx hb dL_law_1215 hl (by decide) rfl (fun ls hl => ?_)
  refine lv_aload_n hx hb dL_law_1217 rfl (lv_at hl 4 rfl) ?_
  refine c_i hst (r_V (As := []) (rest := []) am hst hl (k_X5_thrown hadI) kRL_92 imX5_thrown slX5_thrown ⟨Nat.le_of_ble_eq_true rfl, Nat.le_of_ble_eq_true rfl⟩ (by decide) (fun _ _ _ => cE_M) rfl rfl rfl (Nat.le_of_ble_eq_true rfl) dL_law_1218 ⟨hcl.1, hcl.2⟩) (fun H locs hst => ?_)
  refine lv_iload hx hb dL_law_1221 (lv_at hl 1 rfl) ?_
  refine lv_icmp_eq (tgt := 1228) hx hb dL_law_1223 (by decide) (fun c_1223 => ?_) (fun c_1223 => absurd ht c_1223)
  refine lv_iload hx hb dL_law_1228 (lv_at hl 1 rfl) ?_
  refine lv_if_ne (tgt := 1245) hx hb dL_law_1230 (by decide) (fun c_1230 => ?_) (fun c_1230 => ?_)
  · skip
    refine lv_goto (tgt := 1402) hx hb dL_law_1245 (by decide) ?_
    exact kk _ _ _ _ hd hst (lv_sub hl [2, 3, 4, 5, 6, 7] rfl)
  · skip
    refine lv_aload_n hx hb dL_law_1233 rfl (lv_at hl 5 rfl) ?_
    refine lv_iconst (v := 0) hx hb dL_law_1234 (by decide) ?_
    refine w_lald am hst (by decide) (fun _ _ _ => cE_70) (n := 0) rfl (vinL (by decide)) dL_law_1235 ?_
    refine lv_iload hx hb dL_law_1236 (lv_at hl 0 rfl) ?_
    refine lv_i2l hx hb dL_law_1238 rfl ?_
    refine W.lcmp hx hb dL_law_1239 ?_
    refine lv_if_eq (tgt := 1245) hx hb dL_law_1240 (by decide) (fun c_1240 => ?_) (fun c_1240 => absurd ((lg_cmp0.mpr (he c_1230))) c_1240)
    refine lv_goto (tgt := 1402) hx hb dL_law_1245 (by decide) ?_
    exact kk _ _ _ _ hd hst (lv_sub hl [2, 3, 4, 5, 6, 7] rfl)

set_option maxHeartbeats 4000000 in
set_option maxRecDepth 100000 in
theorem ch_drift {p : Program} {l : Launch} {e : Env} {s : State} {m : MethodId} {args : Array Value} {below : List Frame} {meth : Method} {c : Code} {H : Heap} {locs : List Loc} {cells slots : Nat} {Q : State → Prop} {D : va_G} {cy ad : Nat → Nat} {d0 : Drawn} {ls : Array Slot} {ba L i : Nat} {xs : Nat → Int32} (am : Amb p s m args c cL_law 9 RL D cy ad) (hN : nC s) (hx : p.tables.exec = Jvm.exec) (hb : c.code = cL_law) (hX : va_X ba L xs s s.heap) (hbl : ba < s.heap.size) (hbA : ¬ aA ad s.heap.size ba) (hi : i + 6 ≤ L) (hL : L ≤ 3073) {I I1 I2 : Im} {G G1 G2 : Dm} {J J1 : Jm} (hd : s.drawn.sameBut d0 lw_cs) (hst : St D cy ad s.heap I G J H locs) (hl : lv_has ls 9 [(0, .ref ba), (1, .ref (ad 0)), (2, .ref (ad 53)), (3, .ref (ad 70)), (4, .ref (ad 71)), (5, .int (nI i))]) (hcl : cells + 1 ≤ 601024 ∧ slots + 6 ≤ 7293000)
    {code1 : Int32} {b0 : UInt64} (hW : nD l yL_drift (.codeWith yL_drift cL_drift 4 (some .int) [(0, 8, 11, 21)]) D cy ad [.ref (ad 0), .int (xs (i + 1)), .ref (ad 71)] I G J (qI D cy ad code1 I1 G1 J1)) (hM : kD l yX5_drift (.code yX5_drift cX5_drift 3 (some .double)) rU D cy ad [.ref (ad 53), .int (xs (i + 1))] I1 G1 J1 (qD D cy ad b0 I2 G2 J1)) (ht : I2 53 0 = code1) (he : code1 = 0 → dEq (G2 71 0) b0)
    (kk : ∀ (d1 : Drawn) (H1 : Heap) (locs1 : List Loc) (ls1 : Array Slot), s.drawn.sameBut d1 lw_cs → St D cy ad s.heap I2 G2 J1 H1 locs1 → lv_has ls1 9 [(0, .ref ba), (1, .ref (ad 0)), (2, .ref (ad 53)), (3, .ref (ad 70)), (4, .ref (ad 71)), (5, .int (nI i))] → W p l e room_1 (s.setDrawn d1) m args below meth c H1 locs1 (cells + 1) (slots + 6) Q (F0 m 1402 ls1 [])) :
    W p l e room_1 (s.setDrawn d0) m args below meth c H locs cells slots Q (F0 m 1248 ls []) := by
  have hadI := am.2.2.2.2.2.2.1
  refine lv_aload_n hx hb dL_law_1248 rfl (lv_at hl 1 rfl) ?_
  refine lv_aload_n hx hb dL_law_1249 rfl (lv_at hl 0 rfl) ?_
  refine lv_iload hx hb dL_law_1250 (lv_at hl 5 rfl) ?_
  refine lv_iconst (v := 1) hx hb dL_law_1252 (by decide) ?_
  refine lv_iadd hx hb dL_law_1253 ?_
  rw [show nI i + 1 = nI (i + 1) from nI_s i 1]
  refine w_scr hx hb hX hbl hbA hst (j := i + 1) (by omega) hL dL_law_1254 ?_
  refine lv_aload hx hb dL_law_1255 (lv_at hl 4 rfl) ?_
  refine c_iD hd hst (r_WN (As := [.ref (ad 0), .int (xs (i + 1)), .ref (ad 71)]) (rest := []) am hN hst hl (hW) kRL_157 smL_drift ⟨Nat.le_of_ble_eq_true rfl, Nat.le_of_ble_eq_true rfl⟩ rfl rfl (Nat.le_of_ble_eq_true rfl) dL_law_1257 ⟨hcl.1, hcl.2⟩) (fun d0 H locs hd hst => ?_)
  refine lv_istore (lv' := [(6, .int code1), (0, .ref ba), (1, .ref (ad 0)), (2, .ref (ad 53)), (3, .ref (ad 70)), (4, .ref (ad 71)), (5, .int (nI i))]) hx hb dL_law_1260 hl (by decide) rfl (fun ls hl => ?_)
  refine lv_aload_n hx hb dL_law_1262 rfl (lv_at hl 3 rfl) ?_
  refine lv_aload_n hx hb dL_law_1263 rfl (lv_at hl 1 rfl) ?_
  refine lv_iload hx hb dL_law_1264 (lv_at hl 6 rfl) ?_
  refine lv_iconst (v := 1) hx hb dL_law_1266 (by decide) ?_
  refine lv_iadd hx hb dL_law_1267 ?_
  rw [show nI i + 1 = nI (i + 1) from nI_s i 1]
  refine w_scr hx hb hX hbl hbA hst (j := i + 1) (by omega) hL dL_law_1268 ?_
  refine c_dD hd hst (r_VD (As := [.int (xs (i + 1))]) (rest := []) am hst hl (hM) kRL_159 imX5_drift slX5_drift ⟨Nat.le_of_ble_eq_true rfl, Nat.le_of_ble_eq_true rfl⟩ (by decide) (fun _ _ _ => cE_M) rfl rfl rfl (Nat.le_of_ble_eq_true rfl) dL_law_1269 ⟨hcl.1, hcl.2⟩) (fun x1 d0 H locs hx1 hd hst => ?_)
  refine lv_dstore (lv' := [(7, .double x1), (6, .int code1), (0, .ref ba), (1, .ref (ad 0)), (2, .ref (ad 53)), (3, .ref (ad 70)), (4, .ref (ad 71)), (5, .int (nI i))]) hx hb dL_law_1272 hl (by decide) rfl (fun ls hl => ?_)
  refine lv_aload_n hx hb dL_law_1274 rfl (lv_at hl 4 rfl) ?_
  refine c_i hst (r_V (As := []) (rest := []) am hst hl (k_X5_thrown hadI) kRL_92 imX5_thrown slX5_thrown ⟨Nat.le_of_ble_eq_true rfl, Nat.le_of_ble_eq_true rfl⟩ (by decide) (fun _ _ _ => cE_M) rfl rfl rfl (Nat.le_of_ble_eq_true rfl) dL_law_1275 ⟨hcl.1, hcl.2⟩) (fun H locs hst => ?_)
  refine lv_iload hx hb dL_law_1278 (lv_at hl 1 rfl) ?_
  refine lv_icmp_eq (tgt := 1285) hx hb dL_law_1280 (by decide) (fun c_1280 => ?_) (fun c_1280 => absurd ht c_1280)
  refine lv_iload hx hb dL_law_1285 (lv_at hl 1 rfl) ?_
  refine lv_if_ne (tgt := 1322) hx hb dL_law_1287 (by decide) (fun c_1287 => ?_) (fun c_1287 => ?_)
  · skip
    refine lv_goto (tgt := 1402) hx hb dL_law_1322 (by decide) ?_
    exact kk _ _ _ _ hd hst (lv_sub hl [2, 3, 4, 5, 6, 7] rfl)
  · skip
    refine lv_aload hx hb dL_law_1290 (lv_at hl 6 rfl) ?_
    refine lv_iconst (v := 0) hx hb dL_law_1292 (by decide) ?_
    refine w_dald am hst (by decide) (fun _ _ _ => cE_71) (n := 0) rfl (vinL (by decide)) dL_law_1293 (fun x2 hx2 => ?_)
    refine lv_dload hx hb dL_law_1294 (lv_at hl 0 rfl) ?_
    refine w_dcmp hx hb hx2 hx1 dL_law_1296 ?_
    refine lv_if_eq (tgt := 1322) hx hb dL_law_1297 (by decide) (fun c_1297 => ?_) (fun c_1297 => ?_)
    · skip
      refine lv_goto (tgt := 1402) hx hb dL_law_1322 (by decide) ?_
      exact kk _ _ _ _ hd hst (lv_sub hl [2, 3, 4, 5, 6, 7] rfl)
    · skip
      refine lv_aload hx hb dL_law_1300 (lv_at hl 6 rfl) ?_
      refine lv_iconst (v := 0) hx hb dL_law_1302 (by decide) ?_
      refine w_dald am hst (by decide) (fun _ _ _ => cE_71) (n := 0) rfl (vinL (by decide)) dL_law_1303 (fun x3 hx3 => ?_)
      refine lv_aload hx hb dL_law_1304 (lv_at hl 6 rfl) ?_
      refine lv_iconst (v := 0) hx hb dL_law_1306 (by decide) ?_
      refine w_dald am hst (by decide) (fun _ _ _ => cE_71) (n := 0) rfl (vinL (by decide)) dL_law_1307 (fun x4 hx4 => ?_)
      refine w_dcmp hx hb hx3 hx4 dL_law_1308 ?_
      refine lv_if_eq (tgt := 1320) hx hb dL_law_1309 (by decide) (fun c_1309 => absurd c_1309 (((he c_1287).resolve_left c_1297).1)) (fun c_1309 => ?_)
      refine lv_dload hx hb dL_law_1312 (lv_at hl 0 rfl) ?_
      refine lv_dload hx hb dL_law_1314 (lv_at hl 0 rfl) ?_
      refine w_dcmp hx hb hx1 hx1 dL_law_1316 ?_
      refine lv_if_ne (tgt := 1322) hx hb dL_law_1317 (by decide) (fun c_1317 => ?_) (fun c_1317 => absurd c_1317 (((he c_1287).resolve_left c_1297).2))
      refine lv_goto (tgt := 1402) hx hb dL_law_1322 (by decide) ?_
      exact kk _ _ _ _ hd hst (lv_sub hl [2, 3, 4, 5, 6, 7] rfl)

set_option maxHeartbeats 4000000 in
set_option maxRecDepth 100000 in
theorem ch_drawn {p : Program} {l : Launch} {e : Env} {s : State} {m : MethodId} {args : Array Value} {below : List Frame} {meth : Method} {c : Code} {H : Heap} {locs : List Loc} {cells slots : Nat} {Q : State → Prop} {D : va_G} {cy ad : Nat → Nat} {d0 : Drawn} {ls : Array Slot} {ba L i : Nat} {xs : Nat → Int32} (am : Amb p s m args c cL_law 9 RL D cy ad) (hN : nC s) (hx : p.tables.exec = Jvm.exec) (hb : c.code = cL_law) (hX : va_X ba L xs s s.heap) (hbl : ba < s.heap.size) (hbA : ¬ aA ad s.heap.size ba) (hi : i + 6 ≤ L) (hL : L ≤ 3073) {I I1 I2 : Im} {G G1 G2 : Dm} {J J1 : Jm} (hd : s.drawn.sameBut d0 lw_cs) (hst : St D cy ad s.heap I G J H locs) (hl : lv_has ls 9 [(0, .ref ba), (1, .ref (ad 0)), (2, .ref (ad 53)), (3, .ref (ad 70)), (4, .ref (ad 71)), (5, .int (nI i))]) (hcl : cells + 1 ≤ 601024 ∧ slots + 6 ≤ 7293000)
    {code1 : Int32} {b0 : UInt64} (hW : nD l yL_drawn (.codeWith yL_drawn cL_drawn 4 (some .int) [(0, 8, 11, 21)]) D cy ad [.ref (ad 0), .int (xs (i + 1)), .ref (ad 71)] I G J (qI D cy ad code1 I1 G1 J1)) (hM : kD l yX5_drawn (.code yX5_drawn cX5_drawn 4 (some .double)) rU D cy ad [.ref (ad 53), .int (xs (i + 1))] I1 G1 J1 (qD D cy ad b0 I2 G2 J1)) (ht : I2 53 0 = code1) (he : code1 = 0 → dEq (G2 71 0) b0)
    (kk : ∀ (d1 : Drawn) (H1 : Heap) (locs1 : List Loc) (ls1 : Array Slot), s.drawn.sameBut d1 lw_cs → St D cy ad s.heap I2 G2 J1 H1 locs1 → lv_has ls1 9 [(0, .ref ba), (1, .ref (ad 0)), (2, .ref (ad 53)), (3, .ref (ad 70)), (4, .ref (ad 71)), (5, .int (nI i))] → W p l e room_1 (s.setDrawn d1) m args below meth c H1 locs1 (cells + 1) (slots + 6) Q (F0 m 1402 ls1 [])) :
    W p l e room_1 (s.setDrawn d0) m args below meth c H locs cells slots Q (F0 m 1325 ls []) := by
  have hadI := am.2.2.2.2.2.2.1
  refine lv_aload_n hx hb dL_law_1325 rfl (lv_at hl 1 rfl) ?_
  refine lv_aload_n hx hb dL_law_1326 rfl (lv_at hl 0 rfl) ?_
  refine lv_iload hx hb dL_law_1327 (lv_at hl 5 rfl) ?_
  refine lv_iconst (v := 1) hx hb dL_law_1329 (by decide) ?_
  refine lv_iadd hx hb dL_law_1330 ?_
  rw [show nI i + 1 = nI (i + 1) from nI_s i 1]
  refine w_scr hx hb hX hbl hbA hst (j := i + 1) (by omega) hL dL_law_1331 ?_
  refine lv_aload hx hb dL_law_1332 (lv_at hl 4 rfl) ?_
  refine c_iD hd hst (r_WN (As := [.ref (ad 0), .int (xs (i + 1)), .ref (ad 71)]) (rest := []) am hN hst hl (hW) kRL_160 smL_drawn ⟨Nat.le_of_ble_eq_true rfl, Nat.le_of_ble_eq_true rfl⟩ rfl rfl (Nat.le_of_ble_eq_true rfl) dL_law_1334 ⟨hcl.1, hcl.2⟩) (fun d0 H locs hd hst => ?_)
  refine lv_istore (lv' := [(6, .int code1), (0, .ref ba), (1, .ref (ad 0)), (2, .ref (ad 53)), (3, .ref (ad 70)), (4, .ref (ad 71)), (5, .int (nI i))]) hx hb dL_law_1337 hl (by decide) rfl (fun ls hl => ?_)
  refine lv_aload_n hx hb dL_law_1339 rfl (lv_at hl 3 rfl) ?_
  refine lv_aload_n hx hb dL_law_1340 rfl (lv_at hl 1 rfl) ?_
  refine lv_iload hx hb dL_law_1341 (lv_at hl 6 rfl) ?_
  refine lv_iconst (v := 1) hx hb dL_law_1343 (by decide) ?_
  refine lv_iadd hx hb dL_law_1344 ?_
  rw [show nI i + 1 = nI (i + 1) from nI_s i 1]
  refine w_scr hx hb hX hbl hbA hst (j := i + 1) (by omega) hL dL_law_1345 ?_
  refine c_dD hd hst (r_VD (As := [.int (xs (i + 1))]) (rest := []) am hst hl (hM) kRL_162 imX5_drawn slX5_drawn ⟨Nat.le_of_ble_eq_true rfl, Nat.le_of_ble_eq_true rfl⟩ (by decide) (fun _ _ _ => cE_M) rfl rfl rfl (Nat.le_of_ble_eq_true rfl) dL_law_1346 ⟨hcl.1, hcl.2⟩) (fun x1 d0 H locs hx1 hd hst => ?_)
  refine lv_dstore (lv' := [(7, .double x1), (6, .int code1), (0, .ref ba), (1, .ref (ad 0)), (2, .ref (ad 53)), (3, .ref (ad 70)), (4, .ref (ad 71)), (5, .int (nI i))]) hx hb dL_law_1349 hl (by decide) rfl (fun ls hl => ?_)
  refine lv_aload_n hx hb dL_law_1351 rfl (lv_at hl 4 rfl) ?_
  refine c_i hst (r_V (As := []) (rest := []) am hst hl (k_X5_thrown hadI) kRL_92 imX5_thrown slX5_thrown ⟨Nat.le_of_ble_eq_true rfl, Nat.le_of_ble_eq_true rfl⟩ (by decide) (fun _ _ _ => cE_M) rfl rfl rfl (Nat.le_of_ble_eq_true rfl) dL_law_1352 ⟨hcl.1, hcl.2⟩) (fun H locs hst => ?_)
  refine lv_iload hx hb dL_law_1355 (lv_at hl 1 rfl) ?_
  refine lv_icmp_eq (tgt := 1362) hx hb dL_law_1357 (by decide) (fun c_1357 => ?_) (fun c_1357 => absurd ht c_1357)
  refine lv_iload hx hb dL_law_1362 (lv_at hl 1 rfl) ?_
  refine lv_if_ne (tgt := 1399) hx hb dL_law_1364 (by decide) (fun c_1364 => ?_) (fun c_1364 => ?_)
  · skip
    refine lv_goto (tgt := 1402) hx hb dL_law_1399 (by decide) ?_
    exact kk _ _ _ _ hd hst (lv_sub hl [2, 3, 4, 5, 6, 7] rfl)
  · skip
    refine lv_aload hx hb dL_law_1367 (lv_at hl 6 rfl) ?_
    refine lv_iconst (v := 0) hx hb dL_law_1369 (by decide) ?_
    refine w_dald am hst (by decide) (fun _ _ _ => cE_71) (n := 0) rfl (vinL (by decide)) dL_law_1370 (fun x2 hx2 => ?_)
    refine lv_dload hx hb dL_law_1371 (lv_at hl 0 rfl) ?_
    refine w_dcmp hx hb hx2 hx1 dL_law_1373 ?_
    refine lv_if_eq (tgt := 1399) hx hb dL_law_1374 (by decide) (fun c_1374 => ?_) (fun c_1374 => ?_)
    · skip
      refine lv_goto (tgt := 1402) hx hb dL_law_1399 (by decide) ?_
      exact kk _ _ _ _ hd hst (lv_sub hl [2, 3, 4, 5, 6, 7] rfl)
    · skip
      refine lv_aload hx hb dL_law_1377 (lv_at hl 6 rfl) ?_
      refine lv_iconst (v := 0) hx hb dL_law_1379 (by decide) ?_
      refine w_dald am hst (by decide) (fun _ _ _ => cE_71) (n := 0) rfl (vinL (by decide)) dL_law_1380 (fun x3 hx3 => ?_)
      refine lv_aload hx hb dL_law_1381 (lv_at hl 6 rfl) ?_
      refine lv_iconst (v := 0) hx hb dL_law_1383 (by decide) ?_
      refine w_dald am hst (by decide) (fun _ _ _ => cE_71) (n := 0) rfl (vinL (by decide)) dL_law_1384 (fun x4 hx4 => ?_)
      refine w_dcmp hx hb hx3 hx4 dL_law_1385 ?_
      refine lv_if_eq (tgt := 1397) hx hb dL_law_1386 (by decide) (fun c_1386 => absurd c_1386 (((he c_1364).resolve_left c_1374).1)) (fun c_1386 => ?_)
      refine lv_dload hx hb dL_law_1389 (lv_at hl 0 rfl) ?_
      refine lv_dload hx hb dL_law_1391 (lv_at hl 0 rfl) ?_
      refine w_dcmp hx hb hx1 hx1 dL_law_1393 ?_
      refine lv_if_ne (tgt := 1399) hx hb dL_law_1394 (by decide) (fun c_1394 => ?_) (fun c_1394 => absurd c_1394 (((he c_1364).resolve_left c_1374).2))
      refine lv_goto (tgt := 1402) hx hb dL_law_1399 (by decide) ?_
      exact kk _ _ _ _ hd hst (lv_sub hl [2, 3, 4, 5, 6, 7] rfl)

