/-! the reference: solve, fit -/
def mc0 (G : Dm) : Nat → Dm | 0 => G | k + 1 => u2 (u2 (mc0 G k) 61 k 0) 62 (k / 3) 0
def mb0 (I : Im) (w : Int32) (G : Dm) : Nat → Dm | 0 => mc0 G 9 | i + 1 => if (!(decide (nI i = w)) && (decide (¬ I 59 i = 0) && mCompl I (mb0 I w G i) i)) = true then ma0 I i (mb0 I w G i) 3 else mb0 I w G i
def mj1 (c r : Nat) (f : UInt64) (G : Dm) : Nat → Dm | 0 => G | k + 1 => u2 (mj1 c r f G k) 61 (3 * r + (c + k)) (Sb (mj1 c r f G k 61 (3 * r + (c + k))) (Mu f (mj1 c r f G k 61 (3 * c + (c + k)))))
def mr0 (c r : Nat) (f : UInt64) (G : Dm) : Dm := u2 (mj1 c r f G (3 - c)) 62 r (Sb (mj1 c r f G (3 - c) 62 r) (Mu f (mj1 c r f G (3 - c) 62 c)))
def me1 (c : Nat) (P : UInt64) (G : Dm) : Nat → Dm | 0 => G | k + 1 => mr0 c (c + 1 + k) (Dv (me1 c P G k 61 (3 * (c + 1 + k) + c)) P) (me1 c P G k)
def me0 (G : Dm) : Nat → Dm | 0 => G | c + 1 => if pvO (me0 G c 61 (4 * c)) = true then me0 G c else me1 c (me0 G c 61 (4 * c)) (me0 G c) (2 - c)
def meI (I : Im) (G : Dm) : Nat → Im | 0 => I | c + 1 => u2 (meI I G c) 63 c (zB (pvO (me0 G c 61 (4 * c))))
def meR (G : Dm) : Nat → Nat | 0 => 0 | c + 1 => if pvO (me0 G c 61 (4 * c)) = true then meR G c else meR G c + 1
def ms1 (c : Nat) (G : Dm) : Nat → UInt64 | 0 => G 62 c | k + 1 => Sb (ms1 c G k) (Mu (G 61 (3 * c + (c + 1 + k))) (G 65 (c + 1 + k)))
def ms0 (I : Im) (G : Dm) : Nat → Dm | 0 => G | k + 1 => u2 (ms0 I G k) 65 (2 - k) (if I 63 (2 - k) = 0 then Dv (ms1 (2 - k) (ms0 I G k) k) (ms0 I G k 61 (4 * (2 - k))) else 0)
def slI (I : Im) (w : Int32) (G : Dm) (n : Nat) : Im := meI I (mb0 I w G n) 3
def slG (I : Im) (w : Int32) (G : Dm) (n : Nat) : Dm := ms0 (slI I w G n) (me0 (mb0 I w G n) 3) 3
def slR (I : Im) (w : Int32) (G : Dm) (n : Nat) : Nat := meR (mb0 I w G n) 3
theorem meR_le (G : Dm) : ∀ c, meR G c ≤ c
  | 0 => Nat.le_refl 0
  | c + 1 => by
    have := meR_le G c
    unfold meR
    split <;> omega
set_option maxHeartbeats 4000000 in
set_option maxRecDepth 100000 in
theorem k_X5_solve {l : Launch} {D : va_G} {cy ad : Nat → Nat} {I : Im} {G : Dm} {J : Jm} (hadI : adI ad) {n : Nat} {w : Int32} (hm : mOK I) (hn : I 53 2 = nI n) (hn2 : n ≤ 32) : kD l yX5_solve (.code yX5_solve cX5_solve 10 (some .int)) (rmK 2 0 0 48) D cy ad [.ref (ad 53), .int w] I G J (qI D cy ad (nI (slR I w G n)) (slI I w G n) (slG I w G n) J) := by
  refine start_D hadI (by decide +kernel) (Nat.le_of_ble_eq_true rfl) ?_
  intro p e s m below meth cd am hx hb hr hlk hst ls hl d0 hd
  have hl : lv_has ls 10 [(0, .ref (ad 53)), (1, .int w)] := hl
  refine lv_iconst (v := 0) hx hb dX5_solve_0 (by decide) ?_
  refine lv_istore_n (lv' := [(2, .int 0), (0, .ref (ad 53)), (1, .int w)]) hx hb dX5_solve_1 rfl hl (by decide) rfl (fun ls hl => ?_)
  have lpA : ∀ (q9 k : Nat), q9 + k = 9 → ∀ d0 : Drawn, s.drawn.sameBut d0 lw_cs → ∀ (H : Heap) (locs : List Loc), St D cy ad s.heap I (mc0 G k) J H locs → ∀ ls, lv_has ls 10 [(0, .ref (ad 53)), (1, .int w), (2, .int (nI k))] → W p l e (rmK 2 0 0 48) (s.setDrawn d0) m [.ref (ad 53), .int w].toArray below meth cd H locs 0 0 (MQD lw_cs below (qI D cy ad (nI (slR I w G n)) (slI I w G n) (slG I w G n) J s.heap.size) [.ref (ad 53), .int w].toArray s ((rmK 2 0 0 48)).cells ((rmK 2 0 0 48)).slots (aA ad s.heap.size)) (F0 m 2 ls []) := by
    intro q9
    induction q9 with
    | zero =>
      intro k hi d0 hd H locs hst ls hl
      obtain rfl : 9 = k := by omega
      refine lv_iload_n hx hb dX5_solve_2 rfl (lv_at hl 2 rfl) ?_
      refine lv_bipush (v := 9) hx hb dX5_solve_3 (by decide) ?_
      refine lv_icmp_ge (tgt := 30) hx hb dX5_solve_5 (by decide) (fun c_5 => ?_) (fun c_5 => absurd ((show (9 : Int32) ≤ nI 9 by decide)) c_5)
      refine lv_iconst (v := 0) hx hb dX5_solve_30 (by decide) ?_
      refine lv_istore_n (lv' := [(2, .int 0), (0, .ref (ad 53)), (1, .int w)]) hx hb dX5_solve_31 rfl hl (by decide) rfl (fun ls hl => ?_)
      have lpB : ∀ (q9 i : Nat), q9 + i = n → ∀ d0 : Drawn, s.drawn.sameBut d0 lw_cs → ∀ (H : Heap) (locs : List Loc), St D cy ad s.heap I (mb0 I w G i) J H locs → ∀ ls, lv_has ls 10 [(0, .ref (ad 53)), (1, .int w), (2, .int (nI i))] → W p l e (rmK 2 0 0 48) (s.setDrawn d0) m [.ref (ad 53), .int w].toArray below meth cd H locs 0 0 (MQD lw_cs below (qI D cy ad (nI (slR I w G n)) (slI I w G n) (slG I w G n) J s.heap.size) [.ref (ad 53), .int w].toArray s ((rmK 2 0 0 48)).cells ((rmK 2 0 0 48)).slots (aA ad s.heap.size)) (F0 m 32 ls []) := by
        intro q9
        induction q9 with
        | zero =>
          intro i hi d0 hd H locs hst ls hl
          obtain rfl : n = i := by omega
          refine lv_iload_n hx hb dX5_solve_32 rfl (lv_at hl 2 rfl) ?_
          refine lv_aload_n hx hb dX5_solve_33 rfl (lv_at hl 0 rfl) ?_
          refine w_getI am hst (k := 2) (by decide) (fun _ _ _ => cE_M) rfl inT5 (by decide) (fun _ _ _ => rfl) fRX5_76 dX5_solve_34 ?_
          rw [hn]
          refine lv_icmp_ge (tgt := 73) hx hb dX5_solve_37 (by decide) (fun c_37 => ?_) (fun c_37 => absurd ((nI_le (Nat.le_refl _) (by omega))) c_37)
          refine lv_iconst (v := 0) hx hb dX5_solve_73 (by decide) ?_
          refine lv_istore_n (lv' := [(2, .int 0), (0, .ref (ad 53)), (1, .int w)]) hx hb dX5_solve_74 rfl hl (by decide) rfl (fun ls hl => ?_)
          refine lv_iconst (v := 0) hx hb dX5_solve_75 (by decide) ?_
          refine lv_istore_n (lv' := [(3, .int 0), (2, .int 0), (0, .ref (ad 53)), (1, .int w)]) hx hb dX5_solve_76 rfl hl (by decide) rfl (fun ls hl => ?_)
          have lpC : ∀ (q9 c : Nat), q9 + c = 3 → ∀ d0 : Drawn, s.drawn.sameBut d0 lw_cs → ∀ (H : Heap) (locs : List Loc), St D cy ad s.heap (meI I (mb0 I w G n) c) (me0 (mb0 I w G n) c) J H locs → ∀ ls, lv_has ls 10 [(0, .ref (ad 53)), (1, .int w), (2, .int (nI (meR (mb0 I w G n) c))), (3, .int (nI c))] → W p l e (rmK 2 0 0 48) (s.setDrawn d0) m [.ref (ad 53), .int w].toArray below meth cd H locs 0 0 (MQD lw_cs below (qI D cy ad (nI (slR I w G n)) (slI I w G n) (slG I w G n) J s.heap.size) [.ref (ad 53), .int w].toArray s ((rmK 2 0 0 48)).cells ((rmK 2 0 0 48)).slots (aA ad s.heap.size)) (F0 m 77 ls []) := by
            intro q9
            induction q9 with
            | zero =>
              intro c hi d0 hd H locs hst ls hl
              obtain rfl : 3 = c := by omega
              refine lv_iload_n hx hb dX5_solve_77 rfl (lv_at hl 3 rfl) ?_
              refine lv_iconst (v := 3) hx hb dX5_solve_78 (by decide) ?_
              refine lv_icmp_ge (tgt := 257) hx hb dX5_solve_79 (by decide) (fun c_79 => ?_) (fun c_79 => absurd ((show (3 : Int32) ≤ nI 3 by decide)) c_79)
              refine lv_iconst (v := 2) hx hb dX5_solve_257 (by decide) ?_
              refine lv_istore_n (lv' := [(3, .int 2), (0, .ref (ad 53)), (1, .int w), (2, .int (nI (meR (mb0 I w G n) 3)))]) hx hb dX5_solve_258 rfl hl (by decide) rfl (fun ls hl => ?_)
              have lpS : ∀ (q9 k : Nat), q9 + k = 3 → ∀ d0 : Drawn, s.drawn.sameBut d0 lw_cs → ∀ (H : Heap) (locs : List Loc), St D cy ad s.heap (meI I (mb0 I w G n) 3) (ms0 (meI I (mb0 I w G n) 3) (me0 (mb0 I w G n) 3) k) J H locs → ∀ ls, lv_has ls 10 [(0, .ref (ad 53)), (1, .int w), (2, .int (nI (meR (mb0 I w G n) 3))), (3, .int (nI (3 - k) + (-1)))] → W p l e (rmK 2 0 0 48) (s.setDrawn d0) m [.ref (ad 53), .int w].toArray below meth cd H locs 0 0 (MQD lw_cs below (qI D cy ad (nI (slR I w G n)) (slI I w G n) (slG I w G n) J s.heap.size) [.ref (ad 53), .int w].toArray s ((rmK 2 0 0 48)).cells ((rmK 2 0 0 48)).slots (aA ad s.heap.size)) (F0 m 259 ls []) := by
                intro q9
                induction q9 with
                | zero =>
                  intro k hi d0 hd H locs hst ls hl
                  obtain rfl : 3 = k := by omega
                  refine lv_iload_n hx hb dX5_solve_259 rfl (lv_at hl 3 rfl) ?_
                  refine lv_if_lt (tgt := 348) hx hb dX5_solve_260 (by decide) (fun c_260 => ?_) (fun c_260 => absurd ((show nI (3 - 3) + (-1) < 0 by decide)) c_260)
                  refine lv_iload_n hx hb dX5_solve_348 rfl (lv_at hl 2 rfl) ?_
                  exact e_iD hd hx hb hr hlk hst rfl rfl dX5_solve_349
                | succ q9 ih_lpS =>
                  intro k hi d0 hd H locs hst ls hl
                  rw [show nI (3 - k) + (-1) = nI (2 - k) from by rw [show 3 - k = (2 - k) + 1 by omega]; exact pk_m1 _] at hl
                  refine lv_iload_n hx hb dX5_solve_259 rfl (lv_at hl 3 rfl) ?_
                  refine lv_if_lt (tgt := 348) hx hb dX5_solve_260 (by decide) (fun c_260 => absurd c_260 ((nI_pos (by omega)))) (fun c_260 => ?_)
                  refine lv_aload_n hx hb dX5_solve_263 rfl (lv_at hl 0 rfl) ?_
                  refine w_getR am hst (k := 11) (b := ad 62) (by decide) (fun _ _ _ => cE_M) rfl inT5 (by decide) (fun _ _ _ => rfl) fRX5_36 dX5_solve_264 ?_
                  refine lv_iload_n hx hb dX5_solve_267 rfl (lv_at hl 3 rfl) ?_
                  refine w_dald am hst (by decide) (fun _ _ _ => cE_62) (n := 2 - k) (nI_clamp (by omega)) (vp_in_nI (by omega) (by decide)) dX5_solve_268 (fun x1 hx1 => ?_)
                  refine lv_dstore (lv' := [(4, .double x1), (0, .ref (ad 53)), (1, .int w), (2, .int (nI (meR (mb0 I w G n) 3))), (3, .int (nI (2 - k)))]) hx hb dX5_solve_269 hl (by decide) rfl (fun ls hl => ?_)
                  refine lv_iload_n hx hb dX5_solve_271 rfl (lv_at hl 4 rfl) ?_
                  refine lv_iconst (v := 1) hx hb dX5_solve_272 (by decide) ?_
                  refine lv_iadd hx hb dX5_solve_273 ?_
                  rw [nI_1]
                  refine lv_istore (lv' := [(6, .int (nI (2 - k + 1))), (4, .double x1), (0, .ref (ad 53)), (1, .int w), (2, .int (nI (meR (mb0 I w G n) 3))), (3, .int (nI (2 - k)))]) hx hb dX5_solve_274 hl (by decide) rfl (fun ls hl => ?_)
                  have lpT : ∀ (q9 i : Nat), q9 + i = k → ∀ x : UInt64, cn x = ms1 (2 - k) (ms0 (meI I (mb0 I w G n) 3) (me0 (mb0 I w G n) 3) k) i → ∀ d0 : Drawn, s.drawn.sameBut d0 lw_cs → ∀ (H : Heap) (locs : List Loc), St D cy ad s.heap (meI I (mb0 I w G n) 3) (ms0 (meI I (mb0 I w G n) 3) (me0 (mb0 I w G n) 3) k) J H locs → ∀ ls, lv_has ls 10 [(0, .ref (ad 53)), (1, .int w), (2, .int (nI (meR (mb0 I w G n) 3))), (3, .int (nI (2 - k))), (4, .double x), (6, .int (nI (2 - k + 1 + (i))))] → W p l e (rmK 2 0 0 48) (s.setDrawn d0) m [.ref (ad 53), .int w].toArray below meth cd H locs 0 0 (MQD lw_cs below (qI D cy ad (nI (slR I w G n)) (slI I w G n) (slG I w G n) J s.heap.size) [.ref (ad 53), .int w].toArray s ((rmK 2 0 0 48)).cells ((rmK 2 0 0 48)).slots (aA ad s.heap.size)) (F0 m 276 ls []) := by
                    intro q9
                    induction q9 with
                    | zero =>
                      intro i hi x hxr d0 hd H locs hst ls hl
                      obtain rfl : k = i := by omega
                      refine lv_iload hx hb dX5_solve_276 (lv_at hl 5 rfl) ?_
                      refine lv_iconst (v := 3) hx hb dX5_solve_278 (by decide) ?_
                      refine lv_icmp_ge (tgt := 312) hx hb dX5_solve_279 (by decide) (fun c_279 => ?_) (fun c_279 => absurd ((show (3 : Int32) ≤ nI (2 - k + 1 + k) by rw [show 2 - k + 1 + k = 3 by omega]; decide)) c_279)
                      refine lv_aload_n hx hb dX5_solve_312 rfl (lv_at hl 0 rfl) ?_
                      refine w_getR am hst (k := 14) (b := ad 65) (by decide) (fun _ _ _ => cE_M) rfl inT5 (by decide) (fun _ _ _ => rfl) fRX5_45 dX5_solve_313 ?_
                      refine lv_iload_n hx hb dX5_solve_316 rfl (lv_at hl 3 rfl) ?_
                      refine lv_aload_n hx hb dX5_solve_317 rfl (lv_at hl 0 rfl) ?_
                      refine w_getR am hst (k := 12) (b := ad 63) (by decide) (fun _ _ _ => cE_M) rfl inT5 (by decide) (fun _ _ _ => rfl) fRX5_39 dX5_solve_318 ?_
                      refine lv_iload_n hx hb dX5_solve_321 rfl (lv_at hl 3 rfl) ?_
                      refine w_zald am hst (by decide) (fun _ _ _ => cE_63) (n := 2 - k) (nI_clamp (by omega)) (vp_in_nI (by omega) (by decide)) dX5_solve_322 ?_
                      refine lv_if_eq (tgt := 330) hx hb dX5_solve_323 (by decide) (fun c_323 => ?_) (fun c_323 => ?_)
                      · skip
                        refine lv_dload hx hb dX5_solve_330 (lv_at hl 4 rfl) ?_
                        refine lv_aload_n hx hb dX5_solve_332 rfl (lv_at hl 0 rfl) ?_
                        refine w_getR am hst (k := 10) (b := ad 61) (by decide) (fun _ _ _ => cE_M) rfl inT5 (by decide) (fun _ _ _ => rfl) fRX5_33 dX5_solve_333 ?_
                        refine lv_iconst (v := 4) hx hb dX5_solve_336 (by decide) ?_
                        refine lv_iload_n hx hb dX5_solve_337 rfl (lv_at hl 3 rfl) ?_
                        refine lv_imul hx hb dX5_solve_338 ?_
                        rw [nI_4]
                        refine w_dald am hst (by decide) (fun _ _ _ => cE_61) (n := 4 * (2 - k)) (nI_clamp (by omega)) (vp_in_nI (by omega) (by decide)) dX5_solve_339 (fun x2 hx2 => ?_)
                        refine w_ddiv hd hx hb hxr hx2 dX5_solve_340 (fun x3 d0 hx3 hd => ?_)
                        refine w_dast am hst hx3 (by decide) (fun _ _ _ => cE_65) (n := 2 - k) (nI_clamp (by omega)) (vp_in_nI (by omega) (by decide)) dX5_solve_341 (fun H locs hst => ?_)
                        refine lv_iinc (v := nI (3 - (k + 1)) + (-1)) (lv' := [(3, .int (nI (3 - (k + 1)) + (-1))), (0, .ref (ad 53)), (1, .int w), (2, .int (nI (meR (mb0 I w G n) 3))), (4, .double x), (6, .int (nI (2 - k + 1 + (k))))]) hx hb dX5_solve_342 hl (k := 3) rfl (by rw [show 3 - (k + 1) = 2 - k by omega]; rfl) (by decide) rfl (fun ls hl => ?_)
                        refine lv_goto (tgt := 259) hx hb dX5_solve_345 (by decide) ?_
                        have ih2 := ih_lpS (k + 1) (by omega) d0 hd
                        rw [show ms0 (meI I (mb0 I w G n) 3) (me0 (mb0 I w G n) 3) (k + 1) = u2 (ms0 (meI I (mb0 I w G n) 3) (me0 (mb0 I w G n) 3) k) 65 (2 - k) (Dv (ms1 (2 - k) (ms0 (meI I (mb0 I w G n) 3) (me0 (mb0 I w G n) 3) k) k) (ms0 (meI I (mb0 I w G n) 3) (me0 (mb0 I w G n) 3) k 61 (4 * (2 - k)))) from congrArg (u2 (ms0 (meI I (mb0 I w G n) 3) (me0 (mb0 I w G n) 3) k) 65 (2 - k)) (if_pos c_323)] at ih2
                        exact ih2 _ _ hst ls (lv_sub hl [1, 2, 3, 0] rfl)
                      · skip
                        refine lv_dconst0 hx hb dX5_solve_326 ?_
                        refine lv_goto (tgt := 341) hx hb dX5_solve_327 (by decide) ?_
                        refine w_dast am hst cn_k0 (by decide) (fun _ _ _ => cE_65) (n := 2 - k) (nI_clamp (by omega)) (vp_in_nI (by omega) (by decide)) dX5_solve_341 (fun H locs hst => ?_)
                        refine lv_iinc (v := nI (3 - (k + 1)) + (-1)) (lv' := [(3, .int (nI (3 - (k + 1)) + (-1))), (0, .ref (ad 53)), (1, .int w), (2, .int (nI (meR (mb0 I w G n) 3))), (4, .double x), (6, .int (nI (2 - k + 1 + (k))))]) hx hb dX5_solve_342 hl (k := 3) rfl (by rw [show 3 - (k + 1) = 2 - k by omega]; rfl) (by decide) rfl (fun ls hl => ?_)
                        refine lv_goto (tgt := 259) hx hb dX5_solve_345 (by decide) ?_
                        have ih2 := ih_lpS (k + 1) (by omega) d0 hd
                        rw [show ms0 (meI I (mb0 I w G n) 3) (me0 (mb0 I w G n) 3) (k + 1) = u2 (ms0 (meI I (mb0 I w G n) 3) (me0 (mb0 I w G n) 3) k) 65 (2 - k) 0 from congrArg (u2 (ms0 (meI I (mb0 I w G n) 3) (me0 (mb0 I w G n) 3) k) 65 (2 - k)) (if_neg c_323)] at ih2
                        exact ih2 _ _ hst ls (lv_sub hl [1, 2, 3, 0] rfl)
                    | succ q9 ih_lpT =>
                      intro i hi x hxr d0 hd H locs hst ls hl
                      refine lv_iload hx hb dX5_solve_276 (lv_at hl 5 rfl) ?_
                      refine lv_iconst (v := 3) hx hb dX5_solve_278 (by decide) ?_
                      refine lv_icmp_ge (tgt := 312) hx hb dX5_solve_279 (by decide) (fun c_279 => absurd c_279 ((nI_ge (b := 3) (by omega) (by decide)))) (fun c_279 => ?_)
                      refine lv_dload hx hb dX5_solve_282 (lv_at hl 4 rfl) ?_
                      refine lv_aload_n hx hb dX5_solve_284 rfl (lv_at hl 0 rfl) ?_
                      refine w_getR am hst (k := 10) (b := ad 61) (by decide) (fun _ _ _ => cE_M) rfl inT5 (by decide) (fun _ _ _ => rfl) fRX5_33 dX5_solve_285 ?_
                      refine lv_iconst (v := 3) hx hb dX5_solve_288 (by decide) ?_
                      refine lv_iload_n hx hb dX5_solve_289 rfl (lv_at hl 3 rfl) ?_
                      refine lv_imul hx hb dX5_solve_290 ?_
                      refine lv_iload hx hb dX5_solve_291 (lv_at hl 5 rfl) ?_
                      refine lv_iadd hx hb dX5_solve_293 ?_
                      rw [nI_lin]
                      refine w_dald am hst (by decide) (fun _ _ _ => cE_61) (n := 3 * (2 - k) + (2 - k + 1 + (i))) (nI_clamp (by omega)) (vp_in_nI (by omega) (by decide)) dX5_solve_294 (fun x4 hx4 => ?_)
                      refine lv_aload_n hx hb dX5_solve_295 rfl (lv_at hl 0 rfl) ?_
                      refine w_getR am hst (k := 14) (b := ad 65) (by decide) (fun _ _ _ => cE_M) rfl inT5 (by decide) (fun _ _ _ => rfl) fRX5_45 dX5_solve_296 ?_
                      refine lv_iload hx hb dX5_solve_299 (lv_at hl 5 rfl) ?_
                      refine w_dald am hst (by decide) (fun _ _ _ => cE_65) (n := 2 - k + 1 + (i)) (nI_clamp (by omega)) (vp_in_nI (by omega) (by decide)) dX5_solve_301 (fun x5 hx5 => ?_)
                      refine w_dmul hd hx hb hx4 hx5 dX5_solve_302 (fun x6 d0 hx6 hd => ?_)
                      refine w_dsub hd hx hb hxr hx6 dX5_solve_303 (fun x7 d0 hx7 hd => ?_)
                      refine lv_dstore (lv' := [(4, .double x7), (0, .ref (ad 53)), (1, .int w), (2, .int (nI (meR (mb0 I w G n) 3))), (3, .int (nI (2 - k))), (6, .int (nI (2 - k + 1 + (i))))]) hx hb dX5_solve_304 hl (by decide) rfl (fun ls hl => ?_)
                      refine lv_iinc (v := nI (2 - k + 1 + (i) + 1)) (lv' := [(6, .int (nI (2 - k + 1 + (i) + 1))), (4, .double x7), (0, .ref (ad 53)), (1, .int w), (2, .int (nI (meR (mb0 I w G n) 3))), (3, .int (nI (2 - k)))]) hx hb dX5_solve_306 hl (k := 5) rfl (nI_1 (2 - k + 1 + (i))) (by decide) rfl (fun ls hl => ?_)
                      refine lv_goto (tgt := 276) hx hb dX5_solve_309 (by decide) ?_
                      exact ih_lpT (i + 1) (by omega) _ hx7 d0 hd _ _ hst ls (lv_sub hl [2, 3, 4, 5, 1, 0] rfl)
                  exact lpT k 0 (by omega) _ hx1 d0 hd _ _ hst ls (lv_sub hl [2, 3, 4, 5, 1, 0] rfl)
              exact lpS 3 0 (by omega) d0 hd _ _ hst ls (lv_sub hl [1, 2, 3, 0] rfl)
            | succ q9 ih_lpC =>
              intro c hi d0 hd H locs hst ls hl
              refine lv_iload_n hx hb dX5_solve_77 rfl (lv_at hl 3 rfl) ?_
              refine lv_iconst (v := 3) hx hb dX5_solve_78 (by decide) ?_
              refine lv_icmp_ge (tgt := 257) hx hb dX5_solve_79 (by decide) (fun c_79 => absurd c_79 ((nI_ge (b := 3) (by omega) (by decide)))) (fun c_79 => ?_)
              refine lv_aload_n hx hb dX5_solve_82 rfl (lv_at hl 0 rfl) ?_
              refine w_getR am hst (k := 10) (b := ad 61) (by decide) (fun _ _ _ => cE_M) rfl inT5 (by decide) (fun _ _ _ => rfl) fRX5_33 dX5_solve_83 ?_
              refine lv_iconst (v := 4) hx hb dX5_solve_86 (by decide) ?_
              refine lv_iload_n hx hb dX5_solve_87 rfl (lv_at hl 3 rfl) ?_
              refine lv_imul hx hb dX5_solve_88 ?_
              rw [nI_4]
              refine w_dald am hst (by decide) (fun _ _ _ => cE_61) (n := 4 * c) (nI_clamp (by omega)) (vp_in_nI (by omega) (by decide)) dX5_solve_89 (fun x8 hx8 => ?_)
              refine lv_dstore (lv' := [(4, .double x8), (0, .ref (ad 53)), (1, .int w), (2, .int (nI (meR (mb0 I w G n) c))), (3, .int (nI c))]) hx hb dX5_solve_90 hl (by decide) rfl (fun ls hl => ?_)
              refine lv_aload_n hx hb dX5_solve_92 rfl (lv_at hl 1 rfl) ?_
              refine w_getR am hst (k := 12) (b := ad 63) (by decide) (fun _ _ _ => cE_M) rfl inT5 (by decide) (fun _ _ _ => rfl) fRX5_39 dX5_solve_93 ?_
              refine lv_iload_n hx hb dX5_solve_96 rfl (lv_at hl 4 rfl) ?_
              refine lv_dload hx hb dX5_solve_97 (lv_at hl 0 rfl) ?_
              refine lv_dconst0 hx hb dX5_solve_99 ?_
              refine w_dcmp hx hb hx8 cn_k0 dX5_solve_100 ?_
              refine lv_if_ge (tgt := 110) hx hb dX5_solve_101 (by decide) (fun c_101 => ?_) (fun c_101 => ?_)
              · skip
                refine lv_dload hx hb dX5_solve_110 (lv_at hl 0 rfl) ?_
                refine lv_ldc2d hx hb am.2.2.2.1 (amT am _ wRX5_106) dX5_solve_112 ?_
                refine w_dcmp hx hb hx8 cn_k4517110426252607488 dX5_solve_115 ?_
                refine lv_if_ge (tgt := 123) hx hb dX5_solve_116 (by decide) (fun c_116 => ?_) (fun c_116 => ?_)
                · skip
                  refine lv_iconst (v := 0) hx hb dX5_solve_123 (by decide) ?_
                  refine w_zast am hst rfl (by decide) (fun _ _ _ => cE_63) (n := c) (nI_clamp (by omega)) (vp_in_nI (by omega) (by decide)) dX5_solve_124 (fun H locs hst => ?_)
                  refine lv_aload_n hx hb dX5_solve_125 rfl (lv_at hl 1 rfl) ?_
                  refine w_getR am hst (k := 12) (b := ad 63) (by decide) (fun _ _ _ => cE_M) rfl inT5 (by decide) (fun _ _ _ => rfl) fRX5_39 dX5_solve_126 ?_
                  refine lv_iload_n hx hb dX5_solve_129 rfl (lv_at hl 4 rfl) ?_
                  refine w_zald am hst (by decide) (fun _ _ _ => cE_63) (n := c) (nI_clamp (by omega)) (vp_in_nI (by omega) (by decide)) dX5_solve_130 ?_
                  rw [show (u2 (meI I (mb0 I w G n) c) 63 c 0) 63 c = 0 from (u2_eq _ _ _ _)]
                  refine lv_if_eq (tgt := 137) hx hb dX5_solve_131 (by decide) (fun c_131 => ?_) (fun c_131 => absurd ((show (0 : Int32) = 0 by decide)) c_131)
                  refine lv_iinc (v := nI (meR (mb0 I w G n) c + 1)) (lv' := [(2, .int (nI (meR (mb0 I w G n) c + 1))), (4, .double x8), (0, .ref (ad 53)), (1, .int w), (3, .int (nI c))]) hx hb dX5_solve_137 hl (k := 3) rfl (nI_1 (meR (mb0 I w G n) c)) (by decide) rfl (fun ls hl => ?_)
                  refine lv_iload_n hx hb dX5_solve_140 rfl (lv_at hl 4 rfl) ?_
                  refine lv_iconst (v := 1) hx hb dX5_solve_141 (by decide) ?_
                  refine lv_iadd hx hb dX5_solve_142 ?_
                  rw [nI_1]
                  refine lv_istore (lv' := [(6, .int (nI (c + 1))), (2, .int (nI (meR (mb0 I w G n) c + 1))), (4, .double x8), (0, .ref (ad 53)), (1, .int w), (3, .int (nI c))]) hx hb dX5_solve_143 hl (by decide) rfl (fun ls hl => ?_)
                  have lpR : ∀ (q9 k : Nat), q9 + k = 2 - c → ∀ p0 : UInt64, cn p0 = (me0 (mb0 I w G n) c) 61 (4 * c) → ∀ d0 : Drawn, s.drawn.sameBut d0 lw_cs → ∀ (H : Heap) (locs : List Loc), St D cy ad s.heap (u2 (meI I (mb0 I w G n) c) 63 c 0) (me1 c ((me0 (mb0 I w G n) c) 61 (4 * c)) (me0 (mb0 I w G n) c) k) J H locs → ∀ ls, lv_has ls 10 [(0, .ref (ad 53)), (1, .int w), (2, .int (nI (meR (mb0 I w G n) c + 1))), (3, .int (nI c)), (4, .double p0), (6, .int (nI (c + 1 + (k))))] → W p l e (rmK 2 0 0 48) (s.setDrawn d0) m [.ref (ad 53), .int w].toArray below meth cd H locs 0 0 (MQD lw_cs below (qI D cy ad (nI (slR I w G n)) (slI I w G n) (slG I w G n) J s.heap.size) [.ref (ad 53), .int w].toArray s ((rmK 2 0 0 48)).cells ((rmK 2 0 0 48)).slots (aA ad s.heap.size)) (F0 m 145 ls []) := by
                    intro q9
                    induction q9 with
                    | zero =>
                      intro k hi p0 hp0 d0 hd H locs hst ls hl
                      obtain rfl : 2 - c = k := by omega
                      refine lv_iload hx hb dX5_solve_145 (lv_at hl 5 rfl) ?_
                      refine lv_iconst (v := 3) hx hb dX5_solve_147 (by decide) ?_
                      refine lv_icmp_ge (tgt := 251) hx hb dX5_solve_148 (by decide) (fun c_148 => ?_) (fun c_148 => absurd ((show (3 : Int32) ≤ nI (c + 1 + (2 - c)) by rw [show c + 1 + (2 - c) = 3 by omega]; decide)) c_148)
                      refine lv_iinc (v := nI (c + 1)) (lv' := [(3, .int (nI (c + 1))), (0, .ref (ad 53)), (1, .int w), (2, .int (nI (meR (mb0 I w G n) c + 1))), (4, .double p0), (6, .int (nI (c + 1 + (2 - c))))]) hx hb dX5_solve_251 hl (k := 3) rfl (nI_1 c) (by decide) rfl (fun ls hl => ?_)
                      refine lv_goto (tgt := 77) hx hb dX5_solve_254 (by decide) ?_
                      have ih2 := ih_lpC (c + 1) (by omega) d0 hd
                      rw [show me0 (mb0 I w G n) (c + 1) = me1 c ((me0 (mb0 I w G n) c) 61 (4 * c)) (me0 (mb0 I w G n) c) (2 - c) from if_neg (by rw [show pvO ((me0 (mb0 I w G n) c) 61 (4 * c)) = false from by simp only [pvO, pvS, c_101, c_116, not_true_eq_false, not_false_eq_true, decide_true, decide_false, Bool.true_and, Bool.false_and, Bool.and_true, Bool.and_false, Bool.and_self, if_true, if_false, ite_true, ite_false, reduceIte, Bool.false_eq_true]]; exact Bool.false_ne_true), show meI I (mb0 I w G n) (c + 1) = u2 (meI I (mb0 I w G n) c) 63 c 0 from congrArg (u2 (meI I (mb0 I w G n) c) 63 c) (by rw [show pvO ((me0 (mb0 I w G n) c) 61 (4 * c)) = false from by simp only [pvO, pvS, c_101, c_116, not_true_eq_false, not_false_eq_true, decide_true, decide_false, Bool.true_and, Bool.false_and, Bool.and_true, Bool.and_false, Bool.and_self, if_true, if_false, ite_true, ite_false, reduceIte, Bool.false_eq_true]]; rfl), show meR (mb0 I w G n) (c + 1) = meR (mb0 I w G n) c + 1 from if_neg (by rw [show pvO ((me0 (mb0 I w G n) c) 61 (4 * c)) = false from by simp only [pvO, pvS, c_101, c_116, not_true_eq_false, not_false_eq_true, decide_true, decide_false, Bool.true_and, Bool.false_and, Bool.and_true, Bool.and_false, Bool.and_self, if_true, if_false, ite_true, ite_false, reduceIte, Bool.false_eq_true]]; exact Bool.false_ne_true)] at ih2
                      exact ih2 _ _ hst ls (lv_sub hl [1, 2, 3, 0] rfl)
                    | succ q9 ih_lpR =>
                      intro k hi p0 hp0 d0 hd H locs hst ls hl
                      refine lv_iload hx hb dX5_solve_145 (lv_at hl 5 rfl) ?_
                      refine lv_iconst (v := 3) hx hb dX5_solve_147 (by decide) ?_
                      refine lv_icmp_ge (tgt := 251) hx hb dX5_solve_148 (by decide) (fun c_148 => absurd c_148 ((nI_ge (b := 3) (by omega) (by decide)))) (fun c_148 => ?_)
                      refine lv_aload_n hx hb dX5_solve_151 rfl (lv_at hl 0 rfl) ?_
                      refine w_getR am hst (k := 10) (b := ad 61) (by decide) (fun _ _ _ => cE_M) rfl inT5 (by decide) (fun _ _ _ => rfl) fRX5_33 dX5_solve_152 ?_
                      refine lv_iconst (v := 3) hx hb dX5_solve_155 (by decide) ?_
                      refine lv_iload hx hb dX5_solve_156 (lv_at hl 5 rfl) ?_
                      refine lv_imul hx hb dX5_solve_158 ?_
                      refine lv_iload_n hx hb dX5_solve_159 rfl (lv_at hl 3 rfl) ?_
                      refine lv_iadd hx hb dX5_solve_160 ?_
                      rw [nI_lin]
                      refine w_dald am hst (by decide) (fun _ _ _ => cE_61) (n := 3 * (c + 1 + (k)) + c) (nI_clamp (by omega)) (vp_in_nI (by omega) (by decide)) dX5_solve_161 (fun x9 hx9 => ?_)
                      refine lv_dload hx hb dX5_solve_162 (lv_at hl 4 rfl) ?_
                      refine w_ddiv hd hx hb hx9 hp0 dX5_solve_164 (fun x10 d0 hx10 hd => ?_)
                      refine lv_dstore (lv' := [(7, .double x10), (0, .ref (ad 53)), (1, .int w), (2, .int (nI (meR (mb0 I w G n) c + 1))), (3, .int (nI c)), (4, .double p0), (6, .int (nI (c + 1 + (k))))]) hx hb dX5_solve_165 hl (by decide) rfl (fun ls hl => ?_)
                      refine lv_iload_n hx hb dX5_solve_167 rfl (lv_at hl 4 rfl) ?_
                      refine lv_istore (lv' := [(9, .int (nI c)), (7, .double x10), (0, .ref (ad 53)), (1, .int w), (2, .int (nI (meR (mb0 I w G n) c + 1))), (3, .int (nI c)), (4, .double p0), (6, .int (nI (c + 1 + (k))))]) hx hb dX5_solve_168 hl (by decide) rfl (fun ls hl => ?_)
                      have lpJ : ∀ (q9 q : Nat), q9 + q = 3 - c → ∀ p0 f0 : UInt64, cn p0 = (me0 (mb0 I w G n) c) 61 (4 * c) → cn f0 = Dv ((me1 c ((me0 (mb0 I w G n) c) 61 (4 * c)) (me0 (mb0 I w G n) c) k) 61 (3 * (c + 1 + k) + c)) ((me0 (mb0 I w G n) c) 61 (4 * c)) → ∀ d0 : Drawn, s.drawn.sameBut d0 lw_cs → ∀ (H : Heap) (locs : List Loc), St D cy ad s.heap (u2 (meI I (mb0 I w G n) c) 63 c 0) (mj1 c (c + 1 + k) (Dv ((me1 c ((me0 (mb0 I w G n) c) 61 (4 * c)) (me0 (mb0 I w G n) c) k) 61 (3 * (c + 1 + k) + c)) ((me0 (mb0 I w G n) c) 61 (4 * c))) (me1 c ((me0 (mb0 I w G n) c) 61 (4 * c)) (me0 (mb0 I w G n) c) k) q) J H locs → ∀ ls, lv_has ls 10 [(0, .ref (ad 53)), (1, .int w), (2, .int (nI (meR (mb0 I w G n) c + 1))), (3, .int (nI c)), (4, .double p0), (6, .int (nI (c + 1 + k))), (7, .double f0), (9, .int (nI (c + (q))))] → W p l e (rmK 2 0 0 48) (s.setDrawn d0) m [.ref (ad 53), .int w].toArray below meth cd H locs 0 0 (MQD lw_cs below (qI D cy ad (nI (slR I w G n)) (slI I w G n) (slG I w G n) J s.heap.size) [.ref (ad 53), .int w].toArray s ((rmK 2 0 0 48)).cells ((rmK 2 0 0 48)).slots (aA ad s.heap.size)) (F0 m 170 ls []) := by
                        intro q9
                        induction q9 with
                        | zero =>
                          intro q hi p0 f0 hp0 hf0 d0 hd H locs hst ls hl
                          obtain rfl : 3 - c = q := by omega
                          refine lv_iload hx hb dX5_solve_170 (lv_at hl 7 rfl) ?_
                          refine lv_iconst (v := 3) hx hb dX5_solve_172 (by decide) ?_
                          refine lv_icmp_ge (tgt := 221) hx hb dX5_solve_173 (by decide) (fun c_173 => ?_) (fun c_173 => absurd ((show (3 : Int32) ≤ nI (c + (3 - c)) by rw [show c + (3 - c) = 3 by omega]; decide)) c_173)
                          refine lv_aload_n hx hb dX5_solve_221 rfl (lv_at hl 0 rfl) ?_
                          refine w_getR am hst (k := 11) (b := ad 62) (by decide) (fun _ _ _ => cE_M) rfl inT5 (by decide) (fun _ _ _ => rfl) fRX5_36 dX5_solve_222 ?_
                          refine lv_iload hx hb dX5_solve_225 (lv_at hl 5 rfl) ?_
                          refine lv_aload_n hx hb dX5_solve_227 rfl (lv_at hl 0 rfl) ?_
                          refine w_getR am hst (k := 11) (b := ad 62) (by decide) (fun _ _ _ => cE_M) rfl inT5 (by decide) (fun _ _ _ => rfl) fRX5_36 dX5_solve_228 ?_
                          refine lv_iload hx hb dX5_solve_231 (lv_at hl 5 rfl) ?_
                          refine w_dald am hst (by decide) (fun _ _ _ => cE_62) (n := c + 1 + k) (nI_clamp (by omega)) (vp_in_nI (by omega) (by decide)) dX5_solve_233 (fun x11 hx11 => ?_)
                          refine lv_dload hx hb dX5_solve_234 (lv_at hl 6 rfl) ?_
                          refine lv_aload_n hx hb dX5_solve_236 rfl (lv_at hl 0 rfl) ?_
                          refine w_getR am hst (k := 11) (b := ad 62) (by decide) (fun _ _ _ => cE_M) rfl inT5 (by decide) (fun _ _ _ => rfl) fRX5_36 dX5_solve_237 ?_
                          refine lv_iload_n hx hb dX5_solve_240 rfl (lv_at hl 3 rfl) ?_
                          refine w_dald am hst (by decide) (fun _ _ _ => cE_62) (n := c) (nI_clamp (by omega)) (vp_in_nI (by omega) (by decide)) dX5_solve_241 (fun x12 hx12 => ?_)
                          refine w_dmul hd hx hb hf0 hx12 dX5_solve_242 (fun x13 d0 hx13 hd => ?_)
                          refine w_dsub hd hx hb hx11 hx13 dX5_solve_243 (fun x14 d0 hx14 hd => ?_)
                          refine w_dast am hst hx14 (by decide) (fun _ _ _ => cE_62) (n := c + 1 + k) (nI_clamp (by omega)) (vp_in_nI (by omega) (by decide)) dX5_solve_244 (fun H locs hst => ?_)
                          refine lv_iinc (v := nI (c + 1 + k + 1)) (lv' := [(6, .int (nI (c + 1 + k + 1))), (0, .ref (ad 53)), (1, .int w), (2, .int (nI (meR (mb0 I w G n) c + 1))), (3, .int (nI c)), (4, .double p0), (7, .double f0), (9, .int (nI (c + (3 - c))))]) hx hb dX5_solve_245 hl (k := 5) rfl (nI_1 (c + 1 + k)) (by decide) rfl (fun ls hl => ?_)
                          refine lv_goto (tgt := 145) hx hb dX5_solve_248 (by decide) ?_
                          exact ih_lpR (k + 1) (by omega) _ hp0 d0 hd _ _ hst ls (lv_sub hl [1, 2, 3, 4, 5, 0] rfl)
                        | succ q9 ih_lpJ =>
                          intro q hi p0 f0 hp0 hf0 d0 hd H locs hst ls hl
                          refine lv_iload hx hb dX5_solve_170 (lv_at hl 7 rfl) ?_
                          refine lv_iconst (v := 3) hx hb dX5_solve_172 (by decide) ?_
                          refine lv_icmp_ge (tgt := 221) hx hb dX5_solve_173 (by decide) (fun c_173 => absurd c_173 ((nI_ge (b := 3) (by omega) (by decide)))) (fun c_173 => ?_)
                          refine lv_aload_n hx hb dX5_solve_176 rfl (lv_at hl 0 rfl) ?_
                          refine w_getR am hst (k := 10) (b := ad 61) (by decide) (fun _ _ _ => cE_M) rfl inT5 (by decide) (fun _ _ _ => rfl) fRX5_33 dX5_solve_177 ?_
                          refine lv_iconst (v := 3) hx hb dX5_solve_180 (by decide) ?_
                          refine lv_iload hx hb dX5_solve_181 (lv_at hl 5 rfl) ?_
                          refine lv_imul hx hb dX5_solve_183 ?_
                          refine lv_iload hx hb dX5_solve_184 (lv_at hl 7 rfl) ?_
                          refine lv_iadd hx hb dX5_solve_186 ?_
                          rw [nI_lin]
                          refine lv_aload_n hx hb dX5_solve_187 rfl (lv_at hl 0 rfl) ?_
                          refine w_getR am hst (k := 10) (b := ad 61) (by decide) (fun _ _ _ => cE_M) rfl inT5 (by decide) (fun _ _ _ => rfl) fRX5_33 dX5_solve_188 ?_
                          refine lv_iconst (v := 3) hx hb dX5_solve_191 (by decide) ?_
                          refine lv_iload hx hb dX5_solve_192 (lv_at hl 5 rfl) ?_
                          refine lv_imul hx hb dX5_solve_194 ?_
                          refine lv_iload hx hb dX5_solve_195 (lv_at hl 7 rfl) ?_
                          refine lv_iadd hx hb dX5_solve_197 ?_
                          rw [nI_lin]
                          refine w_dald am hst (by decide) (fun _ _ _ => cE_61) (n := 3 * (c + 1 + k) + (c + (q))) (nI_clamp (by omega)) (vp_in_nI (by omega) (by decide)) dX5_solve_198 (fun x15 hx15 => ?_)
                          refine lv_dload hx hb dX5_solve_199 (lv_at hl 6 rfl) ?_
                          refine lv_aload_n hx hb dX5_solve_201 rfl (lv_at hl 0 rfl) ?_
                          refine w_getR am hst (k := 10) (b := ad 61) (by decide) (fun _ _ _ => cE_M) rfl inT5 (by decide) (fun _ _ _ => rfl) fRX5_33 dX5_solve_202 ?_
                          refine lv_iconst (v := 3) hx hb dX5_solve_205 (by decide) ?_
                          refine lv_iload_n hx hb dX5_solve_206 rfl (lv_at hl 3 rfl) ?_
                          refine lv_imul hx hb dX5_solve_207 ?_
                          refine lv_iload hx hb dX5_solve_208 (lv_at hl 7 rfl) ?_
                          refine lv_iadd hx hb dX5_solve_210 ?_
                          rw [nI_lin]
                          refine w_dald am hst (by decide) (fun _ _ _ => cE_61) (n := 3 * c + (c + (q))) (nI_clamp (by omega)) (vp_in_nI (by omega) (by decide)) dX5_solve_211 (fun x16 hx16 => ?_)
                          refine w_dmul hd hx hb hf0 hx16 dX5_solve_212 (fun x17 d0 hx17 hd => ?_)
                          refine w_dsub hd hx hb hx15 hx17 dX5_solve_213 (fun x18 d0 hx18 hd => ?_)
                          refine w_dast am hst hx18 (by decide) (fun _ _ _ => cE_61) (n := 3 * (c + 1 + k) + (c + (q))) (nI_clamp (by omega)) (vp_in_nI (by omega) (by decide)) dX5_solve_214 (fun H locs hst => ?_)
                          refine lv_iinc (v := nI (c + (q) + 1)) (lv' := [(9, .int (nI (c + (q) + 1))), (0, .ref (ad 53)), (1, .int w), (2, .int (nI (meR (mb0 I w G n) c + 1))), (3, .int (nI c)), (4, .double p0), (6, .int (nI (c + 1 + k))), (7, .double f0)]) hx hb dX5_solve_215 hl (k := 7) rfl (nI_1 (c + (q))) (by decide) rfl (fun ls hl => ?_)
                          refine lv_goto (tgt := 170) hx hb dX5_solve_218 (by decide) ?_
                          exact ih_lpJ (q + 1) (by omega) _ _ hp0 hf0 d0 hd _ _ hst ls (lv_sub hl [1, 2, 3, 4, 5, 6, 7, 0] rfl)
                      exact lpJ (3 - c) 0 (by omega) _ _ hp0 hx10 d0 hd _ _ hst ls (lv_sub hl [2, 3, 4, 5, 6, 7, 1, 0] rfl)
                  exact lpR (2 - c) 0 (by omega) _ hx8 d0 hd _ _ hst ls (lv_sub hl [3, 4, 1, 5, 2, 0] rfl)
                · skip
                  refine lv_iconst (v := 1) hx hb dX5_solve_119 (by decide) ?_
                  refine lv_goto (tgt := 124) hx hb dX5_solve_120 (by decide) ?_
                  refine w_zast am hst rfl (by decide) (fun _ _ _ => cE_63) (n := c) (nI_clamp (by omega)) (vp_in_nI (by omega) (by decide)) dX5_solve_124 (fun H locs hst => ?_)
                  refine lv_aload_n hx hb dX5_solve_125 rfl (lv_at hl 1 rfl) ?_
                  refine w_getR am hst (k := 12) (b := ad 63) (by decide) (fun _ _ _ => cE_M) rfl inT5 (by decide) (fun _ _ _ => rfl) fRX5_39 dX5_solve_126 ?_
                  refine lv_iload_n hx hb dX5_solve_129 rfl (lv_at hl 4 rfl) ?_
                  refine w_zald am hst (by decide) (fun _ _ _ => cE_63) (n := c) (nI_clamp (by omega)) (vp_in_nI (by omega) (by decide)) dX5_solve_130 ?_
                  rw [show (u2 (meI I (mb0 I w G n) c) 63 c 1) 63 c = 1 from (u2_eq _ _ _ _)]
                  refine lv_if_eq (tgt := 137) hx hb dX5_solve_131 (by decide) (fun c_131 => absurd c_131 ((show ¬ (1 : Int32) = 0 by decide))) (fun c_131 => ?_)
                  refine lv_goto (tgt := 251) hx hb dX5_solve_134 (by decide) ?_
                  refine lv_iinc (v := nI (c + 1)) (lv' := [(3, .int (nI (c + 1))), (4, .double x8), (0, .ref (ad 53)), (1, .int w), (2, .int (nI (meR (mb0 I w G n) c)))]) hx hb dX5_solve_251 hl (k := 4) rfl (nI_1 c) (by decide) rfl (fun ls hl => ?_)
                  refine lv_goto (tgt := 77) hx hb dX5_solve_254 (by decide) ?_
                  have ih2 := ih_lpC (c + 1) (by omega) d0 hd
                  rw [show me0 (mb0 I w G n) (c + 1) = me0 (mb0 I w G n) c from if_pos (by simp only [pvO, pvS, c_101, c_116, not_true_eq_false, not_false_eq_true, decide_true, decide_false, Bool.true_and, Bool.false_and, Bool.and_true, Bool.and_false, Bool.and_self, if_true, if_false, ite_true, ite_false, reduceIte, Bool.false_eq_true]), show meI I (mb0 I w G n) (c + 1) = u2 (meI I (mb0 I w G n) c) 63 c 1 from congrArg (u2 (meI I (mb0 I w G n) c) 63 c) (by rw [show pvO ((me0 (mb0 I w G n) c) 61 (4 * c)) = true from by simp only [pvO, pvS, c_101, c_116, not_true_eq_false, not_false_eq_true, decide_true, decide_false, Bool.true_and, Bool.false_and, Bool.and_true, Bool.and_false, Bool.and_self, if_true, if_false, ite_true, ite_false, reduceIte, Bool.false_eq_true]]; rfl), show meR (mb0 I w G n) (c + 1) = meR (mb0 I w G n) c from if_pos (by simp only [pvO, pvS, c_101, c_116, not_true_eq_false, not_false_eq_true, decide_true, decide_false, Bool.true_and, Bool.false_and, Bool.and_true, Bool.and_false, Bool.and_self, if_true, if_false, ite_true, ite_false, reduceIte, Bool.false_eq_true])] at ih2
                  exact ih2 _ _ hst ls (lv_sub hl [2, 3, 4, 0] rfl)
              · skip
                refine lv_dload hx hb dX5_solve_104 (lv_at hl 0 rfl) ?_
                refine w_dneg hx hb hx8 dX5_solve_106 (fun x19 hx19 => ?_)
                refine lv_goto (tgt := 112) hx hb dX5_solve_107 (by decide) ?_
                refine lv_ldc2d hx hb am.2.2.2.1 (amT am _ wRX5_106) dX5_solve_112 ?_
                refine w_dcmp hx hb hx19 cn_k4517110426252607488 dX5_solve_115 ?_
                refine lv_if_ge (tgt := 123) hx hb dX5_solve_116 (by decide) (fun c_116 => ?_) (fun c_116 => ?_)
                · skip
                  refine lv_iconst (v := 0) hx hb dX5_solve_123 (by decide) ?_
                  refine w_zast am hst rfl (by decide) (fun _ _ _ => cE_63) (n := c) (nI_clamp (by omega)) (vp_in_nI (by omega) (by decide)) dX5_solve_124 (fun H locs hst => ?_)
                  refine lv_aload_n hx hb dX5_solve_125 rfl (lv_at hl 1 rfl) ?_
                  refine w_getR am hst (k := 12) (b := ad 63) (by decide) (fun _ _ _ => cE_M) rfl inT5 (by decide) (fun _ _ _ => rfl) fRX5_39 dX5_solve_126 ?_
                  refine lv_iload_n hx hb dX5_solve_129 rfl (lv_at hl 4 rfl) ?_
                  refine w_zald am hst (by decide) (fun _ _ _ => cE_63) (n := c) (nI_clamp (by omega)) (vp_in_nI (by omega) (by decide)) dX5_solve_130 ?_
                  rw [show (u2 (meI I (mb0 I w G n) c) 63 c 0) 63 c = 0 from (u2_eq _ _ _ _)]
                  refine lv_if_eq (tgt := 137) hx hb dX5_solve_131 (by decide) (fun c_131 => ?_) (fun c_131 => absurd ((show (0 : Int32) = 0 by decide)) c_131)
                  refine lv_iinc (v := nI (meR (mb0 I w G n) c + 1)) (lv' := [(2, .int (nI (meR (mb0 I w G n) c + 1))), (4, .double x8), (0, .ref (ad 53)), (1, .int w), (3, .int (nI c))]) hx hb dX5_solve_137 hl (k := 3) rfl (nI_1 (meR (mb0 I w G n) c)) (by decide) rfl (fun ls hl => ?_)
                  refine lv_iload_n hx hb dX5_solve_140 rfl (lv_at hl 4 rfl) ?_
                  refine lv_iconst (v := 1) hx hb dX5_solve_141 (by decide) ?_
                  refine lv_iadd hx hb dX5_solve_142 ?_
                  rw [nI_1]
                  refine lv_istore (lv' := [(6, .int (nI (c + 1))), (2, .int (nI (meR (mb0 I w G n) c + 1))), (4, .double x8), (0, .ref (ad 53)), (1, .int w), (3, .int (nI c))]) hx hb dX5_solve_143 hl (by decide) rfl (fun ls hl => ?_)
                  have lpR : ∀ (q9 k : Nat), q9 + k = 2 - c → ∀ p0 : UInt64, cn p0 = (me0 (mb0 I w G n) c) 61 (4 * c) → ∀ d0 : Drawn, s.drawn.sameBut d0 lw_cs → ∀ (H : Heap) (locs : List Loc), St D cy ad s.heap (u2 (meI I (mb0 I w G n) c) 63 c 0) (me1 c ((me0 (mb0 I w G n) c) 61 (4 * c)) (me0 (mb0 I w G n) c) k) J H locs → ∀ ls, lv_has ls 10 [(0, .ref (ad 53)), (1, .int w), (2, .int (nI (meR (mb0 I w G n) c + 1))), (3, .int (nI c)), (4, .double p0), (6, .int (nI (c + 1 + (k))))] → W p l e (rmK 2 0 0 48) (s.setDrawn d0) m [.ref (ad 53), .int w].toArray below meth cd H locs 0 0 (MQD lw_cs below (qI D cy ad (nI (slR I w G n)) (slI I w G n) (slG I w G n) J s.heap.size) [.ref (ad 53), .int w].toArray s ((rmK 2 0 0 48)).cells ((rmK 2 0 0 48)).slots (aA ad s.heap.size)) (F0 m 145 ls []) := by
                    intro q9
                    induction q9 with
                    | zero =>
                      intro k hi p0 hp0 d0 hd H locs hst ls hl
                      obtain rfl : 2 - c = k := by omega
                      refine lv_iload hx hb dX5_solve_145 (lv_at hl 5 rfl) ?_
                      refine lv_iconst (v := 3) hx hb dX5_solve_147 (by decide) ?_
                      refine lv_icmp_ge (tgt := 251) hx hb dX5_solve_148 (by decide) (fun c_148 => ?_) (fun c_148 => absurd ((show (3 : Int32) ≤ nI (c + 1 + (2 - c)) by rw [show c + 1 + (2 - c) = 3 by omega]; decide)) c_148)
                      refine lv_iinc (v := nI (c + 1)) (lv' := [(3, .int (nI (c + 1))), (0, .ref (ad 53)), (1, .int w), (2, .int (nI (meR (mb0 I w G n) c + 1))), (4, .double p0), (6, .int (nI (c + 1 + (2 - c))))]) hx hb dX5_solve_251 hl (k := 3) rfl (nI_1 c) (by decide) rfl (fun ls hl => ?_)
                      refine lv_goto (tgt := 77) hx hb dX5_solve_254 (by decide) ?_
                      have ih2 := ih_lpC (c + 1) (by omega) d0 hd
                      rw [show me0 (mb0 I w G n) (c + 1) = me1 c ((me0 (mb0 I w G n) c) 61 (4 * c)) (me0 (mb0 I w G n) c) (2 - c) from if_neg (by rw [show pvO ((me0 (mb0 I w G n) c) 61 (4 * c)) = false from by simp only [pvO, pvS, c_101, c_116, not_true_eq_false, not_false_eq_true, decide_true, decide_false, Bool.true_and, Bool.false_and, Bool.and_true, Bool.and_false, Bool.and_self, if_true, if_false, ite_true, ite_false, reduceIte, Bool.false_eq_true]]; exact Bool.false_ne_true), show meI I (mb0 I w G n) (c + 1) = u2 (meI I (mb0 I w G n) c) 63 c 0 from congrArg (u2 (meI I (mb0 I w G n) c) 63 c) (by rw [show pvO ((me0 (mb0 I w G n) c) 61 (4 * c)) = false from by simp only [pvO, pvS, c_101, c_116, not_true_eq_false, not_false_eq_true, decide_true, decide_false, Bool.true_and, Bool.false_and, Bool.and_true, Bool.and_false, Bool.and_self, if_true, if_false, ite_true, ite_false, reduceIte, Bool.false_eq_true]]; rfl), show meR (mb0 I w G n) (c + 1) = meR (mb0 I w G n) c + 1 from if_neg (by rw [show pvO ((me0 (mb0 I w G n) c) 61 (4 * c)) = false from by simp only [pvO, pvS, c_101, c_116, not_true_eq_false, not_false_eq_true, decide_true, decide_false, Bool.true_and, Bool.false_and, Bool.and_true, Bool.and_false, Bool.and_self, if_true, if_false, ite_true, ite_false, reduceIte, Bool.false_eq_true]]; exact Bool.false_ne_true)] at ih2
                      exact ih2 _ _ hst ls (lv_sub hl [1, 2, 3, 0] rfl)
                    | succ q9 ih_lpR =>
                      intro k hi p0 hp0 d0 hd H locs hst ls hl
                      refine lv_iload hx hb dX5_solve_145 (lv_at hl 5 rfl) ?_
                      refine lv_iconst (v := 3) hx hb dX5_solve_147 (by decide) ?_
                      refine lv_icmp_ge (tgt := 251) hx hb dX5_solve_148 (by decide) (fun c_148 => absurd c_148 ((nI_ge (b := 3) (by omega) (by decide)))) (fun c_148 => ?_)
                      refine lv_aload_n hx hb dX5_solve_151 rfl (lv_at hl 0 rfl) ?_
                      refine w_getR am hst (k := 10) (b := ad 61) (by decide) (fun _ _ _ => cE_M) rfl inT5 (by decide) (fun _ _ _ => rfl) fRX5_33 dX5_solve_152 ?_
                      refine lv_iconst (v := 3) hx hb dX5_solve_155 (by decide) ?_
                      refine lv_iload hx hb dX5_solve_156 (lv_at hl 5 rfl) ?_
                      refine lv_imul hx hb dX5_solve_158 ?_
                      refine lv_iload_n hx hb dX5_solve_159 rfl (lv_at hl 3 rfl) ?_
                      refine lv_iadd hx hb dX5_solve_160 ?_
                      rw [nI_lin]
                      refine w_dald am hst (by decide) (fun _ _ _ => cE_61) (n := 3 * (c + 1 + (k)) + c) (nI_clamp (by omega)) (vp_in_nI (by omega) (by decide)) dX5_solve_161 (fun x20 hx20 => ?_)
                      refine lv_dload hx hb dX5_solve_162 (lv_at hl 4 rfl) ?_
                      refine w_ddiv hd hx hb hx20 hp0 dX5_solve_164 (fun x21 d0 hx21 hd => ?_)
                      refine lv_dstore (lv' := [(7, .double x21), (0, .ref (ad 53)), (1, .int w), (2, .int (nI (meR (mb0 I w G n) c + 1))), (3, .int (nI c)), (4, .double p0), (6, .int (nI (c + 1 + (k))))]) hx hb dX5_solve_165 hl (by decide) rfl (fun ls hl => ?_)
                      refine lv_iload_n hx hb dX5_solve_167 rfl (lv_at hl 4 rfl) ?_
                      refine lv_istore (lv' := [(9, .int (nI c)), (7, .double x21), (0, .ref (ad 53)), (1, .int w), (2, .int (nI (meR (mb0 I w G n) c + 1))), (3, .int (nI c)), (4, .double p0), (6, .int (nI (c + 1 + (k))))]) hx hb dX5_solve_168 hl (by decide) rfl (fun ls hl => ?_)
                      have lpJ : ∀ (q9 q : Nat), q9 + q = 3 - c → ∀ p0 f0 : UInt64, cn p0 = (me0 (mb0 I w G n) c) 61 (4 * c) → cn f0 = Dv ((me1 c ((me0 (mb0 I w G n) c) 61 (4 * c)) (me0 (mb0 I w G n) c) k) 61 (3 * (c + 1 + k) + c)) ((me0 (mb0 I w G n) c) 61 (4 * c)) → ∀ d0 : Drawn, s.drawn.sameBut d0 lw_cs → ∀ (H : Heap) (locs : List Loc), St D cy ad s.heap (u2 (meI I (mb0 I w G n) c) 63 c 0) (mj1 c (c + 1 + k) (Dv ((me1 c ((me0 (mb0 I w G n) c) 61 (4 * c)) (me0 (mb0 I w G n) c) k) 61 (3 * (c + 1 + k) + c)) ((me0 (mb0 I w G n) c) 61 (4 * c))) (me1 c ((me0 (mb0 I w G n) c) 61 (4 * c)) (me0 (mb0 I w G n) c) k) q) J H locs → ∀ ls, lv_has ls 10 [(0, .ref (ad 53)), (1, .int w), (2, .int (nI (meR (mb0 I w G n) c + 1))), (3, .int (nI c)), (4, .double p0), (6, .int (nI (c + 1 + k))), (7, .double f0), (9, .int (nI (c + (q))))] → W p l e (rmK 2 0 0 48) (s.setDrawn d0) m [.ref (ad 53), .int w].toArray below meth cd H locs 0 0 (MQD lw_cs below (qI D cy ad (nI (slR I w G n)) (slI I w G n) (slG I w G n) J s.heap.size) [.ref (ad 53), .int w].toArray s ((rmK 2 0 0 48)).cells ((rmK 2 0 0 48)).slots (aA ad s.heap.size)) (F0 m 170 ls []) := by
                        intro q9
                        induction q9 with
                        | zero =>
                          intro q hi p0 f0 hp0 hf0 d0 hd H locs hst ls hl
                          obtain rfl : 3 - c = q := by omega
                          refine lv_iload hx hb dX5_solve_170 (lv_at hl 7 rfl) ?_
                          refine lv_iconst (v := 3) hx hb dX5_solve_172 (by decide) ?_
                          refine lv_icmp_ge (tgt := 221) hx hb dX5_solve_173 (by decide) (fun c_173 => ?_) (fun c_173 => absurd ((show (3 : Int32) ≤ nI (c + (3 - c)) by rw [show c + (3 - c) = 3 by omega]; decide)) c_173)
                          refine lv_aload_n hx hb dX5_solve_221 rfl (lv_at hl 0 rfl) ?_
                          refine w_getR am hst (k := 11) (b := ad 62) (by decide) (fun _ _ _ => cE_M) rfl inT5 (by decide) (fun _ _ _ => rfl) fRX5_36 dX5_solve_222 ?_
                          refine lv_iload hx hb dX5_solve_225 (lv_at hl 5 rfl) ?_
                          refine lv_aload_n hx hb dX5_solve_227 rfl (lv_at hl 0 rfl) ?_
                          refine w_getR am hst (k := 11) (b := ad 62) (by decide) (fun _ _ _ => cE_M) rfl inT5 (by decide) (fun _ _ _ => rfl) fRX5_36 dX5_solve_228 ?_
                          refine lv_iload hx hb dX5_solve_231 (lv_at hl 5 rfl) ?_
                          refine w_dald am hst (by decide) (fun _ _ _ => cE_62) (n := c + 1 + k) (nI_clamp (by omega)) (vp_in_nI (by omega) (by decide)) dX5_solve_233 (fun x22 hx22 => ?_)
                          refine lv_dload hx hb dX5_solve_234 (lv_at hl 6 rfl) ?_
                          refine lv_aload_n hx hb dX5_solve_236 rfl (lv_at hl 0 rfl) ?_
                          refine w_getR am hst (k := 11) (b := ad 62) (by decide) (fun _ _ _ => cE_M) rfl inT5 (by decide) (fun _ _ _ => rfl) fRX5_36 dX5_solve_237 ?_
                          refine lv_iload_n hx hb dX5_solve_240 rfl (lv_at hl 3 rfl) ?_
                          refine w_dald am hst (by decide) (fun _ _ _ => cE_62) (n := c) (nI_clamp (by omega)) (vp_in_nI (by omega) (by decide)) dX5_solve_241 (fun x23 hx23 => ?_)
                          refine w_dmul hd hx hb hf0 hx23 dX5_solve_242 (fun x24 d0 hx24 hd => ?_)
                          refine w_dsub hd hx hb hx22 hx24 dX5_solve_243 (fun x25 d0 hx25 hd => ?_)
                          refine w_dast am hst hx25 (by decide) (fun _ _ _ => cE_62) (n := c + 1 + k) (nI_clamp (by omega)) (vp_in_nI (by omega) (by decide)) dX5_solve_244 (fun H locs hst => ?_)
                          refine lv_iinc (v := nI (c + 1 + k + 1)) (lv' := [(6, .int (nI (c + 1 + k + 1))), (0, .ref (ad 53)), (1, .int w), (2, .int (nI (meR (mb0 I w G n) c + 1))), (3, .int (nI c)), (4, .double p0), (7, .double f0), (9, .int (nI (c + (3 - c))))]) hx hb dX5_solve_245 hl (k := 5) rfl (nI_1 (c + 1 + k)) (by decide) rfl (fun ls hl => ?_)
                          refine lv_goto (tgt := 145) hx hb dX5_solve_248 (by decide) ?_
                          exact ih_lpR (k + 1) (by omega) _ hp0 d0 hd _ _ hst ls (lv_sub hl [1, 2, 3, 4, 5, 0] rfl)
                        | succ q9 ih_lpJ =>
                          intro q hi p0 f0 hp0 hf0 d0 hd H locs hst ls hl
                          refine lv_iload hx hb dX5_solve_170 (lv_at hl 7 rfl) ?_
                          refine lv_iconst (v := 3) hx hb dX5_solve_172 (by decide) ?_
                          refine lv_icmp_ge (tgt := 221) hx hb dX5_solve_173 (by decide) (fun c_173 => absurd c_173 ((nI_ge (b := 3) (by omega) (by decide)))) (fun c_173 => ?_)
                          refine lv_aload_n hx hb dX5_solve_176 rfl (lv_at hl 0 rfl) ?_
                          refine w_getR am hst (k := 10) (b := ad 61) (by decide) (fun _ _ _ => cE_M) rfl inT5 (by decide) (fun _ _ _ => rfl) fRX5_33 dX5_solve_177 ?_
                          refine lv_iconst (v := 3) hx hb dX5_solve_180 (by decide) ?_
                          refine lv_iload hx hb dX5_solve_181 (lv_at hl 5 rfl) ?_
                          refine lv_imul hx hb dX5_solve_183 ?_
                          refine lv_iload hx hb dX5_solve_184 (lv_at hl 7 rfl) ?_
                          refine lv_iadd hx hb dX5_solve_186 ?_
                          rw [nI_lin]
                          refine lv_aload_n hx hb dX5_solve_187 rfl (lv_at hl 0 rfl) ?_
                          refine w_getR am hst (k := 10) (b := ad 61) (by decide) (fun _ _ _ => cE_M) rfl inT5 (by decide) (fun _ _ _ => rfl) fRX5_33 dX5_solve_188 ?_
                          refine lv_iconst (v := 3) hx hb dX5_solve_191 (by decide) ?_
                          refine lv_iload hx hb dX5_solve_192 (lv_at hl 5 rfl) ?_
                          refine lv_imul hx hb dX5_solve_194 ?_
                          refine lv_iload hx hb dX5_solve_195 (lv_at hl 7 rfl) ?_
                          refine lv_iadd hx hb dX5_solve_197 ?_
                          rw [nI_lin]
                          refine w_dald am hst (by decide) (fun _ _ _ => cE_61) (n := 3 * (c + 1 + k) + (c + (q))) (nI_clamp (by omega)) (vp_in_nI (by omega) (by decide)) dX5_solve_198 (fun x26 hx26 => ?_)
                          refine lv_dload hx hb dX5_solve_199 (lv_at hl 6 rfl) ?_
                          refine lv_aload_n hx hb dX5_solve_201 rfl (lv_at hl 0 rfl) ?_
                          refine w_getR am hst (k := 10) (b := ad 61) (by decide) (fun _ _ _ => cE_M) rfl inT5 (by decide) (fun _ _ _ => rfl) fRX5_33 dX5_solve_202 ?_
                          refine lv_iconst (v := 3) hx hb dX5_solve_205 (by decide) ?_
                          refine lv_iload_n hx hb dX5_solve_206 rfl (lv_at hl 3 rfl) ?_
                          refine lv_imul hx hb dX5_solve_207 ?_
                          refine lv_iload hx hb dX5_solve_208 (lv_at hl 7 rfl) ?_
                          refine lv_iadd hx hb dX5_solve_210 ?_
                          rw [nI_lin]
                          refine w_dald am hst (by decide) (fun _ _ _ => cE_61) (n := 3 * c + (c + (q))) (nI_clamp (by omega)) (vp_in_nI (by omega) (by decide)) dX5_solve_211 (fun x27 hx27 => ?_)
                          refine w_dmul hd hx hb hf0 hx27 dX5_solve_212 (fun x28 d0 hx28 hd => ?_)
                          refine w_dsub hd hx hb hx26 hx28 dX5_solve_213 (fun x29 d0 hx29 hd => ?_)
                          refine w_dast am hst hx29 (by decide) (fun _ _ _ => cE_61) (n := 3 * (c + 1 + k) + (c + (q))) (nI_clamp (by omega)) (vp_in_nI (by omega) (by decide)) dX5_solve_214 (fun H locs hst => ?_)
                          refine lv_iinc (v := nI (c + (q) + 1)) (lv' := [(9, .int (nI (c + (q) + 1))), (0, .ref (ad 53)), (1, .int w), (2, .int (nI (meR (mb0 I w G n) c + 1))), (3, .int (nI c)), (4, .double p0), (6, .int (nI (c + 1 + k))), (7, .double f0)]) hx hb dX5_solve_215 hl (k := 7) rfl (nI_1 (c + (q))) (by decide) rfl (fun ls hl => ?_)
                          refine lv_goto (tgt := 170) hx hb dX5_solve_218 (by decide) ?_
                          exact ih_lpJ (q + 1) (by omega) _ _ hp0 hf0 d0 hd _ _ hst ls (lv_sub hl [1, 2, 3, 4, 5, 6, 7, 0] rfl)
                      exact lpJ (3 - c) 0 (by omega) _ _ hp0 hx21 d0 hd _ _ hst ls (lv_sub hl [2, 3, 4, 5, 6, 7, 1, 0] rfl)
                  exact lpR (2 - c) 0 (by omega) _ hx8 d0 hd _ _ hst ls (lv_sub hl [3, 4, 1, 5, 2, 0] rfl)
                · skip
                  refine lv_iconst (v := 1) hx hb dX5_solve_119 (by decide) ?_
                  refine lv_goto (tgt := 124) hx hb dX5_solve_120 (by decide) ?_
                  refine w_zast am hst rfl (by decide) (fun _ _ _ => cE_63) (n := c) (nI_clamp (by omega)) (vp_in_nI (by omega) (by decide)) dX5_solve_124 (fun H locs hst => ?_)
                  refine lv_aload_n hx hb dX5_solve_125 rfl (lv_at hl 1 rfl) ?_
                  refine w_getR am hst (k := 12) (b := ad 63) (by decide) (fun _ _ _ => cE_M) rfl inT5 (by decide) (fun _ _ _ => rfl) fRX5_39 dX5_solve_126 ?_
                  refine lv_iload_n hx hb dX5_solve_129 rfl (lv_at hl 4 rfl) ?_
                  refine w_zald am hst (by decide) (fun _ _ _ => cE_63) (n := c) (nI_clamp (by omega)) (vp_in_nI (by omega) (by decide)) dX5_solve_130 ?_
                  rw [show (u2 (meI I (mb0 I w G n) c) 63 c 1) 63 c = 1 from (u2_eq _ _ _ _)]
                  refine lv_if_eq (tgt := 137) hx hb dX5_solve_131 (by decide) (fun c_131 => absurd c_131 ((show ¬ (1 : Int32) = 0 by decide))) (fun c_131 => ?_)
                  refine lv_goto (tgt := 251) hx hb dX5_solve_134 (by decide) ?_
                  refine lv_iinc (v := nI (c + 1)) (lv' := [(3, .int (nI (c + 1))), (4, .double x8), (0, .ref (ad 53)), (1, .int w), (2, .int (nI (meR (mb0 I w G n) c)))]) hx hb dX5_solve_251 hl (k := 4) rfl (nI_1 c) (by decide) rfl (fun ls hl => ?_)
                  refine lv_goto (tgt := 77) hx hb dX5_solve_254 (by decide) ?_
                  have ih2 := ih_lpC (c + 1) (by omega) d0 hd
                  rw [show me0 (mb0 I w G n) (c + 1) = me0 (mb0 I w G n) c from if_pos (by simp only [pvO, pvS, c_101, c_116, not_true_eq_false, not_false_eq_true, decide_true, decide_false, Bool.true_and, Bool.false_and, Bool.and_true, Bool.and_false, Bool.and_self, if_true, if_false, ite_true, ite_false, reduceIte, Bool.false_eq_true]), show meI I (mb0 I w G n) (c + 1) = u2 (meI I (mb0 I w G n) c) 63 c 1 from congrArg (u2 (meI I (mb0 I w G n) c) 63 c) (by rw [show pvO ((me0 (mb0 I w G n) c) 61 (4 * c)) = true from by simp only [pvO, pvS, c_101, c_116, not_true_eq_false, not_false_eq_true, decide_true, decide_false, Bool.true_and, Bool.false_and, Bool.and_true, Bool.and_false, Bool.and_self, if_true, if_false, ite_true, ite_false, reduceIte, Bool.false_eq_true]]; rfl), show meR (mb0 I w G n) (c + 1) = meR (mb0 I w G n) c from if_pos (by simp only [pvO, pvS, c_101, c_116, not_true_eq_false, not_false_eq_true, decide_true, decide_false, Bool.true_and, Bool.false_and, Bool.and_true, Bool.and_false, Bool.and_self, if_true, if_false, ite_true, ite_false, reduceIte, Bool.false_eq_true])] at ih2
                  exact ih2 _ _ hst ls (lv_sub hl [2, 3, 4, 0] rfl)
          exact lpC 3 0 (by omega) d0 hd _ _ hst ls (lv_sub hl [2, 3, 1, 0] rfl)
        | succ q9 ih_lpB =>
          intro i hi d0 hd H locs hst ls hl
          refine lv_iload_n hx hb dX5_solve_32 rfl (lv_at hl 2 rfl) ?_
          refine lv_aload_n hx hb dX5_solve_33 rfl (lv_at hl 0 rfl) ?_
          refine w_getI am hst (k := 2) (by decide) (fun _ _ _ => cE_M) rfl inT5 (by decide) (fun _ _ _ => rfl) fRX5_76 dX5_solve_34 ?_
          rw [hn]
          refine lv_icmp_ge (tgt := 73) hx hb dX5_solve_37 (by decide) (fun c_37 => absurd c_37 ((nI_ge (by omega) (by omega)))) (fun c_37 => ?_)
          refine lv_iload_n hx hb dX5_solve_40 rfl (lv_at hl 2 rfl) ?_
          refine lv_iload_n hx hb dX5_solve_41 rfl (lv_at hl 1 rfl) ?_
          refine lv_icmp_eq (tgt := 67) hx hb dX5_solve_42 (by decide) (fun c_42 => ?_) (fun c_42 => ?_)
          · skip
            refine lv_iinc (v := nI (i + 1)) (lv' := [(2, .int (nI (i + 1))), (0, .ref (ad 53)), (1, .int w)]) hx hb dX5_solve_67 hl (k := 2) rfl (nI_1 i) (by decide) rfl (fun ls hl => ?_)
            refine lv_goto (tgt := 32) hx hb dX5_solve_70 (by decide) ?_
            have ih2 := ih_lpB (i + 1) (by omega) d0 hd
            rw [show mb0 I w G (i + 1) = mb0 I w G i from if_neg (by rw [show (!(decide (nI i = w)) && (decide (¬ I 59 i = 0) && mCompl I (mb0 I w G i) i)) = false from by simp only [c_42, Bool.not_true, not_true_eq_false, not_false_eq_true, decide_true, decide_false, Bool.true_and, Bool.false_and, Bool.and_true, Bool.and_false, Bool.and_self, if_true, if_false, ite_true, ite_false, reduceIte, Bool.false_eq_true]]; exact Bool.false_ne_true)] at ih2
            exact ih2 _ _ hst ls (lv_sub hl [1, 2, 0] rfl)
          · skip
            refine lv_aload_n hx hb dX5_solve_45 rfl (lv_at hl 0 rfl) ?_
            refine w_getR am hst (k := 8) (b := ad 59) (by decide) (fun _ _ _ => cE_M) rfl inT5 (by decide) (fun _ _ _ => rfl) fRX5_26 dX5_solve_46 ?_
            refine lv_iload_n hx hb dX5_solve_49 rfl (lv_at hl 2 rfl) ?_
            refine w_zald am hst (by decide) (fun _ _ _ => cE_59) (n := i) (nI_clamp (by omega)) (vp_in_nI (by omega) (by decide)) dX5_solve_50 ?_
            refine lv_if_eq (tgt := 67) hx hb dX5_solve_51 (by decide) (fun c_51 => ?_) (fun c_51 => ?_)
            · skip
              refine lv_iinc (v := nI (i + 1)) (lv' := [(2, .int (nI (i + 1))), (0, .ref (ad 53)), (1, .int w)]) hx hb dX5_solve_67 hl (k := 2) rfl (nI_1 i) (by decide) rfl (fun ls hl => ?_)
              refine lv_goto (tgt := 32) hx hb dX5_solve_70 (by decide) ?_
              have ih2 := ih_lpB (i + 1) (by omega) d0 hd
              rw [show mb0 I w G (i + 1) = mb0 I w G i from if_neg (by rw [show (!(decide (nI i = w)) && (decide (¬ I 59 i = 0) && mCompl I (mb0 I w G i) i)) = false from by simp only [c_42, c_51, Bool.not_false, not_true_eq_false, not_false_eq_true, decide_true, decide_false, Bool.true_and, Bool.false_and, Bool.and_true, Bool.and_false, Bool.and_self, if_true, if_false, ite_true, ite_false, reduceIte, Bool.false_eq_true]]; exact Bool.false_ne_true)] at ih2
              exact ih2 _ _ hst ls (lv_sub hl [1, 2, 0] rfl)
            · skip
              refine lv_aload_n hx hb dX5_solve_54 rfl (lv_at hl 0 rfl) ?_
              refine lv_iload_n hx hb dX5_solve_55 rfl (lv_at hl 2 rfl) ?_
              refine c_i hst (r_V (As := [.int (nI i)]) (rest := []) am hst hl (k_X5_isComplete hadI (k := i) (by omega)) kRX5_99 imX5_isComplete slX5_isComplete ⟨Nat.le_of_ble_eq_true rfl, Nat.le_of_ble_eq_true rfl⟩ (by decide) (fun _ _ _ => cE_M) rfl rfl rfl (Nat.le_of_ble_eq_true rfl) dX5_solve_56 ⟨Nat.le_of_ble_eq_true rfl, Nat.le_of_ble_eq_true rfl⟩) (fun H locs hst => ?_)
              refine lv_if_eq (tgt := 67) hx hb dX5_solve_59 (by decide) (fun c_59 => ?_) (fun c_59 => ?_)
              · skip
                refine lv_iinc (v := nI (i + 1)) (lv' := [(2, .int (nI (i + 1))), (0, .ref (ad 53)), (1, .int w)]) hx hb dX5_solve_67 hl (k := 2) rfl (nI_1 i) (by decide) rfl (fun ls hl => ?_)
                refine lv_goto (tgt := 32) hx hb dX5_solve_70 (by decide) ?_
                have ih2 := ih_lpB (i + 1) (by omega) d0 hd
                rw [show mb0 I w G (i + 1) = mb0 I w G i from if_neg (by rw [show (!(decide (nI i = w)) && (decide (¬ I 59 i = 0) && mCompl I (mb0 I w G i) i)) = false from by rw [zB_0.mp c_59]; simp only [c_42, c_51, Bool.not_false, not_true_eq_false, not_false_eq_true, decide_true, decide_false, Bool.true_and, Bool.false_and, Bool.and_true, Bool.and_false, Bool.and_self, if_true, if_false, ite_true, ite_false, reduceIte, Bool.false_eq_true]]; exact Bool.false_ne_true)] at ih2
                exact ih2 _ _ hst ls (lv_sub hl [1, 2, 0] rfl)
              · skip
                refine lv_aload_n hx hb dX5_solve_62 rfl (lv_at hl 0 rfl) ?_
                refine lv_iload_n hx hb dX5_solve_63 rfl (lv_at hl 2 rfl) ?_
                refine c_vD hd hst (r_VD (As := [.int (nI i)]) (rest := []) am hst hl (k_X5_add hadI (b := i) hm (by omega)) kRX5_102 imX5_add slX5_add ⟨Nat.le_of_ble_eq_true rfl, Nat.le_of_ble_eq_true rfl⟩ (by decide) (fun _ _ _ => cE_M) rfl rfl rfl (Nat.le_of_ble_eq_true rfl) dX5_solve_64 ⟨Nat.le_of_ble_eq_true rfl, Nat.le_of_ble_eq_true rfl⟩) (fun d0 H locs hd hst => ?_)
                refine lv_iinc (v := nI (i + 1)) (lv' := [(2, .int (nI (i + 1))), (0, .ref (ad 53)), (1, .int w)]) hx hb dX5_solve_67 hl (k := 2) rfl (nI_1 i) (by decide) rfl (fun ls hl => ?_)
                refine lv_goto (tgt := 32) hx hb dX5_solve_70 (by decide) ?_
                have ih2 := ih_lpB (i + 1) (by omega) d0 hd
                rw [show mb0 I w G (i + 1) = ma0 I i (mb0 I w G i) 3 from if_pos (by rw [zB_n0.mp c_59]; simp only [c_42, c_51, Bool.not_false, not_true_eq_false, not_false_eq_true, decide_true, decide_false, Bool.true_and, Bool.false_and, Bool.and_true, Bool.and_false, Bool.and_self, if_true, if_false, ite_true, ite_false, reduceIte, Bool.false_eq_true])] at ih2
                exact ih2 _ _ hst ls (lv_sub hl [1, 2, 0] rfl)
      exact lpB n 0 (by omega) d0 hd _ _ hst ls (lv_sub hl [1, 2, 0] rfl)
    | succ q9 ih_lpA =>
      intro k hi d0 hd H locs hst ls hl
      refine lv_iload_n hx hb dX5_solve_2 rfl (lv_at hl 2 rfl) ?_
      refine lv_bipush (v := 9) hx hb dX5_solve_3 (by decide) ?_
      refine lv_icmp_ge (tgt := 30) hx hb dX5_solve_5 (by decide) (fun c_5 => absurd c_5 ((nI_ge (b := 9) (by omega) (by decide)))) (fun c_5 => ?_)
      refine lv_aload_n hx hb dX5_solve_8 rfl (lv_at hl 0 rfl) ?_
      refine w_getR am hst (k := 10) (b := ad 61) (by decide) (fun _ _ _ => cE_M) rfl inT5 (by decide) (fun _ _ _ => rfl) fRX5_33 dX5_solve_9 ?_
      refine lv_iload_n hx hb dX5_solve_12 rfl (lv_at hl 2 rfl) ?_
      refine lv_dconst0 hx hb dX5_solve_13 ?_
      refine w_dast am hst cn_k0 (by decide) (fun _ _ _ => cE_61) (n := k) (nI_clamp (by omega)) (vp_in_nI (by omega) (by decide)) dX5_solve_14 (fun H locs hst => ?_)
      refine lv_aload_n hx hb dX5_solve_15 rfl (lv_at hl 0 rfl) ?_
      refine w_getR am hst (k := 11) (b := ad 62) (by decide) (fun _ _ _ => cE_M) rfl inT5 (by decide) (fun _ _ _ => rfl) fRX5_36 dX5_solve_16 ?_
      refine lv_iload_n hx hb dX5_solve_19 rfl (lv_at hl 2 rfl) ?_
      refine lv_iconst (v := 3) hx hb dX5_solve_20 (by decide) ?_
      refine lv_idiv hx hb dX5_solve_21 (by decide) ?_
      rw [show nI k / 3 = nI (k / 3) from pk_div (d := 3) (by omega) (by decide) (by decide)]
      refine lv_dconst0 hx hb dX5_solve_22 ?_
      refine w_dast am hst cn_k0 (by decide) (fun _ _ _ => cE_62) (n := k / 3) (nI_clamp (by omega)) (vp_in_nI (by omega) (by decide)) dX5_solve_23 (fun H locs hst => ?_)
      refine lv_iinc (v := nI (k + 1)) (lv' := [(2, .int (nI (k + 1))), (0, .ref (ad 53)), (1, .int w)]) hx hb dX5_solve_24 hl (k := 2) rfl (nI_1 k) (by decide) rfl (fun ls hl => ?_)
      refine lv_goto (tgt := 2) hx hb dX5_solve_27 (by decide) ?_
      exact ih_lpA (k + 1) (by omega) d0 hd _ _ hst ls (lv_sub hl [1, 2, 0] rfl)
  exact lpA 9 0 (by omega) d0 hd _ _ hst ls (lv_sub hl [1, 2, 0] rfl)

