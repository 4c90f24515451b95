/-! uniform contracts; the law's static methods: x.f(..) within try, each exception its number -/
abbrev rU : Room := rmK 8 0 0 133
abbrev rV : Room := rmK 8 1 6 133
abbrev rN : Room := rmK 9 1 6 170
section
variable {l : Launch} {y : MethodName} {w : Cond} {D : va_G} {cy ad : Nat → Nat} {av : List Value} {I : Im} {G : Dm} {J : Jm} {Qc : Nat → QcT} {E : String} {f lo : Nat}
theorem uD (h : kD l y w (rmK f 0 0 lo) D cy ad av I G J Qc) (hf : f ≤ 8 := by decide) (hl : lo ≤ 133 := by decide) : kD l y w rU D cy ad av I G J Qc :=
  fun sz => MetFree.respec (S' := headSpec [w] rU) (h sz) (fun _ _ q => q) hf hl (Nat.le_refl _) (Nat.le_refl _)
theorem uM (h : kM l y w (rmK f 0 0 lo) D cy ad av I G J Qc) (hf : f ≤ 8 := by decide) (hl : lo ≤ 133 := by decide) : kD l y w rU D cy ad av I G J Qc :=
  uD (fun sz => MetD.of_met (h sz)) hf hl
theorem uX (h : kX l y w (rmK f 1 6 lo) D cy ad av I G J E) (hf : f ≤ 8 := by decide) (hl : lo ≤ 133 := by decide) : kX l y w rV D cy ad av I G J E :=
  fun sz => MetFree.respec (S' := headSpec [w] rV) (h sz) (fun _ _ q => q) hf hl (Nat.le_refl _) (Nat.le_refl _)
end
/-- the exceptions that a row of a table ahead of the right one must pass -/
def nC (U : State) : Prop := va_Nc xIAE xIOOBE U ∧ va_Nc xISE xIOOBE U ∧ va_Nc xISE xIAE U
theorem nC.moved {u U : State} (hvm : u.vm.Alike U.vm) (h : nC u) : nC U := ⟨h.1.moved hvm, h.2.1.moved hvm, h.2.2.moved hvm⟩
def preN (D : va_G) (cy : Nat → ClassId) (ad : Nat → Nat) (sz : Nat) (I : Im) (G : Dm) (J : Jm) (U : State) : Prop := preW D cy ad sz I G J U ∧ nC U
theorem fb_preN {D : va_G} {cy ad : Nat → Nat} {sz : Nat} {I : Im} {G : Dm} {J : Jm} {av : List Value} : FrameBlind (va_Pc av (preN D cy ad sz I G J)) := by
  intro a U g mk h
  obtain ⟨h1, h2, h3⟩ := h
  have hW : U.WarmedH (U.calling g mk a).vm := State.WarmedH.refl U
  have hq : va_Pc av (preW D cy ad sz I G J) a (U.calling g mk a) := fb_preW a U g mk ⟨h1, h2⟩
  exact ⟨h1, hq.2, h3.moved hW.alike⟩
abbrev nD (l : Launch) (y : MethodName) (w : Cond) (D : va_G) (cy ad : Nat → Nat) (av : List Value) (I : Im) (G : Dm) (J : Jm) (Qc : Nat → QcT) : Prop :=
  ∀ sz, MetD lw_cs l y [w] rN (va_Pc av (preN D cy ad sz I G J)) (Qc sz) 1 6 (aA ad sz)
theorem W.wide {p : Program} {l : Launch} {e : Env} {R : Room} {s : State} {m : MethodId} {args : Array Value} {below : List Frame} {meth : Method} {c : Code} {H : Heap} {locs : List Loc} {cells slots : Nat} {Q : State → Prop} {g : JFrame} {k n : Nat} (h1 : cells ≤ k) (h2 : slots ≤ n) (kk : W p l e R s m args below meth c H locs k n Q g) : W p l e R s m args below meth c H locs cells slots Q g := fun T hT X => kk T hT (stand_widen X h1 h2)
section
variable {l : Launch} {y : MethodName} {D : va_G} {cy ad : Nat → Nat} {av : List Value} {I : Im} {G : Dm} {J : Jm} {Qc : Nat → QcT} {cc : ByteArray} {nL : Nat} {ret : Option FieldType} {hh : List (Nat × Nat × Nat × Nat)}
theorem start_N (hadI : adI ad) (hy : plainName y.cls = true) (hn : (lg_sl av).length ≤ nL)
    (body : ∀ (p : Program) (e : Env) (s : State) (m : MethodId) (below : List Frame) (meth : Method) (c : Code), Amb p s m av.toArray c cc nL y.cls D cy ad → nC s → c.exceptionTable.toList = tableOf hh → p.tables.exec = Jvm.exec → c.code = cc → meth.sig.returnType = ret → meth.locks = false → St D cy ad s.heap I G J s.heap [] → ∀ ls, lv_has ls nL (lv_args 0 av) → ∀ d0, s.drawn.sameBut d0 lw_cs →
      W p l e rN (s.setDrawn d0) m av.toArray below meth c s.heap [] 0 0 (MQD lw_cs below (Qc s.heap.size) av.toArray s 1 6 (aA ad s.heap.size)) (F0 m 0 ls [])) :
    nD l y (.codeWith y cc nL ret hh) D cy ad av I G J Qc := by
  intro sz
  refine tw_ofW (cc := cc) (maxL := nL) (ret := ret) (hh := hh) hy rfl ?_
  intro p e s m args below meth c s₁ B hml hv hd0
  obtain ⟨rfl, ⟨hsz, hmem, hK, hT, hStr, hZ⟩, hN⟩ := hv
  subst hsz
  have hl := lv_entry av (n := nL) hn
  rw [lg_entry_eq]
  exact body p e s m below meth c ⟨B.exec, B.bytes, hml, findClass_of_methodNamed B.named, tT_at (State.WarmedH.refl s) hT, hK, hadI, hStr, hZ⟩ hN (vx_table (x := y) (hh := hh) B (atoms_spec B.pre _ List.mem_cons_self)) B.exec B.bytes B.returns B.notSynchronized ⟨hmem, va_S.rf⟩ _ hl _ hd0
end
section
variable {p : Program} {l : Launch} {e : Env} {R : Room} {s : State} {m : MethodId} {args : Array Value} {below : List Frame} {meth : Method} {c : Code} {H : Heap} {locs : List Loc} {cells slots : Nat} {Q : State → Prop}
variable {cc : ByteArray} {nL : Nat} {own : String} {D : va_G} {cy : Nat → ClassId} {ad : Nat → Nat} {I I' : Im} {G G' : Dm} {J J' : Jm} {d0 : Drawn} {pc : Nat} {ls : Array Slot} {rest st0 : List Value} {hh : List (Nat × Nat × Nat × Nat)} {E : String} {Qc : Nat → QcT}
/-- a call that throws, caught here -/
theorem x_catch (am : Amb p s m args c cc nL RL D cy ad) (hst : St D cy ad s.heap I G J H locs) (htab : c.exceptionTable.toList = tableOf hh) (pre : List ExceptionTableEntry) (x : ExceptionTableEntry) (suf : List ExceptionTableEntry) (hsplit : tableOf hh = pre ++ x :: suf)
    (hpass : ∀ z ∈ pre, z.catchType ≠ 0 ∧ ∃ nm : String, Cond.classLink RL z.catchType nm ∈ tT ∧ va_Nc E nm s) (hx : covers x pc = true) (h0 : x.catchType ≠ 0) (hl : Cond.classLink RL x.catchType E ∈ tT) (hc : Cond.castable E E ∈ tT)
    (hr : vx_Run p l e R (s.setDrawn d0) m args below meth c H locs cells slots 1 6 (F0 m pc ls st0) rest (fun _ _ _ => False) (qX D cy ad E I' G' J' H.size) (aA ad H.size))
    (kk : ∀ (q9 : Addr) (H1 : Heap) (locs1 : List Loc), St D cy ad s.heap I' G' J' H1 locs1 → W p l e R (s.setDrawn d0) m args below meth c H1 locs1 (cells + 1) (slots + 6) Q (F0 m x.handlerPc ls [.ref q9])) :
    W p l e R (s.setDrawn d0) m args below meth c H locs cells slots Q (F0 m pc ls st0) :=
  x_run hst hr (fun ce q9 H1 locs1 h1 hq hv hcl => vx_catch (s := s.setDrawn d0) am.2.2.2.1 pre x suf (htab.trans hsplit) (fun z hz => by
    obtain ⟨a, nm, b, n⟩ := hpass z hz
    exact Or.inr ⟨a, nm, amT am _ b, n⟩) hx h0 (amT am _ hl) (amT am _ hc) hq hv hcl (kk q9 H1 locs1 h1))
theorem c_lD (hd : s.drawn.sameBut d0 lw_cs) (hst : St D cy ad s.heap I G J H locs) {mc ms : Nat} {a : Array Value} {r : Int64} (hr : va_RunD lw_cs p l e R (s.setDrawn d0) m args below meth c H locs cells slots mc ms (F0 m pc ls st0) rest (qL D cy ad r I' G' J' H.size a) (aA ad H.size))
    (kk : ∀ (d1 : Drawn) (H1 : Heap) (locs1 : List Loc), s.drawn.sameBut d1 lw_cs → St D cy ad s.heap I' G' J' H1 locs1 → W p l e R (s.setDrawn d1) m args below meth c H1 locs1 (cells + mc) (slots + ms) Q (F0 m (pc + 3) ls (.long r :: rest))) :
    W p l e R (s.setDrawn d0) m args below meth c H locs cells slots Q (F0 m pc ls st0) :=
  va_calllD hd hr hst.2 (fun q _ h => aA_le hst.2.1 h) (fun q h => aA_le hst.2.1 h) (fun x _ t H1 locs1 ht _ hw hB _ _ hS d1 hd1 => by subst hw; subst ht; exact kk d1 _ locs1 hd1 ⟨hB, hS⟩)
theorem preS_N (am : Amb p s m args c cc nL own D cy ad) (hN : nC s) (hst : St D cy ad s.heap I G J H locs) {As : List Value} : PreS (s.setDrawn d0) H (va_Pc As (preN D cy ad H.size I G J)) As :=
  ⟨fb_preN, fun U hU hW => ⟨rfl, preW_of am hst hU hW, hN.moved (show s.vm.Alike U.vm from (show s.WarmedH U.vm from hW).alike)⟩⟩
theorem r_WN (am : Amb p s m args c cc nL own D cy ad) (hN : nC s) (hst : St D cy ad s.heap I G J H locs) {lvv : List (Nat × Value)} (hl : lv_has ls nL lvv) {y : MethodName} {bytes : ByteArray} {maxL n index : Nat} {ret : Option FieldType} {As : List Value} (hM : nD l y (.codeWith y bytes maxL ret hh) D cy ad As I G J Qc) (kw : cwK (.codeWith y bytes maxL ret hh) own index y n) (ki : Cond.static y ∈ tT) (hR : rN.frames + 1 ≤ R.frames ∧ 8 + (maxL + 11) + rN.locals ≤ R.locals)
    (hn : As.length = n) (hstack : st0 = As.reverse ++ rest) (hW : (rest.map fun v => v.category).sum ≤ 8) (hdg : decode cc pc = .ok (.invokestatic index, 3)) (hf : cells + 1 ≤ R.cells ∧ slots + 6 ≤ R.slots) :
    va_RunD lw_cs p l e R (s.setDrawn d0) m args below meth c H locs cells slots 1 6 (F0 m pc ls st0) rest (Qc H.size As.toArray) (aA ad H.size) :=
  tw_runS (fixK am) (hM H.size) (cswK am kw ki hR) (preS_N am hN hst) rfl hn hl.1 hstack (lv_room hW) hdg hf
end
theorem ca_ISE : Cond.castable xISE xISE ∈ tT := tT_in (k := 252) (by decide +kernel) rfl
theorem cl_ISE : Cond.classLink RL 13 xISE ∈ tT := tT_in (k := 245) (by decide +kernel) rfl
theorem ca_IOOBE : Cond.castable xIOOBE xIOOBE ∈ tT := tT_in (k := 333) (by decide +kernel) rfl
theorem cl_IOOBE : Cond.classLink RL 19 xIOOBE ∈ tT := tT_in (k := 321) (by decide +kernel) rfl
theorem ca_IAE : Cond.castable xIAE xIAE ∈ tT := tT_in (k := 355) (by decide +kernel) rfl
theorem cl_IAE : Cond.classLink RL 21 xIAE ∈ tT := tT_in (k := 322) (by decide +kernel) rfl
set_option maxHeartbeats 4000000 in
set_option maxRecDepth 100000 in
theorem v_L_board {l : Launch} {D : va_G} {cy ad : Nat → Nat} {I : Im} {G : Dm} {J : Jm} (hadI : adI ad) {I1 : Im} {G1 : Dm} {r : Int32} (hC : kD l yX4_board (.code yX4_board cX4_board 1 (some .int)) rU D cy ad [.ref (ad 0)] I G J (qI D cy ad r I1 G1 J)) : nD l yL_board (.codeWith yL_board cL_board 3 (some .int) [(0, 8, 11, 13)]) D cy ad [.ref (ad 0), .ref (ad 70)] I G J (qI D cy ad 0 I1 G1 (u2 J 70 0 r.toInt64)) := by
  refine start_N hadI (by decide +kernel) (Nat.le_of_ble_eq_true rfl) ?_
  intro p e s m below meth cd am hN htab hx hb hr hlk hst ls hl d0 hd
  have hl : lv_has ls 3 [(0, .ref (ad 0)), (1, .ref (ad 70))] := hl
  refine lv_aload_n hx hb dL_board_0 rfl (lv_at hl 1 rfl) ?_
  refine lv_iconst (v := 0) hx hb dL_board_1 (by decide) ?_
  refine lv_aload_n hx hb dL_board_2 rfl (lv_at hl 0 rfl) ?_
  refine c_iD hd hst (r_VD (As := []) (rest := [.int 0, .ref (ad 70)]) am hst hl (hC) kRL_7 imX4_board slX4_board ⟨Nat.le_of_ble_eq_true rfl, Nat.le_of_ble_eq_true rfl⟩ (by decide) (fun _ _ _ => cE_S) rfl rfl rfl (Nat.le_of_ble_eq_true rfl) dL_board_3 ⟨Nat.le_of_ble_eq_true rfl, Nat.le_of_ble_eq_true rfl⟩) (fun d0 H locs hd hst => ?_)
  refine lv_i2l hx hb dL_board_6 rfl ?_
  refine w_last am hst (by decide) (fun _ _ _ => cE_70) (n := 0) rfl (vinL (by decide)) dL_board_7 (fun H locs hst => ?_)
  refine lv_goto (tgt := 14) hx hb dL_board_8 (by decide) ?_
  refine lv_iconst (v := 0) hx hb dL_board_14 (by decide) ?_
  refine W.wide (k := 1) (n := 6) (Nat.le_of_ble_eq_true rfl) (Nat.le_of_ble_eq_true rfl) ?_
  exact e_iD hd hx hb hr hlk hst rfl rfl dL_board_15

set_option maxHeartbeats 4000000 in
set_option maxRecDepth 100000 in
theorem v_L_board_ISE {l : Launch} {D : va_G} {cy ad : Nat → Nat} {I : Im} {G : Dm} {J : Jm} (hadI : adI ad)  (hC : kX l yX4_board (.code yX4_board cX4_board 1 (some .int)) rV D cy ad [.ref (ad 0)] I G J xISE) : nD l yL_board (.codeWith yL_board cL_board 3 (some .int) [(0, 8, 11, 13)]) D cy ad [.ref (ad 0), .ref (ad 70)] I G J (qI D cy ad 1 I G J) := by
  refine start_N hadI (by decide +kernel) (Nat.le_of_ble_eq_true rfl) ?_
  intro p e s m below meth cd am hN htab hx hb hr hlk hst ls hl d0 hd
  have hl : lv_has ls 3 [(0, .ref (ad 0)), (1, .ref (ad 70))] := hl
  refine lv_aload_n hx hb dL_board_0 rfl (lv_at hl 1 rfl) ?_
  refine lv_iconst (v := 0) hx hb dL_board_1 (by decide) ?_
  refine lv_aload_n hx hb dL_board_2 rfl (lv_at hl 0 rfl) ?_
  refine x_catch am hst htab [] ⟨0, 8, 11, 13⟩ [] rfl (fun z hz => absurd hz List.not_mem_nil) rfl (by decide) cl_ISE ca_ISE (r_VX (As := []) (rest := [.int 0, .ref (ad 70)]) am hst hl (hC) kRL_7 imX4_board slX4_board ⟨rfl, rfl⟩ ⟨Nat.le_of_ble_eq_true rfl, Nat.le_of_ble_eq_true rfl⟩ (by decide) (fun _ _ _ => cE_S) rfl rfl rfl (Nat.le_of_ble_eq_true rfl) dL_board_3 ⟨Nat.le_of_ble_eq_true rfl, Nat.le_of_ble_eq_true rfl⟩) (fun q9 H locs hst => ?_)
  refine lv_astore_n (lv' := [(2, .ref q9), (0, .ref (ad 0)), (1, .ref (ad 70))]) hx hb dL_board_11 rfl hl (by decide) rfl (fun ls hl => ?_)
  refine lv_iconst (v := 1) hx hb dL_board_12 (by decide) ?_
  exact e_iD hd hx hb hr hlk hst rfl rfl dL_board_13

set_option maxHeartbeats 4000000 in
set_option maxRecDepth 100000 in
theorem v_L_row {l : Launch} {D : va_G} {cy ad : Nat → Nat} {I : Im} {G : Dm} {J : Jm} (hadI : adI ad) {I1 : Im} {G1 : Dm} {v0 : Int32} {x1 : UInt64} {r : Int32} (hC : kD l yX4_row (.code yX4_row cX4_row 5 (some .int)) rU D cy ad [.ref (ad 0), .int v0, .double x1] I G J (qI D cy ad r I1 G1 J)) : nD l yL_row (.codeWith yL_row cL_row 6 (some .int) [(0, 11, 14, 19), (0, 11, 18, 21), (0, 11, 22, 13)]) D cy ad [.ref (ad 0), .int v0, .double x1, .ref (ad 70)] I G J (qI D cy ad 0 I1 G1 (u2 J 70 0 r.toInt64)) := by
  refine start_N hadI (by decide +kernel) (Nat.le_of_ble_eq_true rfl) ?_
  intro p e s m below meth cd am hN htab hx hb hr hlk hst ls hl d0 hd
  have hl : lv_has ls 6 [(0, .ref (ad 0)), (1, .int v0), (2, .double x1), (4, .ref (ad 70))] := hl
  refine lv_aload hx hb dL_row_0 (lv_at hl 3 rfl) ?_
  refine lv_iconst (v := 0) hx hb dL_row_2 (by decide) ?_
  refine lv_aload_n hx hb dL_row_3 rfl (lv_at hl 0 rfl) ?_
  refine lv_iload_n hx hb dL_row_4 rfl (lv_at hl 1 rfl) ?_
  refine lv_dload_n hx hb dL_row_5 rfl (lv_at hl 2 rfl) ?_
  refine c_iD hd hst (r_VD (As := [.int v0, .double x1]) (rest := [.int 0, .ref (ad 70)]) am hst hl (hC) kRL_15 imX4_row slX4_row ⟨Nat.le_of_ble_eq_true rfl, Nat.le_of_ble_eq_true rfl⟩ (by decide) (fun _ _ _ => cE_S) rfl rfl rfl (Nat.le_of_ble_eq_true rfl) dL_row_6 ⟨Nat.le_of_ble_eq_true rfl, Nat.le_of_ble_eq_true rfl⟩) (fun d0 H locs hd hst => ?_)
  refine lv_i2l hx hb dL_row_9 rfl ?_
  refine w_last am hst (by decide) (fun _ _ _ => cE_70) (n := 0) rfl (vinL (by decide)) dL_row_10 (fun H locs hst => ?_)
  refine lv_goto (tgt := 26) hx hb dL_row_11 (by decide) ?_
  refine lv_iconst (v := 0) hx hb dL_row_26 (by decide) ?_
  refine W.wide (k := 1) (n := 6) (Nat.le_of_ble_eq_true rfl) (Nat.le_of_ble_eq_true rfl) ?_
  exact e_iD hd hx hb hr hlk hst rfl rfl dL_row_27

set_option maxHeartbeats 4000000 in
set_option maxRecDepth 100000 in
theorem v_L_row_IOOBE {l : Launch} {D : va_G} {cy ad : Nat → Nat} {I : Im} {G : Dm} {J : Jm} (hadI : adI ad)  {v0 : Int32} {x1 : UInt64} (hC : kX l yX4_row (.code yX4_row cX4_row 5 (some .int)) rV D cy ad [.ref (ad 0), .int v0, .double x1] I G J xIOOBE) : nD l yL_row (.codeWith yL_row cL_row 6 (some .int) [(0, 11, 14, 19), (0, 11, 18, 21), (0, 11, 22, 13)]) D cy ad [.ref (ad 0), .int v0, .double x1, .ref (ad 70)] I G J (qI D cy ad 1 I G J) := by
  refine start_N hadI (by decide +kernel) (Nat.le_of_ble_eq_true rfl) ?_
  intro p e s m below meth cd am hN htab hx hb hr hlk hst ls hl d0 hd
  have hl : lv_has ls 6 [(0, .ref (ad 0)), (1, .int v0), (2, .double x1), (4, .ref (ad 70))] := hl
  refine lv_aload hx hb dL_row_0 (lv_at hl 3 rfl) ?_
  refine lv_iconst (v := 0) hx hb dL_row_2 (by decide) ?_
  refine lv_aload_n hx hb dL_row_3 rfl (lv_at hl 0 rfl) ?_
  refine lv_iload_n hx hb dL_row_4 rfl (lv_at hl 1 rfl) ?_
  refine lv_dload_n hx hb dL_row_5 rfl (lv_at hl 2 rfl) ?_
  refine x_catch am hst htab [] ⟨0, 11, 14, 19⟩ [⟨0, 11, 18, 21⟩, ⟨0, 11, 22, 13⟩] rfl (fun z hz => absurd hz List.not_mem_nil) rfl (by decide) cl_IOOBE ca_IOOBE (r_VX (As := [.int v0, .double x1]) (rest := [.int 0, .ref (ad 70)]) am hst hl (hC) kRL_15 imX4_row slX4_row ⟨rfl, rfl⟩ ⟨Nat.le_of_ble_eq_true rfl, Nat.le_of_ble_eq_true rfl⟩ (by decide) (fun _ _ _ => cE_S) rfl rfl rfl (Nat.le_of_ble_eq_true rfl) dL_row_6 ⟨Nat.le_of_ble_eq_true rfl, Nat.le_of_ble_eq_true rfl⟩) (fun q9 H locs hst => ?_)
  refine lv_astore (lv' := [(5, .ref q9), (0, .ref (ad 0)), (1, .int v0), (2, .double x1), (4, .ref (ad 70))]) hx hb dL_row_14 hl (by decide) rfl (fun ls hl => ?_)
  refine lv_iconst (v := 1) hx hb dL_row_16 (by decide) ?_
  exact e_iD hd hx hb hr hlk hst rfl rfl dL_row_17

set_option maxHeartbeats 4000000 in
set_option maxRecDepth 100000 in
theorem v_L_row_IAE {l : Launch} {D : va_G} {cy ad : Nat → Nat} {I : Im} {G : Dm} {J : Jm} (hadI : adI ad)  {v0 : Int32} {x1 : UInt64} (hC : kX l yX4_row (.code yX4_row cX4_row 5 (some .int)) rV D cy ad [.ref (ad 0), .int v0, .double x1] I G J xIAE) : nD l yL_row (.codeWith yL_row cL_row 6 (some .int) [(0, 11, 14, 19), (0, 11, 18, 21), (0, 11, 22, 13)]) D cy ad [.ref (ad 0), .int v0, .double x1, .ref (ad 70)] I G J (qI D cy ad 2 I G J) := by
  refine start_N hadI (by decide +kernel) (Nat.le_of_ble_eq_true rfl) ?_
  intro p e s m below meth cd am hN htab hx hb hr hlk hst ls hl d0 hd
  have hl : lv_has ls 6 [(0, .ref (ad 0)), (1, .int v0), (2, .double x1), (4, .ref (ad 70))] := hl
  refine lv_aload hx hb dL_row_0 (lv_at hl 3 rfl) ?_
  refine lv_iconst (v := 0) hx hb dL_row_2 (by decide) ?_
  refine lv_aload_n hx hb dL_row_3 rfl (lv_at hl 0 rfl) ?_
  refine lv_iload_n hx hb dL_row_4 rfl (lv_at hl 1 rfl) ?_
  refine lv_dload_n hx hb dL_row_5 rfl (lv_at hl 2 rfl) ?_
  refine x_catch am hst htab [⟨0, 11, 14, 19⟩] ⟨0, 11, 18, 21⟩ [⟨0, 11, 22, 13⟩] rfl (List.forall_mem_cons.mpr ⟨⟨by decide, xIOOBE, cl_IOOBE, hN.1⟩, fun z hz => absurd hz List.not_mem_nil⟩) rfl (by decide) cl_IAE ca_IAE (r_VX (As := [.int v0, .double x1]) (rest := [.int 0, .ref (ad 70)]) am hst hl (hC) kRL_15 imX4_row slX4_row ⟨rfl, rfl⟩ ⟨Nat.le_of_ble_eq_true rfl, Nat.le_of_ble_eq_true rfl⟩ (by decide) (fun _ _ _ => cE_S) rfl rfl rfl (Nat.le_of_ble_eq_true rfl) dL_row_6 ⟨Nat.le_of_ble_eq_true rfl, Nat.le_of_ble_eq_true rfl⟩) (fun q9 H locs hst => ?_)
  refine lv_astore (lv' := [(5, .ref q9), (0, .ref (ad 0)), (1, .int v0), (2, .double x1), (4, .ref (ad 70))]) hx hb dL_row_18 hl (by decide) rfl (fun ls hl => ?_)
  refine lv_iconst (v := 2) hx hb dL_row_20 (by decide) ?_
  exact e_iD hd hx hb hr hlk hst rfl rfl dL_row_21

set_option maxHeartbeats 4000000 in
set_option maxRecDepth 100000 in
theorem v_L_row_ISE {l : Launch} {D : va_G} {cy ad : Nat → Nat} {I : Im} {G : Dm} {J : Jm} (hadI : adI ad)  {v0 : Int32} {x1 : UInt64} (hC : kX l yX4_row (.code yX4_row cX4_row 5 (some .int)) rV D cy ad [.ref (ad 0), .int v0, .double x1] I G J xISE) : nD l yL_row (.codeWith yL_row cL_row 6 (some .int) [(0, 11, 14, 19), (0, 11, 18, 21), (0, 11, 22, 13)]) D cy ad [.ref (ad 0), .int v0, .double x1, .ref (ad 70)] I G J (qI D cy ad 3 I G J) := by
  refine start_N hadI (by decide +kernel) (Nat.le_of_ble_eq_true rfl) ?_
  intro p e s m below meth cd am hN htab hx hb hr hlk hst ls hl d0 hd
  have hl : lv_has ls 6 [(0, .ref (ad 0)), (1, .int v0), (2, .double x1), (4, .ref (ad 70))] := hl
  refine lv_aload hx hb dL_row_0 (lv_at hl 3 rfl) ?_
  refine lv_iconst (v := 0) hx hb dL_row_2 (by decide) ?_
  refine lv_aload_n hx hb dL_row_3 rfl (lv_at hl 0 rfl) ?_
  refine lv_iload_n hx hb dL_row_4 rfl (lv_at hl 1 rfl) ?_
  refine lv_dload_n hx hb dL_row_5 rfl (lv_at hl 2 rfl) ?_
  refine x_catch am hst htab [⟨0, 11, 14, 19⟩, ⟨0, 11, 18, 21⟩] ⟨0, 11, 22, 13⟩ [] rfl (List.forall_mem_cons.mpr ⟨⟨by decide, xIOOBE, cl_IOOBE, hN.2.1⟩, List.forall_mem_cons.mpr ⟨⟨by decide, xIAE, cl_IAE, hN.2.2⟩, fun z hz => absurd hz List.not_mem_nil⟩⟩) rfl (by decide) cl_ISE ca_ISE (r_VX (As := [.int v0, .double x1]) (rest := [.int 0, .ref (ad 70)]) am hst hl (hC) kRL_15 imX4_row slX4_row ⟨rfl, rfl⟩ ⟨Nat.le_of_ble_eq_true rfl, Nat.le_of_ble_eq_true rfl⟩ (by decide) (fun _ _ _ => cE_S) rfl rfl rfl (Nat.le_of_ble_eq_true rfl) dL_row_6 ⟨Nat.le_of_ble_eq_true rfl, Nat.le_of_ble_eq_true rfl⟩) (fun q9 H locs hst => ?_)
  refine lv_astore (lv' := [(5, .ref q9), (0, .ref (ad 0)), (1, .int v0), (2, .double x1), (4, .ref (ad 70))]) hx hb dL_row_22 hl (by decide) rfl (fun ls hl => ?_)
  refine lv_iconst (v := 3) hx hb dL_row_24 (by decide) ?_
  exact e_iD hd hx hb hr hlk hst rfl rfl dL_row_25

set_option maxHeartbeats 4000000 in
set_option maxRecDepth 100000 in
theorem v_L_echo {l : Launch} {D : va_G} {cy ad : Nat → Nat} {I : Im} {G : Dm} {J : Jm} (hadI : adI ad) {I1 : Im} {G1 : Dm} {v0 : Int32} {x1 : UInt64} {x2 : UInt64} (hC : kD l yX4_echo (.code yX4_echo cX4_echo 7 none) rU D cy ad [.ref (ad 0), .int v0, .double x1, .double x2] I G J (qV D cy ad I1 G1 J)) : nD l yL_echo (.codeWith yL_echo cL_echo 7 (some .int) [(0, 8, 11, 19), (0, 8, 15, 21)]) D cy ad [.ref (ad 0), .int v0, .double x1, .double x2] I G J (qI D cy ad 0 I1 G1 J) := by
  refine start_N hadI (by decide +kernel) (Nat.le_of_ble_eq_true rfl) ?_
  intro p e s m below meth cd am hN htab hx hb hr hlk hst ls hl d0 hd
  have hl : lv_has ls 7 [(0, .ref (ad 0)), (1, .int v0), (2, .double x1), (4, .double x2)] := hl
  refine lv_aload_n hx hb dL_echo_0 rfl (lv_at hl 0 rfl) ?_
  refine lv_iload_n hx hb dL_echo_1 rfl (lv_at hl 1 rfl) ?_
  refine lv_dload_n hx hb dL_echo_2 rfl (lv_at hl 2 rfl) ?_
  refine lv_dload hx hb dL_echo_3 (lv_at hl 3 rfl) ?_
  refine c_vD hd hst (r_VD (As := [.int v0, .double x1, .double x2]) (rest := []) am hst hl (hC) kRL_23 imX4_echo slX4_echo ⟨Nat.le_of_ble_eq_true rfl, Nat.le_of_ble_eq_true rfl⟩ (by decide) (fun _ _ _ => cE_S) rfl rfl rfl (Nat.le_of_ble_eq_true rfl) dL_echo_5 ⟨Nat.le_of_ble_eq_true rfl, Nat.le_of_ble_eq_true rfl⟩) (fun d0 H locs hd hst => ?_)
  refine lv_goto (tgt := 19) hx hb dL_echo_8 (by decide) ?_
  refine lv_iconst (v := 0) hx hb dL_echo_19 (by decide) ?_
  refine W.wide (k := 1) (n := 6) (Nat.le_of_ble_eq_true rfl) (Nat.le_of_ble_eq_true rfl) ?_
  exact e_iD hd hx hb hr hlk hst rfl rfl dL_echo_20

set_option maxHeartbeats 4000000 in
set_option maxRecDepth 100000 in
theorem v_L_echo_IOOBE {l : Launch} {D : va_G} {cy ad : Nat → Nat} {I : Im} {G : Dm} {J : Jm} (hadI : adI ad)  {v0 : Int32} {x1 : UInt64} {x2 : UInt64} (hC : kX l yX4_echo (.code yX4_echo cX4_echo 7 none) rV D cy ad [.ref (ad 0), .int v0, .double x1, .double x2] I G J xIOOBE) : nD l yL_echo (.codeWith yL_echo cL_echo 7 (some .int) [(0, 8, 11, 19), (0, 8, 15, 21)]) D cy ad [.ref (ad 0), .int v0, .double x1, .double x2] I G J (qI D cy ad 1 I G J) := by
  refine start_N hadI (by decide +kernel) (Nat.le_of_ble_eq_true rfl) ?_
  intro p e s m below meth cd am hN htab hx hb hr hlk hst ls hl d0 hd
  have hl : lv_has ls 7 [(0, .ref (ad 0)), (1, .int v0), (2, .double x1), (4, .double x2)] := hl
  refine lv_aload_n hx hb dL_echo_0 rfl (lv_at hl 0 rfl) ?_
  refine lv_iload_n hx hb dL_echo_1 rfl (lv_at hl 1 rfl) ?_
  refine lv_dload_n hx hb dL_echo_2 rfl (lv_at hl 2 rfl) ?_
  refine lv_dload hx hb dL_echo_3 (lv_at hl 3 rfl) ?_
  refine x_catch am hst htab [] ⟨0, 8, 11, 19⟩ [⟨0, 8, 15, 21⟩] rfl (fun z hz => absurd hz List.not_mem_nil) rfl (by decide) cl_IOOBE ca_IOOBE (r_VX (As := [.int v0, .double x1, .double x2]) (rest := []) am hst hl (hC) kRL_23 imX4_echo slX4_echo ⟨rfl, rfl⟩ ⟨Nat.le_of_ble_eq_true rfl, Nat.le_of_ble_eq_true rfl⟩ (by decide) (fun _ _ _ => cE_S) rfl rfl rfl (Nat.le_of_ble_eq_true rfl) dL_echo_5 ⟨Nat.le_of_ble_eq_true rfl, Nat.le_of_ble_eq_true rfl⟩) (fun q9 H locs hst => ?_)
  refine lv_astore (lv' := [(6, .ref q9), (0, .ref (ad 0)), (1, .int v0), (2, .double x1), (4, .double x2)]) hx hb dL_echo_11 hl (by decide) rfl (fun ls hl => ?_)
  refine lv_iconst (v := 1) hx hb dL_echo_13 (by decide) ?_
  exact e_iD hd hx hb hr hlk hst rfl rfl dL_echo_14

set_option maxHeartbeats 4000000 in
set_option maxRecDepth 100000 in
theorem v_L_echo_IAE {l : Launch} {D : va_G} {cy ad : Nat → Nat} {I : Im} {G : Dm} {J : Jm} (hadI : adI ad)  {v0 : Int32} {x1 : UInt64} {x2 : UInt64} (hC : kX l yX4_echo (.code yX4_echo cX4_echo 7 none) rV D cy ad [.ref (ad 0), .int v0, .double x1, .double x2] I G J xIAE) : nD l yL_echo (.codeWith yL_echo cL_echo 7 (some .int) [(0, 8, 11, 19), (0, 8, 15, 21)]) D cy ad [.ref (ad 0), .int v0, .double x1, .double x2] I G J (qI D cy ad 2 I G J) := by
  refine start_N hadI (by decide +kernel) (Nat.le_of_ble_eq_true rfl) ?_
  intro p e s m below meth cd am hN htab hx hb hr hlk hst ls hl d0 hd
  have hl : lv_has ls 7 [(0, .ref (ad 0)), (1, .int v0), (2, .double x1), (4, .double x2)] := hl
  refine lv_aload_n hx hb dL_echo_0 rfl (lv_at hl 0 rfl) ?_
  refine lv_iload_n hx hb dL_echo_1 rfl (lv_at hl 1 rfl) ?_
  refine lv_dload_n hx hb dL_echo_2 rfl (lv_at hl 2 rfl) ?_
  refine lv_dload hx hb dL_echo_3 (lv_at hl 3 rfl) ?_
  refine x_catch am hst htab [⟨0, 8, 11, 19⟩] ⟨0, 8, 15, 21⟩ [] rfl (List.forall_mem_cons.mpr ⟨⟨by decide, xIOOBE, cl_IOOBE, hN.1⟩, fun z hz => absurd hz List.not_mem_nil⟩) rfl (by decide) cl_IAE ca_IAE (r_VX (As := [.int v0, .double x1, .double x2]) (rest := []) am hst hl (hC) kRL_23 imX4_echo slX4_echo ⟨rfl, rfl⟩ ⟨Nat.le_of_ble_eq_true rfl, Nat.le_of_ble_eq_true rfl⟩ (by decide) (fun _ _ _ => cE_S) rfl rfl rfl (Nat.le_of_ble_eq_true rfl) dL_echo_5 ⟨Nat.le_of_ble_eq_true rfl, Nat.le_of_ble_eq_true rfl⟩) (fun q9 H locs hst => ?_)
  refine lv_astore (lv' := [(6, .ref q9), (0, .ref (ad 0)), (1, .int v0), (2, .double x1), (4, .double x2)]) hx hb dL_echo_15 hl (by decide) rfl (fun ls hl => ?_)
  refine lv_iconst (v := 2) hx hb dL_echo_17 (by decide) ?_
  exact e_iD hd hx hb hr hlk hst rfl rfl dL_echo_18

set_option maxHeartbeats 4000000 in
set_option maxRecDepth 100000 in
theorem v_L_knots {l : Launch} {D : va_G} {cy ad : Nat → Nat} {I : Im} {G : Dm} {J : Jm} (hadI : adI ad) {I1 : Im} {G1 : Dm} {v0 : Int32} {x1 : UInt64} (hC : kD l yX4_knots (.code yX4_knots cX4_knots 5 none) rU D cy ad [.ref (ad 0), .int v0, .double x1] I G J (qV D cy ad I1 G1 J)) : nD l yL_knots (.codeWith yL_knots cL_knots 5 (some .int) [(0, 6, 9, 19), (0, 6, 13, 21)]) D cy ad [.ref (ad 0), .int v0, .double x1] I G J (qI D cy ad 0 I1 G1 J) := by
  refine start_N hadI (by decide +kernel) (Nat.le_of_ble_eq_true rfl) ?_
  intro p e s m below meth cd am hN htab hx hb hr hlk hst ls hl d0 hd
  have hl : lv_has ls 5 [(0, .ref (ad 0)), (1, .int v0), (2, .double x1)] := hl
  refine lv_aload_n hx hb dL_knots_0 rfl (lv_at hl 0 rfl) ?_
  refine lv_iload_n hx hb dL_knots_1 rfl (lv_at hl 1 rfl) ?_
  refine lv_dload_n hx hb dL_knots_2 rfl (lv_at hl 2 rfl) ?_
  refine c_vD hd hst (r_VD (As := [.int v0, .double x1]) (rest := []) am hst hl (hC) kRL_27 imX4_knots slX4_knots ⟨Nat.le_of_ble_eq_true rfl, Nat.le_of_ble_eq_true rfl⟩ (by decide) (fun _ _ _ => cE_S) rfl rfl rfl (Nat.le_of_ble_eq_true rfl) dL_knots_3 ⟨Nat.le_of_ble_eq_true rfl, Nat.le_of_ble_eq_true rfl⟩) (fun d0 H locs hd hst => ?_)
  refine lv_goto (tgt := 17) hx hb dL_knots_6 (by decide) ?_
  refine lv_iconst (v := 0) hx hb dL_knots_17 (by decide) ?_
  refine W.wide (k := 1) (n := 6) (Nat.le_of_ble_eq_true rfl) (Nat.le_of_ble_eq_true rfl) ?_
  exact e_iD hd hx hb hr hlk hst rfl rfl dL_knots_18

set_option maxHeartbeats 4000000 in
set_option maxRecDepth 100000 in
theorem v_L_knots_IOOBE {l : Launch} {D : va_G} {cy ad : Nat → Nat} {I : Im} {G : Dm} {J : Jm} (hadI : adI ad)  {v0 : Int32} {x1 : UInt64} (hC : kX l yX4_knots (.code yX4_knots cX4_knots 5 none) rV D cy ad [.ref (ad 0), .int v0, .double x1] I G J xIOOBE) : nD l yL_knots (.codeWith yL_knots cL_knots 5 (some .int) [(0, 6, 9, 19), (0, 6, 13, 21)]) D cy ad [.ref (ad 0), .int v0, .double x1] I G J (qI D cy ad 1 I G J) := by
  refine start_N hadI (by decide +kernel) (Nat.le_of_ble_eq_true rfl) ?_
  intro p e s m below meth cd am hN htab hx hb hr hlk hst ls hl d0 hd
  have hl : lv_has ls 5 [(0, .ref (ad 0)), (1, .int v0), (2, .double x1)] := hl
  refine lv_aload_n hx hb dL_knots_0 rfl (lv_at hl 0 rfl) ?_
  refine lv_iload_n hx hb dL_knots_1 rfl (lv_at hl 1 rfl) ?_
  refine lv_dload_n hx hb dL_knots_2 rfl (lv_at hl 2 rfl) ?_
  refine x_catch am hst htab [] ⟨0, 6, 9, 19⟩ [⟨0, 6, 13, 21⟩] rfl (fun z hz => absurd hz List.not_mem_nil) rfl (by decide) cl_IOOBE ca_IOOBE (r_VX (As := [.int v0, .double x1]) (rest := []) am hst hl (hC) kRL_27 imX4_knots slX4_knots ⟨rfl, rfl⟩ ⟨Nat.le_of_ble_eq_true rfl, Nat.le_of_ble_eq_true rfl⟩ (by decide) (fun _ _ _ => cE_S) rfl rfl rfl (Nat.le_of_ble_eq_true rfl) dL_knots_3 ⟨Nat.le_of_ble_eq_true rfl, Nat.le_of_ble_eq_true rfl⟩) (fun q9 H locs hst => ?_)
  refine lv_astore (lv' := [(4, .ref q9), (0, .ref (ad 0)), (1, .int v0), (2, .double x1)]) hx hb dL_knots_9 hl (by decide) rfl (fun ls hl => ?_)
  refine lv_iconst (v := 1) hx hb dL_knots_11 (by decide) ?_
  exact e_iD hd hx hb hr hlk hst rfl rfl dL_knots_12

set_option maxHeartbeats 4000000 in
set_option maxRecDepth 100000 in
theorem v_L_knots_IAE {l : Launch} {D : va_G} {cy ad : Nat → Nat} {I : Im} {G : Dm} {J : Jm} (hadI : adI ad)  {v0 : Int32} {x1 : UInt64} (hC : kX l yX4_knots (.code yX4_knots cX4_knots 5 none) rV D cy ad [.ref (ad 0), .int v0, .double x1] I G J xIAE) : nD l yL_knots (.codeWith yL_knots cL_knots 5 (some .int) [(0, 6, 9, 19), (0, 6, 13, 21)]) D cy ad [.ref (ad 0), .int v0, .double x1] I G J (qI D cy ad 2 I G J) := by
  refine start_N hadI (by decide +kernel) (Nat.le_of_ble_eq_true rfl) ?_
  intro p e s m below meth cd am hN htab hx hb hr hlk hst ls hl d0 hd
  have hl : lv_has ls 5 [(0, .ref (ad 0)), (1, .int v0), (2, .double x1)] := hl
  refine lv_aload_n hx hb dL_knots_0 rfl (lv_at hl 0 rfl) ?_
  refine lv_iload_n hx hb dL_knots_1 rfl (lv_at hl 1 rfl) ?_
  refine lv_dload_n hx hb dL_knots_2 rfl (lv_at hl 2 rfl) ?_
  refine x_catch am hst htab [⟨0, 6, 9, 19⟩] ⟨0, 6, 13, 21⟩ [] rfl (List.forall_mem_cons.mpr ⟨⟨by decide, xIOOBE, cl_IOOBE, hN.1⟩, fun z hz => absurd hz List.not_mem_nil⟩) rfl (by decide) cl_IAE ca_IAE (r_VX (As := [.int v0, .double x1]) (rest := []) am hst hl (hC) kRL_27 imX4_knots slX4_knots ⟨rfl, rfl⟩ ⟨Nat.le_of_ble_eq_true rfl, Nat.le_of_ble_eq_true rfl⟩ (by decide) (fun _ _ _ => cE_S) rfl rfl rfl (Nat.le_of_ble_eq_true rfl) dL_knots_3 ⟨Nat.le_of_ble_eq_true rfl, Nat.le_of_ble_eq_true rfl⟩) (fun q9 H locs hst => ?_)
  refine lv_astore (lv' := [(4, .ref q9), (0, .ref (ad 0)), (1, .int v0), (2, .double x1)]) hx hb dL_knots_13 hl (by decide) rfl (fun ls hl => ?_)
  refine lv_iconst (v := 2) hx hb dL_knots_15 (by decide) ?_
  exact e_iD hd hx hb hr hlk hst rfl rfl dL_knots_16

set_option maxHeartbeats 4000000 in
set_option maxRecDepth 100000 in
theorem v_L_broken {l : Launch} {D : va_G} {cy ad : Nat → Nat} {I : Im} {G : Dm} {J : Jm} (hadI : adI ad) {I1 : Im} {G1 : Dm} {v0 : Int32} {x1 : UInt64} (hC : kD l yX4_broken (.code yX4_broken cX4_broken 5 none) rU D cy ad [.ref (ad 0), .int v0, .double x1] I G J (qV D cy ad I1 G1 J)) : nD l yL_broken (.codeWith yL_broken cL_broken 5 (some .int) [(0, 6, 9, 19), (0, 6, 13, 21), (0, 6, 17, 13)]) D cy ad [.ref (ad 0), .int v0, .double x1] I G J (qI D cy ad 0 I1 G1 J) := by
  refine start_N hadI (by decide +kernel) (Nat.le_of_ble_eq_true rfl) ?_
  intro p e s m below meth cd am hN htab hx hb hr hlk hst ls hl d0 hd
  have hl : lv_has ls 5 [(0, .ref (ad 0)), (1, .int v0), (2, .double x1)] := hl
  refine lv_aload_n hx hb dL_broken_0 rfl (lv_at hl 0 rfl) ?_
  refine lv_iload_n hx hb dL_broken_1 rfl (lv_at hl 1 rfl) ?_
  refine lv_dload_n hx hb dL_broken_2 rfl (lv_at hl 2 rfl) ?_
  refine c_vD hd hst (r_VD (As := [.int v0, .double x1]) (rest := []) am hst hl (hC) kRL_31 imX4_broken slX4_broken ⟨Nat.le_of_ble_eq_true rfl, Nat.le_of_ble_eq_true rfl⟩ (by decide) (fun _ _ _ => cE_S) rfl rfl rfl (Nat.le_of_ble_eq_true rfl) dL_broken_3 ⟨Nat.le_of_ble_eq_true rfl, Nat.le_of_ble_eq_true rfl⟩) (fun d0 H locs hd hst => ?_)
  refine lv_goto (tgt := 21) hx hb dL_broken_6 (by decide) ?_
  refine lv_iconst (v := 0) hx hb dL_broken_21 (by decide) ?_
  refine W.wide (k := 1) (n := 6) (Nat.le_of_ble_eq_true rfl) (Nat.le_of_ble_eq_true rfl) ?_
  exact e_iD hd hx hb hr hlk hst rfl rfl dL_broken_22

set_option maxHeartbeats 4000000 in
set_option maxRecDepth 100000 in
theorem v_L_broken_IOOBE {l : Launch} {D : va_G} {cy ad : Nat → Nat} {I : Im} {G : Dm} {J : Jm} (hadI : adI ad)  {v0 : Int32} {x1 : UInt64} (hC : kX l yX4_broken (.code yX4_broken cX4_broken 5 none) rV D cy ad [.ref (ad 0), .int v0, .double x1] I G J xIOOBE) : nD l yL_broken (.codeWith yL_broken cL_broken 5 (some .int) [(0, 6, 9, 19), (0, 6, 13, 21), (0, 6, 17, 13)]) D cy ad [.ref (ad 0), .int v0, .double x1] I G J (qI D cy ad 1 I G J) := by
  refine start_N hadI (by decide +kernel) (Nat.le_of_ble_eq_true rfl) ?_
  intro p e s m below meth cd am hN htab hx hb hr hlk hst ls hl d0 hd
  have hl : lv_has ls 5 [(0, .ref (ad 0)), (1, .int v0), (2, .double x1)] := hl
  refine lv_aload_n hx hb dL_broken_0 rfl (lv_at hl 0 rfl) ?_
  refine lv_iload_n hx hb dL_broken_1 rfl (lv_at hl 1 rfl) ?_
  refine lv_dload_n hx hb dL_broken_2 rfl (lv_at hl 2 rfl) ?_
  refine x_catch am hst htab [] ⟨0, 6, 9, 19⟩ [⟨0, 6, 13, 21⟩, ⟨0, 6, 17, 13⟩] rfl (fun z hz => absurd hz List.not_mem_nil) rfl (by decide) cl_IOOBE ca_IOOBE (r_VX (As := [.int v0, .double x1]) (rest := []) am hst hl (hC) kRL_31 imX4_broken slX4_broken ⟨rfl, rfl⟩ ⟨Nat.le_of_ble_eq_true rfl, Nat.le_of_ble_eq_true rfl⟩ (by decide) (fun _ _ _ => cE_S) rfl rfl rfl (Nat.le_of_ble_eq_true rfl) dL_broken_3 ⟨Nat.le_of_ble_eq_true rfl, Nat.le_of_ble_eq_true rfl⟩) (fun q9 H locs hst => ?_)
  refine lv_astore (lv' := [(4, .ref q9), (0, .ref (ad 0)), (1, .int v0), (2, .double x1)]) hx hb dL_broken_9 hl (by decide) rfl (fun ls hl => ?_)
  refine lv_iconst (v := 1) hx hb dL_broken_11 (by decide) ?_
  exact e_iD hd hx hb hr hlk hst rfl rfl dL_broken_12

set_option maxHeartbeats 4000000 in
set_option maxRecDepth 100000 in
theorem v_L_broken_IAE {l : Launch} {D : va_G} {cy ad : Nat → Nat} {I : Im} {G : Dm} {J : Jm} (hadI : adI ad)  {v0 : Int32} {x1 : UInt64} (hC : kX l yX4_broken (.code yX4_broken cX4_broken 5 none) rV D cy ad [.ref (ad 0), .int v0, .double x1] I G J xIAE) : nD l yL_broken (.codeWith yL_broken cL_broken 5 (some .int) [(0, 6, 9, 19), (0, 6, 13, 21), (0, 6, 17, 13)]) D cy ad [.ref (ad 0), .int v0, .double x1] I G J (qI D cy ad 2 I G J) := by
  refine start_N hadI (by decide +kernel) (Nat.le_of_ble_eq_true rfl) ?_
  intro p e s m below meth cd am hN htab hx hb hr hlk hst ls hl d0 hd
  have hl : lv_has ls 5 [(0, .ref (ad 0)), (1, .int v0), (2, .double x1)] := hl
  refine lv_aload_n hx hb dL_broken_0 rfl (lv_at hl 0 rfl) ?_
  refine lv_iload_n hx hb dL_broken_1 rfl (lv_at hl 1 rfl) ?_
  refine lv_dload_n hx hb dL_broken_2 rfl (lv_at hl 2 rfl) ?_
  refine x_catch am hst htab [⟨0, 6, 9, 19⟩] ⟨0, 6, 13, 21⟩ [⟨0, 6, 17, 13⟩] rfl (List.forall_mem_cons.mpr ⟨⟨by decide, xIOOBE, cl_IOOBE, hN.1⟩, fun z hz => absurd hz List.not_mem_nil⟩) rfl (by decide) cl_IAE ca_IAE (r_VX (As := [.int v0, .double x1]) (rest := []) am hst hl (hC) kRL_31 imX4_broken slX4_broken ⟨rfl, rfl⟩ ⟨Nat.le_of_ble_eq_true rfl, Nat.le_of_ble_eq_true rfl⟩ (by decide) (fun _ _ _ => cE_S) rfl rfl rfl (Nat.le_of_ble_eq_true rfl) dL_broken_3 ⟨Nat.le_of_ble_eq_true rfl, Nat.le_of_ble_eq_true rfl⟩) (fun q9 H locs hst => ?_)
  refine lv_astore (lv' := [(4, .ref q9), (0, .ref (ad 0)), (1, .int v0), (2, .double x1)]) hx hb dL_broken_13 hl (by decide) rfl (fun ls hl => ?_)
  refine lv_iconst (v := 2) hx hb dL_broken_15 (by decide) ?_
  exact e_iD hd hx hb hr hlk hst rfl rfl dL_broken_16

set_option maxHeartbeats 4000000 in
set_option maxRecDepth 100000 in
theorem v_L_broken_ISE {l : Launch} {D : va_G} {cy ad : Nat → Nat} {I : Im} {G : Dm} {J : Jm} (hadI : adI ad)  {v0 : Int32} {x1 : UInt64} (hC : kX l yX4_broken (.code yX4_broken cX4_broken 5 none) rV D cy ad [.ref (ad 0), .int v0, .double x1] I G J xISE) : nD l yL_broken (.codeWith yL_broken cL_broken 5 (some .int) [(0, 6, 9, 19), (0, 6, 13, 21), (0, 6, 17, 13)]) D cy ad [.ref (ad 0), .int v0, .double x1] I G J (qI D cy ad 3 I G J) := by
  refine start_N hadI (by decide +kernel) (Nat.le_of_ble_eq_true rfl) ?_
  intro p e s m below meth cd am hN htab hx hb hr hlk hst ls hl d0 hd
  have hl : lv_has ls 5 [(0, .ref (ad 0)), (1, .int v0), (2, .double x1)] := hl
  refine lv_aload_n hx hb dL_broken_0 rfl (lv_at hl 0 rfl) ?_
  refine lv_iload_n hx hb dL_broken_1 rfl (lv_at hl 1 rfl) ?_
  refine lv_dload_n hx hb dL_broken_2 rfl (lv_at hl 2 rfl) ?_
  refine x_catch am hst htab [⟨0, 6, 9, 19⟩, ⟨0, 6, 13, 21⟩] ⟨0, 6, 17, 13⟩ [] rfl (List.forall_mem_cons.mpr ⟨⟨by decide, xIOOBE, cl_IOOBE, hN.2.1⟩, List.forall_mem_cons.mpr ⟨⟨by decide, xIAE, cl_IAE, hN.2.2⟩, fun z hz => absurd hz List.not_mem_nil⟩⟩) rfl (by decide) cl_ISE ca_ISE (r_VX (As := [.int v0, .double x1]) (rest := []) am hst hl (hC) kRL_31 imX4_broken slX4_broken ⟨rfl, rfl⟩ ⟨Nat.le_of_ble_eq_true rfl, Nat.le_of_ble_eq_true rfl⟩ (by decide) (fun _ _ _ => cE_S) rfl rfl rfl (Nat.le_of_ble_eq_true rfl) dL_broken_3 ⟨Nat.le_of_ble_eq_true rfl, Nat.le_of_ble_eq_true rfl⟩) (fun q9 H locs hst => ?_)
  refine lv_astore (lv' := [(4, .ref q9), (0, .ref (ad 0)), (1, .int v0), (2, .double x1)]) hx hb dL_broken_17 hl (by decide) rfl (fun ls hl => ?_)
  refine lv_iconst (v := 3) hx hb dL_broken_19 (by decide) ?_
  exact e_iD hd hx hb hr hlk hst rfl rfl dL_broken_20

set_option maxHeartbeats 4000000 in
set_option maxRecDepth 100000 in
theorem v_L_number {l : Launch} {D : va_G} {cy ad : Nat → Nat} {I : Im} {G : Dm} {J : Jm} (hadI : adI ad) {I1 : Im} {G1 : Dm} {v0 : Int32} {r : UInt64} (hC : kD l yX4_number (.code yX4_number cX4_number 2 (some .double)) rU D cy ad [.ref (ad 0), .int v0] I G J (qD D cy ad r I1 G1 J)) : nD l yL_number (.codeWith yL_number cL_number 4 (some .int) [(0, 8, 11, 19)]) D cy ad [.ref (ad 0), .int v0, .ref (ad 71)] I G J (qI D cy ad 0 I1 (u2 G1 71 0 r) J) := by
  refine start_N hadI (by decide +kernel) (Nat.le_of_ble_eq_true rfl) ?_
  intro p e s m below meth cd am hN htab hx hb hr hlk hst ls hl d0 hd
  have hl : lv_has ls 4 [(0, .ref (ad 0)), (1, .int v0), (2, .ref (ad 71))] := hl
  refine lv_aload_n hx hb dL_number_0 rfl (lv_at hl 2 rfl) ?_
  refine lv_iconst (v := 0) hx hb dL_number_1 (by decide) ?_
  refine lv_aload_n hx hb dL_number_2 rfl (lv_at hl 0 rfl) ?_
  refine lv_iload_n hx hb dL_number_3 rfl (lv_at hl 1 rfl) ?_
  refine c_dD hd hst (r_VD (As := [.int v0]) (rest := [.int 0, .ref (ad 71)]) am hst hl (hC) kRL_34 imX4_number slX4_number ⟨Nat.le_of_ble_eq_true rfl, Nat.le_of_ble_eq_true rfl⟩ (by decide) (fun _ _ _ => cE_S) rfl rfl rfl (Nat.le_of_ble_eq_true rfl) dL_number_4 ⟨Nat.le_of_ble_eq_true rfl, Nat.le_of_ble_eq_true rfl⟩) (fun x1 d0 H locs hx1 hd hst => ?_)
  refine w_dast am hst hx1 (by decide) (fun _ _ _ => cE_71) (n := 0) rfl (vinL (by decide)) dL_number_7 (fun H locs hst => ?_)
  refine lv_goto (tgt := 14) hx hb dL_number_8 (by decide) ?_
  refine lv_iconst (v := 0) hx hb dL_number_14 (by decide) ?_
  refine W.wide (k := 1) (n := 6) (Nat.le_of_ble_eq_true rfl) (Nat.le_of_ble_eq_true rfl) ?_
  exact e_iD hd hx hb hr hlk hst rfl rfl dL_number_15

set_option maxHeartbeats 4000000 in
set_option maxRecDepth 100000 in
theorem v_L_number_IOOBE {l : Launch} {D : va_G} {cy ad : Nat → Nat} {I : Im} {G : Dm} {J : Jm} (hadI : adI ad)  {v0 : Int32} (hC : kX l yX4_number (.code yX4_number cX4_number 2 (some .double)) rV D cy ad [.ref (ad 0), .int v0] I G J xIOOBE) : nD l yL_number (.codeWith yL_number cL_number 4 (some .int) [(0, 8, 11, 19)]) D cy ad [.ref (ad 0), .int v0, .ref (ad 71)] I G J (qI D cy ad 1 I G J) := by
  refine start_N hadI (by decide +kernel) (Nat.le_of_ble_eq_true rfl) ?_
  intro p e s m below meth cd am hN htab hx hb hr hlk hst ls hl d0 hd
  have hl : lv_has ls 4 [(0, .ref (ad 0)), (1, .int v0), (2, .ref (ad 71))] := hl
  refine lv_aload_n hx hb dL_number_0 rfl (lv_at hl 2 rfl) ?_
  refine lv_iconst (v := 0) hx hb dL_number_1 (by decide) ?_
  refine lv_aload_n hx hb dL_number_2 rfl (lv_at hl 0 rfl) ?_
  refine lv_iload_n hx hb dL_number_3 rfl (lv_at hl 1 rfl) ?_
  refine x_catch am hst htab [] ⟨0, 8, 11, 19⟩ [] rfl (fun z hz => absurd hz List.not_mem_nil) rfl (by decide) cl_IOOBE ca_IOOBE (r_VX (As := [.int v0]) (rest := [.int 0, .ref (ad 71)]) am hst hl (hC) kRL_34 imX4_number slX4_number ⟨rfl, rfl⟩ ⟨Nat.le_of_ble_eq_true rfl, Nat.le_of_ble_eq_true rfl⟩ (by decide) (fun _ _ _ => cE_S) rfl rfl rfl (Nat.le_of_ble_eq_true rfl) dL_number_4 ⟨Nat.le_of_ble_eq_true rfl, Nat.le_of_ble_eq_true rfl⟩) (fun q9 H locs hst => ?_)
  refine lv_astore_n (lv' := [(3, .ref q9), (0, .ref (ad 0)), (1, .int v0), (2, .ref (ad 71))]) hx hb dL_number_11 rfl hl (by decide) rfl (fun ls hl => ?_)
  refine lv_iconst (v := 1) hx hb dL_number_12 (by decide) ?_
  exact e_iD hd hx hb hr hlk hst rfl rfl dL_number_13

set_option maxHeartbeats 4000000 in
set_option maxRecDepth 100000 in
theorem v_L_foretold {l : Launch} {D : va_G} {cy ad : Nat → Nat} {I : Im} {G : Dm} {J : Jm} (hadI : adI ad) {I1 : Im} {G1 : Dm} {v0 : Int32} {r : UInt64} (hC : kD l yX4_foretold (.code yX4_foretold cX4_foretold 2 (some .double)) rU D cy ad [.ref (ad 0), .int v0] I G J (qD D cy ad r I1 G1 J)) : nD l yL_foretold (.codeWith yL_foretold cL_foretold 4 (some .int) [(0, 8, 11, 19), (0, 8, 14, 13)]) D cy ad [.ref (ad 0), .int v0, .ref (ad 71)] I G J (qI D cy ad 0 I1 (u2 G1 71 0 r) J) := by
  refine start_N hadI (by decide +kernel) (Nat.le_of_ble_eq_true rfl) ?_
  intro p e s m below meth cd am hN htab hx hb hr hlk hst ls hl d0 hd
  have hl : lv_has ls 4 [(0, .ref (ad 0)), (1, .int v0), (2, .ref (ad 71))] := hl
  refine lv_aload_n hx hb dL_foretold_0 rfl (lv_at hl 2 rfl) ?_
  refine lv_iconst (v := 0) hx hb dL_foretold_1 (by decide) ?_
  refine lv_aload_n hx hb dL_foretold_2 rfl (lv_at hl 0 rfl) ?_
  refine lv_iload_n hx hb dL_foretold_3 rfl (lv_at hl 1 rfl) ?_
  refine c_dD hd hst (r_VD (As := [.int v0]) (rest := [.int 0, .ref (ad 71)]) am hst hl (hC) kRL_38 imX4_foretold slX4_foretold ⟨Nat.le_of_ble_eq_true rfl, Nat.le_of_ble_eq_true rfl⟩ (by decide) (fun _ _ _ => cE_S) rfl rfl rfl (Nat.le_of_ble_eq_true rfl) dL_foretold_4 ⟨Nat.le_of_ble_eq_true rfl, Nat.le_of_ble_eq_true rfl⟩) (fun x1 d0 H locs hx1 hd hst => ?_)
  refine w_dast am hst hx1 (by decide) (fun _ _ _ => cE_71) (n := 0) rfl (vinL (by decide)) dL_foretold_7 (fun H locs hst => ?_)
  refine lv_goto (tgt := 17) hx hb dL_foretold_8 (by decide) ?_
  refine lv_iconst (v := 0) hx hb dL_foretold_17 (by decide) ?_
  refine W.wide (k := 1) (n := 6) (Nat.le_of_ble_eq_true rfl) (Nat.le_of_ble_eq_true rfl) ?_
  exact e_iD hd hx hb hr hlk hst rfl rfl dL_foretold_18

set_option maxHeartbeats 4000000 in
set_option maxRecDepth 100000 in
theorem v_L_foretold_IOOBE {l : Launch} {D : va_G} {cy ad : Nat → Nat} {I : Im} {G : Dm} {J : Jm} (hadI : adI ad)  {v0 : Int32} (hC : kX l yX4_foretold (.code yX4_foretold cX4_foretold 2 (some .double)) rV D cy ad [.ref (ad 0), .int v0] I G J xIOOBE) : nD l yL_foretold (.codeWith yL_foretold cL_foretold 4 (some .int) [(0, 8, 11, 19), (0, 8, 14, 13)]) D cy ad [.ref (ad 0), .int v0, .ref (ad 71)] I G J (qI D cy ad 1 I G J) := by
  refine start_N hadI (by decide +kernel) (Nat.le_of_ble_eq_true rfl) ?_
  intro p e s m below meth cd am hN htab hx hb hr hlk hst ls hl d0 hd
  have hl : lv_has ls 4 [(0, .ref (ad 0)), (1, .int v0), (2, .ref (ad 71))] := hl
  refine lv_aload_n hx hb dL_foretold_0 rfl (lv_at hl 2 rfl) ?_
  refine lv_iconst (v := 0) hx hb dL_foretold_1 (by decide) ?_
  refine lv_aload_n hx hb dL_foretold_2 rfl (lv_at hl 0 rfl) ?_
  refine lv_iload_n hx hb dL_foretold_3 rfl (lv_at hl 1 rfl) ?_
  refine x_catch am hst htab [] ⟨0, 8, 11, 19⟩ [⟨0, 8, 14, 13⟩] rfl (fun z hz => absurd hz List.not_mem_nil) rfl (by decide) cl_IOOBE ca_IOOBE (r_VX (As := [.int v0]) (rest := [.int 0, .ref (ad 71)]) am hst hl (hC) kRL_38 imX4_foretold slX4_foretold ⟨rfl, rfl⟩ ⟨Nat.le_of_ble_eq_true rfl, Nat.le_of_ble_eq_true rfl⟩ (by decide) (fun _ _ _ => cE_S) rfl rfl rfl (Nat.le_of_ble_eq_true rfl) dL_foretold_4 ⟨Nat.le_of_ble_eq_true rfl, Nat.le_of_ble_eq_true rfl⟩) (fun q9 H locs hst => ?_)
  refine lv_astore_n (lv' := [(3, .ref q9), (0, .ref (ad 0)), (1, .int v0), (2, .ref (ad 71))]) hx hb dL_foretold_11 rfl hl (by decide) rfl (fun ls hl => ?_)
  refine lv_iconst (v := 1) hx hb dL_foretold_12 (by decide) ?_
  exact e_iD hd hx hb hr hlk hst rfl rfl dL_foretold_13

set_option maxHeartbeats 4000000 in
set_option maxRecDepth 100000 in
theorem v_L_foretold_ISE {l : Launch} {D : va_G} {cy ad : Nat → Nat} {I : Im} {G : Dm} {J : Jm} (hadI : adI ad)  {v0 : Int32} (hC : kX l yX4_foretold (.code yX4_foretold cX4_foretold 2 (some .double)) rV D cy ad [.ref (ad 0), .int v0] I G J xISE) : nD l yL_foretold (.codeWith yL_foretold cL_foretold 4 (some .int) [(0, 8, 11, 19), (0, 8, 14, 13)]) D cy ad [.ref (ad 0), .int v0, .ref (ad 71)] I G J (qI D cy ad 2 I G J) := by
  refine start_N hadI (by decide +kernel) (Nat.le_of_ble_eq_true rfl) ?_
  intro p e s m below meth cd am hN htab hx hb hr hlk hst ls hl d0 hd
  have hl : lv_has ls 4 [(0, .ref (ad 0)), (1, .int v0), (2, .ref (ad 71))] := hl
  refine lv_aload_n hx hb dL_foretold_0 rfl (lv_at hl 2 rfl) ?_
  refine lv_iconst (v := 0) hx hb dL_foretold_1 (by decide) ?_
  refine lv_aload_n hx hb dL_foretold_2 rfl (lv_at hl 0 rfl) ?_
  refine lv_iload_n hx hb dL_foretold_3 rfl (lv_at hl 1 rfl) ?_
  refine x_catch am hst htab [⟨0, 8, 11, 19⟩] ⟨0, 8, 14, 13⟩ [] rfl (List.forall_mem_cons.mpr ⟨⟨by decide, xIOOBE, cl_IOOBE, hN.2.1⟩, fun z hz => absurd hz List.not_mem_nil⟩) rfl (by decide) cl_ISE ca_ISE (r_VX (As := [.int v0]) (rest := [.int 0, .ref (ad 71)]) am hst hl (hC) kRL_38 imX4_foretold slX4_foretold ⟨rfl, rfl⟩ ⟨Nat.le_of_ble_eq_true rfl, Nat.le_of_ble_eq_true rfl⟩ (by decide) (fun _ _ _ => cE_S) rfl rfl rfl (Nat.le_of_ble_eq_true rfl) dL_foretold_4 ⟨Nat.le_of_ble_eq_true rfl, Nat.le_of_ble_eq_true rfl⟩) (fun q9 H locs hst => ?_)
  refine lv_astore_n (lv' := [(3, .ref q9), (0, .ref (ad 0)), (1, .int v0), (2, .ref (ad 71))]) hx hb dL_foretold_14 rfl hl (by decide) rfl (fun ls hl => ?_)
  refine lv_iconst (v := 2) hx hb dL_foretold_15 (by decide) ?_
  exact e_iD hd hx hb hr hlk hst rfl rfl dL_foretold_16

set_option maxHeartbeats 4000000 in
set_option maxRecDepth 100000 in
theorem v_L_leftOut {l : Launch} {D : va_G} {cy ad : Nat → Nat} {I : Im} {G : Dm} {J : Jm} (hadI : adI ad) {I1 : Im} {G1 : Dm} {v0 : Int32} {r : UInt64} (hC : kD l yX4_leftOut (.code yX4_leftOut cX4_leftOut 3 (some .double)) rU D cy ad [.ref (ad 0), .int v0] I G J (qD D cy ad r I1 G1 J)) : nD l yL_leftOut (.codeWith yL_leftOut cL_leftOut 4 (some .int) [(0, 8, 11, 19), (0, 8, 14, 13)]) D cy ad [.ref (ad 0), .int v0, .ref (ad 71)] I G J (qI D cy ad 0 I1 (u2 G1 71 0 r) J) := by
  refine start_N hadI (by decide +kernel) (Nat.le_of_ble_eq_true rfl) ?_
  intro p e s m below meth cd am hN htab hx hb hr hlk hst ls hl d0 hd
  have hl : lv_has ls 4 [(0, .ref (ad 0)), (1, .int v0), (2, .ref (ad 71))] := hl
  refine lv_aload_n hx hb dL_leftOut_0 rfl (lv_at hl 2 rfl) ?_
  refine lv_iconst (v := 0) hx hb dL_leftOut_1 (by decide) ?_
  refine lv_aload_n hx hb dL_leftOut_2 rfl (lv_at hl 0 rfl) ?_
  refine lv_iload_n hx hb dL_leftOut_3 rfl (lv_at hl 1 rfl) ?_
  refine c_dD hd hst (r_VD (As := [.int v0]) (rest := [.int 0, .ref (ad 71)]) am hst hl (hC) kRL_41 imX4_leftOut slX4_leftOut ⟨Nat.le_of_ble_eq_true rfl, Nat.le_of_ble_eq_true rfl⟩ (by decide) (fun _ _ _ => cE_S) rfl rfl rfl (Nat.le_of_ble_eq_true rfl) dL_leftOut_4 ⟨Nat.le_of_ble_eq_true rfl, Nat.le_of_ble_eq_true rfl⟩) (fun x1 d0 H locs hx1 hd hst => ?_)
  refine w_dast am hst hx1 (by decide) (fun _ _ _ => cE_71) (n := 0) rfl (vinL (by decide)) dL_leftOut_7 (fun H locs hst => ?_)
  refine lv_goto (tgt := 17) hx hb dL_leftOut_8 (by decide) ?_
  refine lv_iconst (v := 0) hx hb dL_leftOut_17 (by decide) ?_
  refine W.wide (k := 1) (n := 6) (Nat.le_of_ble_eq_true rfl) (Nat.le_of_ble_eq_true rfl) ?_
  exact e_iD hd hx hb hr hlk hst rfl rfl dL_leftOut_18

set_option maxHeartbeats 4000000 in
set_option maxRecDepth 100000 in
theorem v_L_leftOut_IOOBE {l : Launch} {D : va_G} {cy ad : Nat → Nat} {I : Im} {G : Dm} {J : Jm} (hadI : adI ad)  {v0 : Int32} (hC : kX l yX4_leftOut (.code yX4_leftOut cX4_leftOut 3 (some .double)) rV D cy ad [.ref (ad 0), .int v0] I G J xIOOBE) : nD l yL_leftOut (.codeWith yL_leftOut cL_leftOut 4 (some .int) [(0, 8, 11, 19), (0, 8, 14, 13)]) D cy ad [.ref (ad 0), .int v0, .ref (ad 71)] I G J (qI D cy ad 1 I G J) := by
  refine start_N hadI (by decide +kernel) (Nat.le_of_ble_eq_true rfl) ?_
  intro p e s m below meth cd am hN htab hx hb hr hlk hst ls hl d0 hd
  have hl : lv_has ls 4 [(0, .ref (ad 0)), (1, .int v0), (2, .ref (ad 71))] := hl
  refine lv_aload_n hx hb dL_leftOut_0 rfl (lv_at hl 2 rfl) ?_
  refine lv_iconst (v := 0) hx hb dL_leftOut_1 (by decide) ?_
  refine lv_aload_n hx hb dL_leftOut_2 rfl (lv_at hl 0 rfl) ?_
  refine lv_iload_n hx hb dL_leftOut_3 rfl (lv_at hl 1 rfl) ?_
  refine x_catch am hst htab [] ⟨0, 8, 11, 19⟩ [⟨0, 8, 14, 13⟩] rfl (fun z hz => absurd hz List.not_mem_nil) rfl (by decide) cl_IOOBE ca_IOOBE (r_VX (As := [.int v0]) (rest := [.int 0, .ref (ad 71)]) am hst hl (hC) kRL_41 imX4_leftOut slX4_leftOut ⟨rfl, rfl⟩ ⟨Nat.le_of_ble_eq_true rfl, Nat.le_of_ble_eq_true rfl⟩ (by decide) (fun _ _ _ => cE_S) rfl rfl rfl (Nat.le_of_ble_eq_true rfl) dL_leftOut_4 ⟨Nat.le_of_ble_eq_true rfl, Nat.le_of_ble_eq_true rfl⟩) (fun q9 H locs hst => ?_)
  refine lv_astore_n (lv' := [(3, .ref q9), (0, .ref (ad 0)), (1, .int v0), (2, .ref (ad 71))]) hx hb dL_leftOut_11 rfl hl (by decide) rfl (fun ls hl => ?_)
  refine lv_iconst (v := 1) hx hb dL_leftOut_12 (by decide) ?_
  exact e_iD hd hx hb hr hlk hst rfl rfl dL_leftOut_13

set_option maxHeartbeats 4000000 in
set_option maxRecDepth 100000 in
theorem v_L_leftOut_ISE {l : Launch} {D : va_G} {cy ad : Nat → Nat} {I : Im} {G : Dm} {J : Jm} (hadI : adI ad)  {v0 : Int32} (hC : kX l yX4_leftOut (.code yX4_leftOut cX4_leftOut 3 (some .double)) rV D cy ad [.ref (ad 0), .int v0] I G J xISE) : nD l yL_leftOut (.codeWith yL_leftOut cL_leftOut 4 (some .int) [(0, 8, 11, 19), (0, 8, 14, 13)]) D cy ad [.ref (ad 0), .int v0, .ref (ad 71)] I G J (qI D cy ad 2 I G J) := by
  refine start_N hadI (by decide +kernel) (Nat.le_of_ble_eq_true rfl) ?_
  intro p e s m below meth cd am hN htab hx hb hr hlk hst ls hl d0 hd
  have hl : lv_has ls 4 [(0, .ref (ad 0)), (1, .int v0), (2, .ref (ad 71))] := hl
  refine lv_aload_n hx hb dL_leftOut_0 rfl (lv_at hl 2 rfl) ?_
  refine lv_iconst (v := 0) hx hb dL_leftOut_1 (by decide) ?_
  refine lv_aload_n hx hb dL_leftOut_2 rfl (lv_at hl 0 rfl) ?_
  refine lv_iload_n hx hb dL_leftOut_3 rfl (lv_at hl 1 rfl) ?_
  refine x_catch am hst htab [⟨0, 8, 11, 19⟩] ⟨0, 8, 14, 13⟩ [] rfl (List.forall_mem_cons.mpr ⟨⟨by decide, xIOOBE, cl_IOOBE, hN.2.1⟩, fun z hz => absurd hz List.not_mem_nil⟩) rfl (by decide) cl_ISE ca_ISE (r_VX (As := [.int v0]) (rest := [.int 0, .ref (ad 71)]) am hst hl (hC) kRL_41 imX4_leftOut slX4_leftOut ⟨rfl, rfl⟩ ⟨Nat.le_of_ble_eq_true rfl, Nat.le_of_ble_eq_true rfl⟩ (by decide) (fun _ _ _ => cE_S) rfl rfl rfl (Nat.le_of_ble_eq_true rfl) dL_leftOut_4 ⟨Nat.le_of_ble_eq_true rfl, Nat.le_of_ble_eq_true rfl⟩) (fun q9 H locs hst => ?_)
  refine lv_astore_n (lv' := [(3, .ref q9), (0, .ref (ad 0)), (1, .int v0), (2, .ref (ad 71))]) hx hb dL_leftOut_14 rfl hl (by decide) rfl (fun ls hl => ?_)
  refine lv_iconst (v := 2) hx hb dL_leftOut_15 (by decide) ?_
  exact e_iD hd hx hb hr hlk hst rfl rfl dL_leftOut_16

set_option maxHeartbeats 4000000 in
set_option maxRecDepth 100000 in
theorem v_L_limit {l : Launch} {D : va_G} {cy ad : Nat → Nat} {I : Im} {G : Dm} {J : Jm} (hadI : adI ad) {I1 : Im} {G1 : Dm} {v0 : Int32} {x1 : UInt64} (hC : kD l yX4_limit (.code yX4_limit cX4_limit 4 none) rU D cy ad [.ref (ad 0), .int v0, .double x1] I G J (qV D cy ad I1 G1 J)) : nD l yL_limit (.codeWith yL_limit cL_limit 5 (some .int) [(0, 6, 9, 19), (0, 6, 13, 21)]) D cy ad [.ref (ad 0), .int v0, .double x1] I G J (qI D cy ad 0 I1 G1 J) := by
  refine start_N hadI (by decide +kernel) (Nat.le_of_ble_eq_true rfl) ?_
  intro p e s m below meth cd am hN htab hx hb hr hlk hst ls hl d0 hd
  have hl : lv_has ls 5 [(0, .ref (ad 0)), (1, .int v0), (2, .double x1)] := hl
  refine lv_aload_n hx hb dL_limit_0 rfl (lv_at hl 0 rfl) ?_
  refine lv_iload_n hx hb dL_limit_1 rfl (lv_at hl 1 rfl) ?_
  refine lv_dload_n hx hb dL_limit_2 rfl (lv_at hl 2 rfl) ?_
  refine c_vD hd hst (r_VD (As := [.int v0, .double x1]) (rest := []) am hst hl (hC) kRL_44 imX4_limit slX4_limit ⟨Nat.le_of_ble_eq_true rfl, Nat.le_of_ble_eq_true rfl⟩ (by decide) (fun _ _ _ => cE_S) rfl rfl rfl (Nat.le_of_ble_eq_true rfl) dL_limit_3 ⟨Nat.le_of_ble_eq_true rfl, Nat.le_of_ble_eq_true rfl⟩) (fun d0 H locs hd hst => ?_)
  refine lv_goto (tgt := 17) hx hb dL_limit_6 (by decide) ?_
  refine lv_iconst (v := 0) hx hb dL_limit_17 (by decide) ?_
  refine W.wide (k := 1) (n := 6) (Nat.le_of_ble_eq_true rfl) (Nat.le_of_ble_eq_true rfl) ?_
  exact e_iD hd hx hb hr hlk hst rfl rfl dL_limit_18

set_option maxHeartbeats 4000000 in
set_option maxRecDepth 100000 in
theorem v_L_limit_IOOBE {l : Launch} {D : va_G} {cy ad : Nat → Nat} {I : Im} {G : Dm} {J : Jm} (hadI : adI ad)  {v0 : Int32} {x1 : UInt64} (hC : kX l yX4_limit (.code yX4_limit cX4_limit 4 none) rV D cy ad [.ref (ad 0), .int v0, .double x1] I G J xIOOBE) : nD l yL_limit (.codeWith yL_limit cL_limit 5 (some .int) [(0, 6, 9, 19), (0, 6, 13, 21)]) D cy ad [.ref (ad 0), .int v0, .double x1] I G J (qI D cy ad 1 I G J) := by
  refine start_N hadI (by decide +kernel) (Nat.le_of_ble_eq_true rfl) ?_
  intro p e s m below meth cd am hN htab hx hb hr hlk hst ls hl d0 hd
  have hl : lv_has ls 5 [(0, .ref (ad 0)), (1, .int v0), (2, .double x1)] := hl
  refine lv_aload_n hx hb dL_limit_0 rfl (lv_at hl 0 rfl) ?_
  refine lv_iload_n hx hb dL_limit_1 rfl (lv_at hl 1 rfl) ?_
  refine lv_dload_n hx hb dL_limit_2 rfl (lv_at hl 2 rfl) ?_
  refine x_catch am hst htab [] ⟨0, 6, 9, 19⟩ [⟨0, 6, 13, 21⟩] rfl (fun z hz => absurd hz List.not_mem_nil) rfl (by decide) cl_IOOBE ca_IOOBE (r_VX (As := [.int v0, .double x1]) (rest := []) am hst hl (hC) kRL_44 imX4_limit slX4_limit ⟨rfl, rfl⟩ ⟨Nat.le_of_ble_eq_true rfl, Nat.le_of_ble_eq_true rfl⟩ (by decide) (fun _ _ _ => cE_S) rfl rfl rfl (Nat.le_of_ble_eq_true rfl) dL_limit_3 ⟨Nat.le_of_ble_eq_true rfl, Nat.le_of_ble_eq_true rfl⟩) (fun q9 H locs hst => ?_)
  refine lv_astore (lv' := [(4, .ref q9), (0, .ref (ad 0)), (1, .int v0), (2, .double x1)]) hx hb dL_limit_9 hl (by decide) rfl (fun ls hl => ?_)
  refine lv_iconst (v := 1) hx hb dL_limit_11 (by decide) ?_
  exact e_iD hd hx hb hr hlk hst rfl rfl dL_limit_12

set_option maxHeartbeats 4000000 in
set_option maxRecDepth 100000 in
theorem v_L_limit_IAE {l : Launch} {D : va_G} {cy ad : Nat → Nat} {I : Im} {G : Dm} {J : Jm} (hadI : adI ad)  {v0 : Int32} {x1 : UInt64} (hC : kX l yX4_limit (.code yX4_limit cX4_limit 4 none) rV D cy ad [.ref (ad 0), .int v0, .double x1] I G J xIAE) : nD l yL_limit (.codeWith yL_limit cL_limit 5 (some .int) [(0, 6, 9, 19), (0, 6, 13, 21)]) D cy ad [.ref (ad 0), .int v0, .double x1] I G J (qI D cy ad 2 I G J) := by
  refine start_N hadI (by decide +kernel) (Nat.le_of_ble_eq_true rfl) ?_
  intro p e s m below meth cd am hN htab hx hb hr hlk hst ls hl d0 hd
  have hl : lv_has ls 5 [(0, .ref (ad 0)), (1, .int v0), (2, .double x1)] := hl
  refine lv_aload_n hx hb dL_limit_0 rfl (lv_at hl 0 rfl) ?_
  refine lv_iload_n hx hb dL_limit_1 rfl (lv_at hl 1 rfl) ?_
  refine lv_dload_n hx hb dL_limit_2 rfl (lv_at hl 2 rfl) ?_
  refine x_catch am hst htab [⟨0, 6, 9, 19⟩] ⟨0, 6, 13, 21⟩ [] rfl (List.forall_mem_cons.mpr ⟨⟨by decide, xIOOBE, cl_IOOBE, hN.1⟩, fun z hz => absurd hz List.not_mem_nil⟩) rfl (by decide) cl_IAE ca_IAE (r_VX (As := [.int v0, .double x1]) (rest := []) am hst hl (hC) kRL_44 imX4_limit slX4_limit ⟨rfl, rfl⟩ ⟨Nat.le_of_ble_eq_true rfl, Nat.le_of_ble_eq_true rfl⟩ (by decide) (fun _ _ _ => cE_S) rfl rfl rfl (Nat.le_of_ble_eq_true rfl) dL_limit_3 ⟨Nat.le_of_ble_eq_true rfl, Nat.le_of_ble_eq_true rfl⟩) (fun q9 H locs hst => ?_)
  refine lv_astore (lv' := [(4, .ref q9), (0, .ref (ad 0)), (1, .int v0), (2, .double x1)]) hx hb dL_limit_13 hl (by decide) rfl (fun ls hl => ?_)
  refine lv_iconst (v := 2) hx hb dL_limit_15 (by decide) ?_
  exact e_iD hd hx hb hr hlk hst rfl rfl dL_limit_16

set_option maxHeartbeats 4000000 in
set_option maxRecDepth 100000 in
theorem v_L_setting {l : Launch} {D : va_G} {cy ad : Nat → Nat} {I : Im} {G : Dm} {J : Jm} (hadI : adI ad) {I1 : Im} {G1 : Dm} {v0 : Int32} {v1 : Int32} {v2 : Int32} {r : Int32} (hC : kD l yX4_setting (.code yX4_setting cX4_setting 5 (some .int)) rU D cy ad [.ref (ad 0), .int v0, .int v1, .int v2] I G J (qI D cy ad r I1 G1 J)) : nD l yL_setting (.codeWith yL_setting cL_setting 6 (some .int) [(0, 12, 15, 19), (0, 12, 19, 21)]) D cy ad [.ref (ad 0), .int v0, .int v1, .int v2, .ref (ad 70)] I G J (qI D cy ad 0 I1 G1 (u2 J 70 0 r.toInt64)) := by
  refine start_N hadI (by decide +kernel) (Nat.le_of_ble_eq_true rfl) ?_
  intro p e s m below meth cd am hN htab hx hb hr hlk hst ls hl d0 hd
  have hl : lv_has ls 6 [(0, .ref (ad 0)), (1, .int v0), (2, .int v1), (3, .int v2), (4, .ref (ad 70))] := hl
  refine lv_aload hx hb dL_setting_0 (lv_at hl 4 rfl) ?_
  refine lv_iconst (v := 0) hx hb dL_setting_2 (by decide) ?_
  refine lv_aload_n hx hb dL_setting_3 rfl (lv_at hl 0 rfl) ?_
  refine lv_iload_n hx hb dL_setting_4 rfl (lv_at hl 1 rfl) ?_
  refine lv_iload_n hx hb dL_setting_5 rfl (lv_at hl 2 rfl) ?_
  refine lv_iload_n hx hb dL_setting_6 rfl (lv_at hl 3 rfl) ?_
  refine c_iD hd hst (r_VD (As := [.int v0, .int v1, .int v2]) (rest := [.int 0, .ref (ad 70)]) am hst hl (hC) kRL_47 imX4_setting slX4_setting ⟨Nat.le_of_ble_eq_true rfl, Nat.le_of_ble_eq_true rfl⟩ (by decide) (fun _ _ _ => cE_S) rfl rfl rfl (Nat.le_of_ble_eq_true rfl) dL_setting_7 ⟨Nat.le_of_ble_eq_true rfl, Nat.le_of_ble_eq_true rfl⟩) (fun d0 H locs hd hst => ?_)
  refine lv_i2l hx hb dL_setting_10 rfl ?_
  refine w_last am hst (by decide) (fun _ _ _ => cE_70) (n := 0) rfl (vinL (by decide)) dL_setting_11 (fun H locs hst => ?_)
  refine lv_goto (tgt := 23) hx hb dL_setting_12 (by decide) ?_
  refine lv_iconst (v := 0) hx hb dL_setting_23 (by decide) ?_
  refine W.wide (k := 1) (n := 6) (Nat.le_of_ble_eq_true rfl) (Nat.le_of_ble_eq_true rfl) ?_
  exact e_iD hd hx hb hr hlk hst rfl rfl dL_setting_24

set_option maxHeartbeats 4000000 in
set_option maxRecDepth 100000 in
theorem v_L_setting_IOOBE {l : Launch} {D : va_G} {cy ad : Nat → Nat} {I : Im} {G : Dm} {J : Jm} (hadI : adI ad)  {v0 : Int32} {v1 : Int32} {v2 : Int32} (hC : kX l yX4_setting (.code yX4_setting cX4_setting 5 (some .int)) rV D cy ad [.ref (ad 0), .int v0, .int v1, .int v2] I G J xIOOBE) : nD l yL_setting (.codeWith yL_setting cL_setting 6 (some .int) [(0, 12, 15, 19), (0, 12, 19, 21)]) D cy ad [.ref (ad 0), .int v0, .int v1, .int v2, .ref (ad 70)] I G J (qI D cy ad 1 I G J) := by
  refine start_N hadI (by decide +kernel) (Nat.le_of_ble_eq_true rfl) ?_
  intro p e s m below meth cd am hN htab hx hb hr hlk hst ls hl d0 hd
  have hl : lv_has ls 6 [(0, .ref (ad 0)), (1, .int v0), (2, .int v1), (3, .int v2), (4, .ref (ad 70))] := hl
  refine lv_aload hx hb dL_setting_0 (lv_at hl 4 rfl) ?_
  refine lv_iconst (v := 0) hx hb dL_setting_2 (by decide) ?_
  refine lv_aload_n hx hb dL_setting_3 rfl (lv_at hl 0 rfl) ?_
  refine lv_iload_n hx hb dL_setting_4 rfl (lv_at hl 1 rfl) ?_
  refine lv_iload_n hx hb dL_setting_5 rfl (lv_at hl 2 rfl) ?_
  refine lv_iload_n hx hb dL_setting_6 rfl (lv_at hl 3 rfl) ?_
  refine x_catch am hst htab [] ⟨0, 12, 15, 19⟩ [⟨0, 12, 19, 21⟩] rfl (fun z hz => absurd hz List.not_mem_nil) rfl (by decide) cl_IOOBE ca_IOOBE (r_VX (As := [.int v0, .int v1, .int v2]) (rest := [.int 0, .ref (ad 70)]) am hst hl (hC) kRL_47 imX4_setting slX4_setting ⟨rfl, rfl⟩ ⟨Nat.le_of_ble_eq_true rfl, Nat.le_of_ble_eq_true rfl⟩ (by decide) (fun _ _ _ => cE_S) rfl rfl rfl (Nat.le_of_ble_eq_true rfl) dL_setting_7 ⟨Nat.le_of_ble_eq_true rfl, Nat.le_of_ble_eq_true rfl⟩) (fun q9 H locs hst => ?_)
  refine lv_astore (lv' := [(5, .ref q9), (0, .ref (ad 0)), (1, .int v0), (2, .int v1), (3, .int v2), (4, .ref (ad 70))]) hx hb dL_setting_15 hl (by decide) rfl (fun ls hl => ?_)
  refine lv_iconst (v := 1) hx hb dL_setting_17 (by decide) ?_
  exact e_iD hd hx hb hr hlk hst rfl rfl dL_setting_18

set_option maxHeartbeats 4000000 in
set_option maxRecDepth 100000 in
theorem v_L_setting_IAE {l : Launch} {D : va_G} {cy ad : Nat → Nat} {I : Im} {G : Dm} {J : Jm} (hadI : adI ad)  {v0 : Int32} {v1 : Int32} {v2 : Int32} (hC : kX l yX4_setting (.code yX4_setting cX4_setting 5 (some .int)) rV D cy ad [.ref (ad 0), .int v0, .int v1, .int v2] I G J xIAE) : nD l yL_setting (.codeWith yL_setting cL_setting 6 (some .int) [(0, 12, 15, 19), (0, 12, 19, 21)]) D cy ad [.ref (ad 0), .int v0, .int v1, .int v2, .ref (ad 70)] I G J (qI D cy ad 2 I G J) := by
  refine start_N hadI (by decide +kernel) (Nat.le_of_ble_eq_true rfl) ?_
  intro p e s m below meth cd am hN htab hx hb hr hlk hst ls hl d0 hd
  have hl : lv_has ls 6 [(0, .ref (ad 0)), (1, .int v0), (2, .int v1), (3, .int v2), (4, .ref (ad 70))] := hl
  refine lv_aload hx hb dL_setting_0 (lv_at hl 4 rfl) ?_
  refine lv_iconst (v := 0) hx hb dL_setting_2 (by decide) ?_
  refine lv_aload_n hx hb dL_setting_3 rfl (lv_at hl 0 rfl) ?_
  refine lv_iload_n hx hb dL_setting_4 rfl (lv_at hl 1 rfl) ?_
  refine lv_iload_n hx hb dL_setting_5 rfl (lv_at hl 2 rfl) ?_
  refine lv_iload_n hx hb dL_setting_6 rfl (lv_at hl 3 rfl) ?_
  refine x_catch am hst htab [⟨0, 12, 15, 19⟩] ⟨0, 12, 19, 21⟩ [] rfl (List.forall_mem_cons.mpr ⟨⟨by decide, xIOOBE, cl_IOOBE, hN.1⟩, fun z hz => absurd hz List.not_mem_nil⟩) rfl (by decide) cl_IAE ca_IAE (r_VX (As := [.int v0, .int v1, .int v2]) (rest := [.int 0, .ref (ad 70)]) am hst hl (hC) kRL_47 imX4_setting slX4_setting ⟨rfl, rfl⟩ ⟨Nat.le_of_ble_eq_true rfl, Nat.le_of_ble_eq_true rfl⟩ (by decide) (fun _ _ _ => cE_S) rfl rfl rfl (Nat.le_of_ble_eq_true rfl) dL_setting_7 ⟨Nat.le_of_ble_eq_true rfl, Nat.le_of_ble_eq_true rfl⟩) (fun q9 H locs hst => ?_)
  refine lv_astore (lv' := [(5, .ref q9), (0, .ref (ad 0)), (1, .int v0), (2, .int v1), (3, .int v2), (4, .ref (ad 70))]) hx hb dL_setting_19 hl (by decide) rfl (fun ls hl => ?_)
  refine lv_iconst (v := 2) hx hb dL_setting_21 (by decide) ?_
  exact e_iD hd hx hb hr hlk hst rfl rfl dL_setting_22

set_option maxHeartbeats 4000000 in
set_option maxRecDepth 100000 in
theorem v_L_odds {l : Launch} {D : va_G} {cy ad : Nat → Nat} {I : Im} {G : Dm} {J : Jm} (hadI : adI ad) {I1 : Im} {G1 : Dm} {v0 : Int32} {v1 : Int32} {v2 : Int32} {v3 : Int32} {v4 : Int32} {r : Int64} (hC : kD l yX4_odds (.code yX4_odds cX4_odds 14 (some .long)) rU D cy ad [.ref (ad 0), .int v0, .int v1, .int v2, .int v3, .int v4] I G J (qL D cy ad r I1 G1 J)) : nD l yL_odds (.codeWith yL_odds cL_odds 8 (some .int) [(0, 15, 18, 19), (0, 15, 22, 21)]) D cy ad [.ref (ad 0), .int v0, .int v1, .int v2, .int v3, .int v4, .ref (ad 70)] I G J (qI D cy ad 0 I1 G1 (u2 J 70 0 r)) := by
  refine start_N hadI (by decide +kernel) (Nat.le_of_ble_eq_true rfl) ?_
  intro p e s m below meth cd am hN htab hx hb hr hlk hst ls hl d0 hd
  have hl : lv_has ls 8 [(0, .ref (ad 0)), (1, .int v0), (2, .int v1), (3, .int v2), (4, .int v3), (5, .int v4), (6, .ref (ad 70))] := hl
  refine lv_aload hx hb dL_odds_0 (lv_at hl 6 rfl) ?_
  refine lv_iconst (v := 0) hx hb dL_odds_2 (by decide) ?_
  refine lv_aload_n hx hb dL_odds_3 rfl (lv_at hl 0 rfl) ?_
  refine lv_iload_n hx hb dL_odds_4 rfl (lv_at hl 1 rfl) ?_
  refine lv_iload_n hx hb dL_odds_5 rfl (lv_at hl 2 rfl) ?_
  refine lv_iload_n hx hb dL_odds_6 rfl (lv_at hl 3 rfl) ?_
  refine lv_iload hx hb dL_odds_7 (lv_at hl 4 rfl) ?_
  refine lv_iload hx hb dL_odds_9 (lv_at hl 5 rfl) ?_
  refine c_lD hd hst (r_VD (As := [.int v0, .int v1, .int v2, .int v3, .int v4]) (rest := [.int 0, .ref (ad 70)]) am hst hl (hC) kRL_51 imX4_odds slX4_odds ⟨Nat.le_of_ble_eq_true rfl, Nat.le_of_ble_eq_true rfl⟩ (by decide) (fun _ _ _ => cE_S) rfl rfl rfl (Nat.le_of_ble_eq_true rfl) dL_odds_11 ⟨Nat.le_of_ble_eq_true rfl, Nat.le_of_ble_eq_true rfl⟩) (fun d0 H locs hd hst => ?_)
  refine w_last am hst (by decide) (fun _ _ _ => cE_70) (n := 0) rfl (vinL (by decide)) dL_odds_14 (fun H locs hst => ?_)
  refine lv_goto (tgt := 26) hx hb dL_odds_15 (by decide) ?_
  refine lv_iconst (v := 0) hx hb dL_odds_26 (by decide) ?_
  refine W.wide (k := 1) (n := 6) (Nat.le_of_ble_eq_true rfl) (Nat.le_of_ble_eq_true rfl) ?_
  exact e_iD hd hx hb hr hlk hst rfl rfl dL_odds_27

set_option maxHeartbeats 4000000 in
set_option maxRecDepth 100000 in
theorem v_L_odds_IOOBE {l : Launch} {D : va_G} {cy ad : Nat → Nat} {I : Im} {G : Dm} {J : Jm} (hadI : adI ad)  {v0 : Int32} {v1 : Int32} {v2 : Int32} {v3 : Int32} {v4 : Int32} (hC : kX l yX4_odds (.code yX4_odds cX4_odds 14 (some .long)) rV D cy ad [.ref (ad 0), .int v0, .int v1, .int v2, .int v3, .int v4] I G J xIOOBE) : nD l yL_odds (.codeWith yL_odds cL_odds 8 (some .int) [(0, 15, 18, 19), (0, 15, 22, 21)]) D cy ad [.ref (ad 0), .int v0, .int v1, .int v2, .int v3, .int v4, .ref (ad 70)] I G J (qI D cy ad 1 I G J) := by
  refine start_N hadI (by decide +kernel) (Nat.le_of_ble_eq_true rfl) ?_
  intro p e s m below meth cd am hN htab hx hb hr hlk hst ls hl d0 hd
  have hl : lv_has ls 8 [(0, .ref (ad 0)), (1, .int v0), (2, .int v1), (3, .int v2), (4, .int v3), (5, .int v4), (6, .ref (ad 70))] := hl
  refine lv_aload hx hb dL_odds_0 (lv_at hl 6 rfl) ?_
  refine lv_iconst (v := 0) hx hb dL_odds_2 (by decide) ?_
  refine lv_aload_n hx hb dL_odds_3 rfl (lv_at hl 0 rfl) ?_
  refine lv_iload_n hx hb dL_odds_4 rfl (lv_at hl 1 rfl) ?_
  refine lv_iload_n hx hb dL_odds_5 rfl (lv_at hl 2 rfl) ?_
  refine lv_iload_n hx hb dL_odds_6 rfl (lv_at hl 3 rfl) ?_
  refine lv_iload hx hb dL_odds_7 (lv_at hl 4 rfl) ?_
  refine lv_iload hx hb dL_odds_9 (lv_at hl 5 rfl) ?_
  refine x_catch am hst htab [] ⟨0, 15, 18, 19⟩ [⟨0, 15, 22, 21⟩] rfl (fun z hz => absurd hz List.not_mem_nil) rfl (by decide) cl_IOOBE ca_IOOBE (r_VX (As := [.int v0, .int v1, .int v2, .int v3, .int v4]) (rest := [.int 0, .ref (ad 70)]) am hst hl (hC) kRL_51 imX4_odds slX4_odds ⟨rfl, rfl⟩ ⟨Nat.le_of_ble_eq_true rfl, Nat.le_of_ble_eq_true rfl⟩ (by decide) (fun _ _ _ => cE_S) rfl rfl rfl (Nat.le_of_ble_eq_true rfl) dL_odds_11 ⟨Nat.le_of_ble_eq_true rfl, Nat.le_of_ble_eq_true rfl⟩) (fun q9 H locs hst => ?_)
  refine lv_astore (lv' := [(7, .ref q9), (0, .ref (ad 0)), (1, .int v0), (2, .int v1), (3, .int v2), (4, .int v3), (5, .int v4), (6, .ref (ad 70))]) hx hb dL_odds_18 hl (by decide) rfl (fun ls hl => ?_)
  refine lv_iconst (v := 1) hx hb dL_odds_20 (by decide) ?_
  exact e_iD hd hx hb hr hlk hst rfl rfl dL_odds_21

set_option maxHeartbeats 4000000 in
set_option maxRecDepth 100000 in
theorem v_L_odds_IAE {l : Launch} {D : va_G} {cy ad : Nat → Nat} {I : Im} {G : Dm} {J : Jm} (hadI : adI ad)  {v0 : Int32} {v1 : Int32} {v2 : Int32} {v3 : Int32} {v4 : Int32} (hC : kX l yX4_odds (.code yX4_odds cX4_odds 14 (some .long)) rV D cy ad [.ref (ad 0), .int v0, .int v1, .int v2, .int v3, .int v4] I G J xIAE) : nD l yL_odds (.codeWith yL_odds cL_odds 8 (some .int) [(0, 15, 18, 19), (0, 15, 22, 21)]) D cy ad [.ref (ad 0), .int v0, .int v1, .int v2, .int v3, .int v4, .ref (ad 70)] I G J (qI D cy ad 2 I G J) := by
  refine start_N hadI (by decide +kernel) (Nat.le_of_ble_eq_true rfl) ?_
  intro p e s m below meth cd am hN htab hx hb hr hlk hst ls hl d0 hd
  have hl : lv_has ls 8 [(0, .ref (ad 0)), (1, .int v0), (2, .int v1), (3, .int v2), (4, .int v3), (5, .int v4), (6, .ref (ad 70))] := hl
  refine lv_aload hx hb dL_odds_0 (lv_at hl 6 rfl) ?_
  refine lv_iconst (v := 0) hx hb dL_odds_2 (by decide) ?_
  refine lv_aload_n hx hb dL_odds_3 rfl (lv_at hl 0 rfl) ?_
  refine lv_iload_n hx hb dL_odds_4 rfl (lv_at hl 1 rfl) ?_
  refine lv_iload_n hx hb dL_odds_5 rfl (lv_at hl 2 rfl) ?_
  refine lv_iload_n hx hb dL_odds_6 rfl (lv_at hl 3 rfl) ?_
  refine lv_iload hx hb dL_odds_7 (lv_at hl 4 rfl) ?_
  refine lv_iload hx hb dL_odds_9 (lv_at hl 5 rfl) ?_
  refine x_catch am hst htab [⟨0, 15, 18, 19⟩] ⟨0, 15, 22, 21⟩ [] rfl (List.forall_mem_cons.mpr ⟨⟨by decide, xIOOBE, cl_IOOBE, hN.1⟩, fun z hz => absurd hz List.not_mem_nil⟩) rfl (by decide) cl_IAE ca_IAE (r_VX (As := [.int v0, .int v1, .int v2, .int v3, .int v4]) (rest := [.int 0, .ref (ad 70)]) am hst hl (hC) kRL_51 imX4_odds slX4_odds ⟨rfl, rfl⟩ ⟨Nat.le_of_ble_eq_true rfl, Nat.le_of_ble_eq_true rfl⟩ (by decide) (fun _ _ _ => cE_S) rfl rfl rfl (Nat.le_of_ble_eq_true rfl) dL_odds_11 ⟨Nat.le_of_ble_eq_true rfl, Nat.le_of_ble_eq_true rfl⟩) (fun q9 H locs hst => ?_)
  refine lv_astore (lv' := [(7, .ref q9), (0, .ref (ad 0)), (1, .int v0), (2, .int v1), (3, .int v2), (4, .int v3), (5, .int v4), (6, .ref (ad 70))]) hx hb dL_odds_22 hl (by decide) rfl (fun ls hl => ?_)
  refine lv_iconst (v := 2) hx hb dL_odds_24 (by decide) ?_
  exact e_iD hd hx hb hr hlk hst rfl rfl dL_odds_25

set_option maxHeartbeats 4000000 in
set_option maxRecDepth 100000 in
theorem v_L_chart {l : Launch} {D : va_G} {cy ad : Nat → Nat} {I : Im} {G : Dm} {J : Jm} (hadI : adI ad) {I1 : Im} {G1 : Dm} {v0 : Int32} {v1 : Int32} (hC : kD l yX4_chart (.code yX4_chart cX4_chart 3 none) rU D cy ad [.ref (ad 0), .int v0, .int v1] I G J (qV D cy ad I1 G1 J)) : nD l yL_chart (.codeWith yL_chart cL_chart 4 (some .int) [(0, 6, 9, 21)]) D cy ad [.ref (ad 0), .int v0, .int v1] I G J (qI D cy ad 0 I1 G1 J) := by
  refine start_N hadI (by decide +kernel) (Nat.le_of_ble_eq_true rfl) ?_
  intro p e s m below meth cd am hN htab hx hb hr hlk hst ls hl d0 hd
  have hl : lv_has ls 4 [(0, .ref (ad 0)), (1, .int v0), (2, .int v1)] := hl
  refine lv_aload_n hx hb dL_chart_0 rfl (lv_at hl 0 rfl) ?_
  refine lv_iload_n hx hb dL_chart_1 rfl (lv_at hl 1 rfl) ?_
  refine lv_iload_n hx hb dL_chart_2 rfl (lv_at hl 2 rfl) ?_
  refine c_vD hd hst (r_VD (As := [.int v0, .int v1]) (rest := []) am hst hl (hC) kRL_55 imX4_chart slX4_chart ⟨Nat.le_of_ble_eq_true rfl, Nat.le_of_ble_eq_true rfl⟩ (by decide) (fun _ _ _ => cE_S) rfl rfl rfl (Nat.le_of_ble_eq_true rfl) dL_chart_3 ⟨Nat.le_of_ble_eq_true rfl, Nat.le_of_ble_eq_true rfl⟩) (fun d0 H locs hd hst => ?_)
  refine lv_goto (tgt := 12) hx hb dL_chart_6 (by decide) ?_
  refine lv_iconst (v := 0) hx hb dL_chart_12 (by decide) ?_
  refine W.wide (k := 1) (n := 6) (Nat.le_of_ble_eq_true rfl) (Nat.le_of_ble_eq_true rfl) ?_
  exact e_iD hd hx hb hr hlk hst rfl rfl dL_chart_13

set_option maxHeartbeats 4000000 in
set_option maxRecDepth 100000 in
theorem v_L_chart_IAE {l : Launch} {D : va_G} {cy ad : Nat → Nat} {I : Im} {G : Dm} {J : Jm} (hadI : adI ad)  {v0 : Int32} {v1 : Int32} (hC : kX l yX4_chart (.code yX4_chart cX4_chart 3 none) rV D cy ad [.ref (ad 0), .int v0, .int v1] I G J xIAE) : nD l yL_chart (.codeWith yL_chart cL_chart 4 (some .int) [(0, 6, 9, 21)]) D cy ad [.ref (ad 0), .int v0, .int v1] I G J (qI D cy ad 1 I G J) := by
  refine start_N hadI (by decide +kernel) (Nat.le_of_ble_eq_true rfl) ?_
  intro p e s m below meth cd am hN htab hx hb hr hlk hst ls hl d0 hd
  have hl : lv_has ls 4 [(0, .ref (ad 0)), (1, .int v0), (2, .int v1)] := hl
  refine lv_aload_n hx hb dL_chart_0 rfl (lv_at hl 0 rfl) ?_
  refine lv_iload_n hx hb dL_chart_1 rfl (lv_at hl 1 rfl) ?_
  refine lv_iload_n hx hb dL_chart_2 rfl (lv_at hl 2 rfl) ?_
  refine x_catch am hst htab [] ⟨0, 6, 9, 21⟩ [] rfl (fun z hz => absurd hz List.not_mem_nil) rfl (by decide) cl_IAE ca_IAE (r_VX (As := [.int v0, .int v1]) (rest := []) am hst hl (hC) kRL_55 imX4_chart slX4_chart ⟨rfl, rfl⟩ ⟨Nat.le_of_ble_eq_true rfl, Nat.le_of_ble_eq_true rfl⟩ (by decide) (fun _ _ _ => cE_S) rfl rfl rfl (Nat.le_of_ble_eq_true rfl) dL_chart_3 ⟨Nat.le_of_ble_eq_true rfl, Nat.le_of_ble_eq_true rfl⟩) (fun q9 H locs hst => ?_)
  refine lv_astore_n (lv' := [(3, .ref q9), (0, .ref (ad 0)), (1, .int v0), (2, .int v1)]) hx hb dL_chart_9 rfl hl (by decide) rfl (fun ls hl => ?_)
  refine lv_iconst (v := 1) hx hb dL_chart_10 (by decide) ?_
  exact e_iD hd hx hb hr hlk hst rfl rfl dL_chart_11

set_option maxHeartbeats 4000000 in
set_option maxRecDepth 100000 in
theorem v_L_proof {l : Launch} {D : va_G} {cy ad : Nat → Nat} {I : Im} {G : Dm} {J : Jm} (hadI : adI ad) {I1 : Im} {G1 : Dm} {x0 : UInt64} {r : Int32} (hC : kD l yX4_proof (.code yX4_proof cX4_proof 8 (some .int)) rU D cy ad [.ref (ad 0), .double x0] I G J (qI D cy ad r I1 G1 J)) : nD l yL_proof (.codeWith yL_proof cL_proof 5 (some .int) [(0, 9, 12, 21)]) D cy ad [.ref (ad 0), .double x0, .ref (ad 70)] I G J (qI D cy ad 0 I1 G1 (u2 J 70 0 r.toInt64)) := by
  refine start_N hadI (by decide +kernel) (Nat.le_of_ble_eq_true rfl) ?_
  intro p e s m below meth cd am hN htab hx hb hr hlk hst ls hl d0 hd
  have hl : lv_has ls 5 [(0, .ref (ad 0)), (1, .double x0), (3, .ref (ad 70))] := hl
  refine lv_aload_n hx hb dL_proof_0 rfl (lv_at hl 2 rfl) ?_
  refine lv_iconst (v := 0) hx hb dL_proof_1 (by decide) ?_
  refine lv_aload_n hx hb dL_proof_2 rfl (lv_at hl 0 rfl) ?_
  refine lv_dload_n hx hb dL_proof_3 rfl (lv_at hl 1 rfl) ?_
  refine c_iD hd hst (r_VD (As := [.double x0]) (rest := [.int 0, .ref (ad 70)]) am hst hl (hC) kRL_59 imX4_proof slX4_proof ⟨Nat.le_of_ble_eq_true rfl, Nat.le_of_ble_eq_true rfl⟩ (by decide) (fun _ _ _ => cE_S) rfl rfl rfl (Nat.le_of_ble_eq_true rfl) dL_proof_4 ⟨Nat.le_of_ble_eq_true rfl, Nat.le_of_ble_eq_true rfl⟩) (fun d0 H locs hd hst => ?_)
  refine lv_i2l hx hb dL_proof_7 rfl ?_
  refine w_last am hst (by decide) (fun _ _ _ => cE_70) (n := 0) rfl (vinL (by decide)) dL_proof_8 (fun H locs hst => ?_)
  refine lv_goto (tgt := 16) hx hb dL_proof_9 (by decide) ?_
  refine lv_iconst (v := 0) hx hb dL_proof_16 (by decide) ?_
  refine W.wide (k := 1) (n := 6) (Nat.le_of_ble_eq_true rfl) (Nat.le_of_ble_eq_true rfl) ?_
  exact e_iD hd hx hb hr hlk hst rfl rfl dL_proof_17

set_option maxHeartbeats 4000000 in
set_option maxRecDepth 100000 in
theorem v_L_proof_IAE {l : Launch} {D : va_G} {cy ad : Nat → Nat} {I : Im} {G : Dm} {J : Jm} (hadI : adI ad)  {x0 : UInt64} (hC : kX l yX4_proof (.code yX4_proof cX4_proof 8 (some .int)) rV D cy ad [.ref (ad 0), .double x0] I G J xIAE) : nD l yL_proof (.codeWith yL_proof cL_proof 5 (some .int) [(0, 9, 12, 21)]) D cy ad [.ref (ad 0), .double x0, .ref (ad 70)] I G J (qI D cy ad 1 I G J) := by
  refine start_N hadI (by decide +kernel) (Nat.le_of_ble_eq_true rfl) ?_
  intro p e s m below meth cd am hN htab hx hb hr hlk hst ls hl d0 hd
  have hl : lv_has ls 5 [(0, .ref (ad 0)), (1, .double x0), (3, .ref (ad 70))] := hl
  refine lv_aload_n hx hb dL_proof_0 rfl (lv_at hl 2 rfl) ?_
  refine lv_iconst (v := 0) hx hb dL_proof_1 (by decide) ?_
  refine lv_aload_n hx hb dL_proof_2 rfl (lv_at hl 0 rfl) ?_
  refine lv_dload_n hx hb dL_proof_3 rfl (lv_at hl 1 rfl) ?_
  refine x_catch am hst htab [] ⟨0, 9, 12, 21⟩ [] rfl (fun z hz => absurd hz List.not_mem_nil) rfl (by decide) cl_IAE ca_IAE (r_VX (As := [.double x0]) (rest := [.int 0, .ref (ad 70)]) am hst hl (hC) kRL_59 imX4_proof slX4_proof ⟨rfl, rfl⟩ ⟨Nat.le_of_ble_eq_true rfl, Nat.le_of_ble_eq_true rfl⟩ (by decide) (fun _ _ _ => cE_S) rfl rfl rfl (Nat.le_of_ble_eq_true rfl) dL_proof_4 ⟨Nat.le_of_ble_eq_true rfl, Nat.le_of_ble_eq_true rfl⟩) (fun q9 H locs hst => ?_)
  refine lv_astore (lv' := [(4, .ref q9), (0, .ref (ad 0)), (1, .double x0), (3, .ref (ad 70))]) hx hb dL_proof_12 hl (by decide) rfl (fun ls hl => ?_)
  refine lv_iconst (v := 1) hx hb dL_proof_14 (by decide) ?_
  exact e_iD hd hx hb hr hlk hst rfl rfl dL_proof_15

set_option maxHeartbeats 4000000 in
set_option maxRecDepth 100000 in
theorem v_L_about {l : Launch} {D : va_G} {cy ad : Nat → Nat} {I : Im} {G : Dm} {J : Jm} (hadI : adI ad) {I1 : Im} {G1 : Dm} {v0 : Int32} {v1 : Int32} {r : Int32} (hC : kD l yX4_about (.code yX4_about cX4_about 4 (some .int)) rU D cy ad [.ref (ad 0), .int v0, .int v1] I G J (qI D cy ad r I1 G1 J)) : nD l yL_about (.codeWith yL_about cL_about 5 (some .int) [(0, 10, 13, 19)]) D cy ad [.ref (ad 0), .int v0, .int v1, .ref (ad 70)] I G J (qI D cy ad 0 I1 G1 (u2 J 70 0 r.toInt64)) := by
  refine start_N hadI (by decide +kernel) (Nat.le_of_ble_eq_true rfl) ?_
  intro p e s m below meth cd am hN htab hx hb hr hlk hst ls hl d0 hd
  have hl : lv_has ls 5 [(0, .ref (ad 0)), (1, .int v0), (2, .int v1), (3, .ref (ad 70))] := hl
  refine lv_aload_n hx hb dL_about_0 rfl (lv_at hl 3 rfl) ?_
  refine lv_iconst (v := 0) hx hb dL_about_1 (by decide) ?_
  refine lv_aload_n hx hb dL_about_2 rfl (lv_at hl 0 rfl) ?_
  refine lv_iload_n hx hb dL_about_3 rfl (lv_at hl 1 rfl) ?_
  refine lv_iload_n hx hb dL_about_4 rfl (lv_at hl 2 rfl) ?_
  refine c_iD hd hst (r_VD (As := [.int v0, .int v1]) (rest := [.int 0, .ref (ad 70)]) am hst hl (hC) kRL_63 imX4_about slX4_about ⟨Nat.le_of_ble_eq_true rfl, Nat.le_of_ble_eq_true rfl⟩ (by decide) (fun _ _ _ => cE_S) rfl rfl rfl (Nat.le_of_ble_eq_true rfl) dL_about_5 ⟨Nat.le_of_ble_eq_true rfl, Nat.le_of_ble_eq_true rfl⟩) (fun d0 H locs hd hst => ?_)
  refine lv_i2l hx hb dL_about_8 rfl ?_
  refine w_last am hst (by decide) (fun _ _ _ => cE_70) (n := 0) rfl (vinL (by decide)) dL_about_9 (fun H locs hst => ?_)
  refine lv_goto (tgt := 17) hx hb dL_about_10 (by decide) ?_
  refine lv_iconst (v := 0) hx hb dL_about_17 (by decide) ?_
  refine W.wide (k := 1) (n := 6) (Nat.le_of_ble_eq_true rfl) (Nat.le_of_ble_eq_true rfl) ?_
  exact e_iD hd hx hb hr hlk hst rfl rfl dL_about_18

set_option maxHeartbeats 4000000 in
set_option maxRecDepth 100000 in
theorem v_L_about_IOOBE {l : Launch} {D : va_G} {cy ad : Nat → Nat} {I : Im} {G : Dm} {J : Jm} (hadI : adI ad)  {v0 : Int32} {v1 : Int32} (hC : kX l yX4_about (.code yX4_about cX4_about 4 (some .int)) rV D cy ad [.ref (ad 0), .int v0, .int v1] I G J xIOOBE) : nD l yL_about (.codeWith yL_about cL_about 5 (some .int) [(0, 10, 13, 19)]) D cy ad [.ref (ad 0), .int v0, .int v1, .ref (ad 70)] I G J (qI D cy ad 1 I G J) := by
  refine start_N hadI (by decide +kernel) (Nat.le_of_ble_eq_true rfl) ?_
  intro p e s m below meth cd am hN htab hx hb hr hlk hst ls hl d0 hd
  have hl : lv_has ls 5 [(0, .ref (ad 0)), (1, .int v0), (2, .int v1), (3, .ref (ad 70))] := hl
  refine lv_aload_n hx hb dL_about_0 rfl (lv_at hl 3 rfl) ?_
  refine lv_iconst (v := 0) hx hb dL_about_1 (by decide) ?_
  refine lv_aload_n hx hb dL_about_2 rfl (lv_at hl 0 rfl) ?_
  refine lv_iload_n hx hb dL_about_3 rfl (lv_at hl 1 rfl) ?_
  refine lv_iload_n hx hb dL_about_4 rfl (lv_at hl 2 rfl) ?_
  refine x_catch am hst htab [] ⟨0, 10, 13, 19⟩ [] rfl (fun z hz => absurd hz List.not_mem_nil) rfl (by decide) cl_IOOBE ca_IOOBE (r_VX (As := [.int v0, .int v1]) (rest := [.int 0, .ref (ad 70)]) am hst hl (hC) kRL_63 imX4_about slX4_about ⟨rfl, rfl⟩ ⟨Nat.le_of_ble_eq_true rfl, Nat.le_of_ble_eq_true rfl⟩ (by decide) (fun _ _ _ => cE_S) rfl rfl rfl (Nat.le_of_ble_eq_true rfl) dL_about_5 ⟨Nat.le_of_ble_eq_true rfl, Nat.le_of_ble_eq_true rfl⟩) (fun q9 H locs hst => ?_)
  refine lv_astore (lv' := [(4, .ref q9), (0, .ref (ad 0)), (1, .int v0), (2, .int v1), (3, .ref (ad 70))]) hx hb dL_about_13 hl (by decide) rfl (fun ls hl => ?_)
  refine lv_iconst (v := 1) hx hb dL_about_15 (by decide) ?_
  exact e_iD hd hx hb hr hlk hst rfl rfl dL_about_16

set_option maxHeartbeats 4000000 in
set_option maxRecDepth 100000 in
theorem v_L_reference {l : Launch} {D : va_G} {cy ad : Nat → Nat} {I : Im} {G : Dm} {J : Jm} (hadI : adI ad) {I1 : Im} {G1 : Dm} {v0 : Int32} {x1 : UInt64} {r : Int32} (hC : kD l yX4_reference (.code yX4_reference cX4_reference 4 (some .int)) rU D cy ad [.ref (ad 0), .int v0, .double x1] I G J (qI D cy ad r I1 G1 J)) : nD l yL_reference (.codeWith yL_reference cL_reference 6 (some .int) [(0, 11, 14, 21), (0, 11, 18, 13)]) D cy ad [.ref (ad 0), .int v0, .double x1, .ref (ad 70)] I G J (qI D cy ad 0 I1 G1 (u2 J 70 0 r.toInt64)) := by
  refine start_N hadI (by decide +kernel) (Nat.le_of_ble_eq_true rfl) ?_
  intro p e s m below meth cd am hN htab hx hb hr hlk hst ls hl d0 hd
  have hl : lv_has ls 6 [(0, .ref (ad 0)), (1, .int v0), (2, .double x1), (4, .ref (ad 70))] := hl
  refine lv_aload hx hb dL_reference_0 (lv_at hl 3 rfl) ?_
  refine lv_iconst (v := 0) hx hb dL_reference_2 (by decide) ?_
  refine lv_aload_n hx hb dL_reference_3 rfl (lv_at hl 0 rfl) ?_
  refine lv_iload_n hx hb dL_reference_4 rfl (lv_at hl 1 rfl) ?_
  refine lv_dload_n hx hb dL_reference_5 rfl (lv_at hl 2 rfl) ?_
  refine c_iD hd hst (r_VD (As := [.int v0, .double x1]) (rest := [.int 0, .ref (ad 70)]) am hst hl (hC) kRL_67 imX4_reference slX4_reference ⟨Nat.le_of_ble_eq_true rfl, Nat.le_of_ble_eq_true rfl⟩ (by decide) (fun _ _ _ => cE_S) rfl rfl rfl (Nat.le_of_ble_eq_true rfl) dL_reference_6 ⟨Nat.le_of_ble_eq_true rfl, Nat.le_of_ble_eq_true rfl⟩) (fun d0 H locs hd hst => ?_)
  refine lv_i2l hx hb dL_reference_9 rfl ?_
  refine w_last am hst (by decide) (fun _ _ _ => cE_70) (n := 0) rfl (vinL (by decide)) dL_reference_10 (fun H locs hst => ?_)
  refine lv_goto (tgt := 22) hx hb dL_reference_11 (by decide) ?_
  refine lv_iconst (v := 0) hx hb dL_reference_22 (by decide) ?_
  refine W.wide (k := 1) (n := 6) (Nat.le_of_ble_eq_true rfl) (Nat.le_of_ble_eq_true rfl) ?_
  exact e_iD hd hx hb hr hlk hst rfl rfl dL_reference_23

set_option maxHeartbeats 4000000 in
set_option maxRecDepth 100000 in
theorem v_L_reference_IAE {l : Launch} {D : va_G} {cy ad : Nat → Nat} {I : Im} {G : Dm} {J : Jm} (hadI : adI ad)  {v0 : Int32} {x1 : UInt64} (hC : kX l yX4_reference (.code yX4_reference cX4_reference 4 (some .int)) rV D cy ad [.ref (ad 0), .int v0, .double x1] I G J xIAE) : nD l yL_reference (.codeWith yL_reference cL_reference 6 (some .int) [(0, 11, 14, 21), (0, 11, 18, 13)]) D cy ad [.ref (ad 0), .int v0, .double x1, .ref (ad 70)] I G J (qI D cy ad 1 I G J) := by
  refine start_N hadI (by decide +kernel) (Nat.le_of_ble_eq_true rfl) ?_
  intro p e s m below meth cd am hN htab hx hb hr hlk hst ls hl d0 hd
  have hl : lv_has ls 6 [(0, .ref (ad 0)), (1, .int v0), (2, .double x1), (4, .ref (ad 70))] := hl
  refine lv_aload hx hb dL_reference_0 (lv_at hl 3 rfl) ?_
  refine lv_iconst (v := 0) hx hb dL_reference_2 (by decide) ?_
  refine lv_aload_n hx hb dL_reference_3 rfl (lv_at hl 0 rfl) ?_
  refine lv_iload_n hx hb dL_reference_4 rfl (lv_at hl 1 rfl) ?_
  refine lv_dload_n hx hb dL_reference_5 rfl (lv_at hl 2 rfl) ?_
  refine x_catch am hst htab [] ⟨0, 11, 14, 21⟩ [⟨0, 11, 18, 13⟩] rfl (fun z hz => absurd hz List.not_mem_nil) rfl (by decide) cl_IAE ca_IAE (r_VX (As := [.int v0, .double x1]) (rest := [.int 0, .ref (ad 70)]) am hst hl (hC) kRL_67 imX4_reference slX4_reference ⟨rfl, rfl⟩ ⟨Nat.le_of_ble_eq_true rfl, Nat.le_of_ble_eq_true rfl⟩ (by decide) (fun _ _ _ => cE_S) rfl rfl rfl (Nat.le_of_ble_eq_true rfl) dL_reference_6 ⟨Nat.le_of_ble_eq_true rfl, Nat.le_of_ble_eq_true rfl⟩) (fun q9 H locs hst => ?_)
  refine lv_astore (lv' := [(5, .ref q9), (0, .ref (ad 0)), (1, .int v0), (2, .double x1), (4, .ref (ad 70))]) hx hb dL_reference_14 hl (by decide) rfl (fun ls hl => ?_)
  refine lv_iconst (v := 1) hx hb dL_reference_16 (by decide) ?_
  exact e_iD hd hx hb hr hlk hst rfl rfl dL_reference_17

set_option maxHeartbeats 4000000 in
set_option maxRecDepth 100000 in
theorem v_L_reference_ISE {l : Launch} {D : va_G} {cy ad : Nat → Nat} {I : Im} {G : Dm} {J : Jm} (hadI : adI ad)  {v0 : Int32} {x1 : UInt64} (hC : kX l yX4_reference (.code yX4_reference cX4_reference 4 (some .int)) rV D cy ad [.ref (ad 0), .int v0, .double x1] I G J xISE) : nD l yL_reference (.codeWith yL_reference cL_reference 6 (some .int) [(0, 11, 14, 21), (0, 11, 18, 13)]) D cy ad [.ref (ad 0), .int v0, .double x1, .ref (ad 70)] I G J (qI D cy ad 2 I G J) := by
  refine start_N hadI (by decide +kernel) (Nat.le_of_ble_eq_true rfl) ?_
  intro p e s m below meth cd am hN htab hx hb hr hlk hst ls hl d0 hd
  have hl : lv_has ls 6 [(0, .ref (ad 0)), (1, .int v0), (2, .double x1), (4, .ref (ad 70))] := hl
  refine lv_aload hx hb dL_reference_0 (lv_at hl 3 rfl) ?_
  refine lv_iconst (v := 0) hx hb dL_reference_2 (by decide) ?_
  refine lv_aload_n hx hb dL_reference_3 rfl (lv_at hl 0 rfl) ?_
  refine lv_iload_n hx hb dL_reference_4 rfl (lv_at hl 1 rfl) ?_
  refine lv_dload_n hx hb dL_reference_5 rfl (lv_at hl 2 rfl) ?_
  refine x_catch am hst htab [⟨0, 11, 14, 21⟩] ⟨0, 11, 18, 13⟩ [] rfl (List.forall_mem_cons.mpr ⟨⟨by decide, xIAE, cl_IAE, hN.2.2⟩, fun z hz => absurd hz List.not_mem_nil⟩) rfl (by decide) cl_ISE ca_ISE (r_VX (As := [.int v0, .double x1]) (rest := [.int 0, .ref (ad 70)]) am hst hl (hC) kRL_67 imX4_reference slX4_reference ⟨rfl, rfl⟩ ⟨Nat.le_of_ble_eq_true rfl, Nat.le_of_ble_eq_true rfl⟩ (by decide) (fun _ _ _ => cE_S) rfl rfl rfl (Nat.le_of_ble_eq_true rfl) dL_reference_6 ⟨Nat.le_of_ble_eq_true rfl, Nat.le_of_ble_eq_true rfl⟩) (fun q9 H locs hst => ?_)
  refine lv_astore (lv' := [(5, .ref q9), (0, .ref (ad 0)), (1, .int v0), (2, .double x1), (4, .ref (ad 70))]) hx hb dL_reference_18 hl (by decide) rfl (fun ls hl => ?_)
  refine lv_iconst (v := 2) hx hb dL_reference_20 (by decide) ?_
  exact e_iD hd hx hb hr hlk hst rfl rfl dL_reference_21

set_option maxHeartbeats 4000000 in
set_option maxRecDepth 100000 in
theorem v_L_drift {l : Launch} {D : va_G} {cy ad : Nat → Nat} {I : Im} {G : Dm} {J : Jm} (hadI : adI ad) {I1 : Im} {G1 : Dm} {v0 : Int32} {r : UInt64} (hC : kD l yX4_drift (.code yX4_drift cX4_drift 2 (some .double)) rU D cy ad [.ref (ad 0), .int v0] I G J (qD D cy ad r I1 G1 J)) : nD l yL_drift (.codeWith yL_drift cL_drift 4 (some .int) [(0, 8, 11, 21)]) D cy ad [.ref (ad 0), .int v0, .ref (ad 71)] I G J (qI D cy ad 0 I1 (u2 G1 71 0 r) J) := by
  refine start_N hadI (by decide +kernel) (Nat.le_of_ble_eq_true rfl) ?_
  intro p e s m below meth cd am hN htab hx hb hr hlk hst ls hl d0 hd
  have hl : lv_has ls 4 [(0, .ref (ad 0)), (1, .int v0), (2, .ref (ad 71))] := hl
  refine lv_aload_n hx hb dL_drift_0 rfl (lv_at hl 2 rfl) ?_
  refine lv_iconst (v := 0) hx hb dL_drift_1 (by decide) ?_
  refine lv_aload_n hx hb dL_drift_2 rfl (lv_at hl 0 rfl) ?_
  refine lv_iload_n hx hb dL_drift_3 rfl (lv_at hl 1 rfl) ?_
  refine c_dD hd hst (r_VD (As := [.int v0]) (rest := [.int 0, .ref (ad 71)]) am hst hl (hC) kRL_70 imX4_drift slX4_drift ⟨Nat.le_of_ble_eq_true rfl, Nat.le_of_ble_eq_true rfl⟩ (by decide) (fun _ _ _ => cE_S) rfl rfl rfl (Nat.le_of_ble_eq_true rfl) dL_drift_4 ⟨Nat.le_of_ble_eq_true rfl, Nat.le_of_ble_eq_true rfl⟩) (fun x1 d0 H locs hx1 hd hst => ?_)
  refine w_dast am hst hx1 (by decide) (fun _ _ _ => cE_71) (n := 0) rfl (vinL (by decide)) dL_drift_7 (fun H locs hst => ?_)
  refine lv_goto (tgt := 14) hx hb dL_drift_8 (by decide) ?_
  refine lv_iconst (v := 0) hx hb dL_drift_14 (by decide) ?_
  refine W.wide (k := 1) (n := 6) (Nat.le_of_ble_eq_true rfl) (Nat.le_of_ble_eq_true rfl) ?_
  exact e_iD hd hx hb hr hlk hst rfl rfl dL_drift_15

set_option maxHeartbeats 4000000 in
set_option maxRecDepth 100000 in
theorem v_L_drift_IAE {l : Launch} {D : va_G} {cy ad : Nat → Nat} {I : Im} {G : Dm} {J : Jm} (hadI : adI ad)  {v0 : Int32} (hC : kX l yX4_drift (.code yX4_drift cX4_drift 2 (some .double)) rV D cy ad [.ref (ad 0), .int v0] I G J xIAE) : nD l yL_drift (.codeWith yL_drift cL_drift 4 (some .int) [(0, 8, 11, 21)]) D cy ad [.ref (ad 0), .int v0, .ref (ad 71)] I G J (qI D cy ad 1 I G J) := by
  refine start_N hadI (by decide +kernel) (Nat.le_of_ble_eq_true rfl) ?_
  intro p e s m below meth cd am hN htab hx hb hr hlk hst ls hl d0 hd
  have hl : lv_has ls 4 [(0, .ref (ad 0)), (1, .int v0), (2, .ref (ad 71))] := hl
  refine lv_aload_n hx hb dL_drift_0 rfl (lv_at hl 2 rfl) ?_
  refine lv_iconst (v := 0) hx hb dL_drift_1 (by decide) ?_
  refine lv_aload_n hx hb dL_drift_2 rfl (lv_at hl 0 rfl) ?_
  refine lv_iload_n hx hb dL_drift_3 rfl (lv_at hl 1 rfl) ?_
  refine x_catch am hst htab [] ⟨0, 8, 11, 21⟩ [] rfl (fun z hz => absurd hz List.not_mem_nil) rfl (by decide) cl_IAE ca_IAE (r_VX (As := [.int v0]) (rest := [.int 0, .ref (ad 71)]) am hst hl (hC) kRL_70 imX4_drift slX4_drift ⟨rfl, rfl⟩ ⟨Nat.le_of_ble_eq_true rfl, Nat.le_of_ble_eq_true rfl⟩ (by decide) (fun _ _ _ => cE_S) rfl rfl rfl (Nat.le_of_ble_eq_true rfl) dL_drift_4 ⟨Nat.le_of_ble_eq_true rfl, Nat.le_of_ble_eq_true rfl⟩) (fun q9 H locs hst => ?_)
  refine lv_astore_n (lv' := [(3, .ref q9), (0, .ref (ad 0)), (1, .int v0), (2, .ref (ad 71))]) hx hb dL_drift_11 rfl hl (by decide) rfl (fun ls hl => ?_)
  refine lv_iconst (v := 1) hx hb dL_drift_12 (by decide) ?_
  exact e_iD hd hx hb hr hlk hst rfl rfl dL_drift_13

set_option maxHeartbeats 4000000 in
set_option maxRecDepth 100000 in
theorem v_L_drawn {l : Launch} {D : va_G} {cy ad : Nat → Nat} {I : Im} {G : Dm} {J : Jm} (hadI : adI ad) {I1 : Im} {G1 : Dm} {v0 : Int32} {r : UInt64} (hC : kD l yX4_drawn (.code yX4_drawn cX4_drawn 4 (some .double)) rU D cy ad [.ref (ad 0), .int v0] I G J (qD D cy ad r I1 G1 J)) : nD l yL_drawn (.codeWith yL_drawn cL_drawn 4 (some .int) [(0, 8, 11, 21)]) D cy ad [.ref (ad 0), .int v0, .ref (ad 71)] I G J (qI D cy ad 0 I1 (u2 G1 71 0 r) J) := by
  refine start_N hadI (by decide +kernel) (Nat.le_of_ble_eq_true rfl) ?_
  intro p e s m below meth cd am hN htab hx hb hr hlk hst ls hl d0 hd
  have hl : lv_has ls 4 [(0, .ref (ad 0)), (1, .int v0), (2, .ref (ad 71))] := hl
  refine lv_aload_n hx hb dL_drawn_0 rfl (lv_at hl 2 rfl) ?_
  refine lv_iconst (v := 0) hx hb dL_drawn_1 (by decide) ?_
  refine lv_aload_n hx hb dL_drawn_2 rfl (lv_at hl 0 rfl) ?_
  refine lv_iload_n hx hb dL_drawn_3 rfl (lv_at hl 1 rfl) ?_
  refine c_dD hd hst (r_VD (As := [.int v0]) (rest := [.int 0, .ref (ad 71)]) am hst hl (hC) kRL_73 imX4_drawn slX4_drawn ⟨Nat.le_of_ble_eq_true rfl, Nat.le_of_ble_eq_true rfl⟩ (by decide) (fun _ _ _ => cE_S) rfl rfl rfl (Nat.le_of_ble_eq_true rfl) dL_drawn_4 ⟨Nat.le_of_ble_eq_true rfl, Nat.le_of_ble_eq_true rfl⟩) (fun x1 d0 H locs hx1 hd hst => ?_)
  refine w_dast am hst hx1 (by decide) (fun _ _ _ => cE_71) (n := 0) rfl (vinL (by decide)) dL_drawn_7 (fun H locs hst => ?_)
  refine lv_goto (tgt := 14) hx hb dL_drawn_8 (by decide) ?_
  refine lv_iconst (v := 0) hx hb dL_drawn_14 (by decide) ?_
  refine W.wide (k := 1) (n := 6) (Nat.le_of_ble_eq_true rfl) (Nat.le_of_ble_eq_true rfl) ?_
  exact e_iD hd hx hb hr hlk hst rfl rfl dL_drawn_15

set_option maxHeartbeats 4000000 in
set_option maxRecDepth 100000 in
theorem v_L_drawn_IAE {l : Launch} {D : va_G} {cy ad : Nat → Nat} {I : Im} {G : Dm} {J : Jm} (hadI : adI ad)  {v0 : Int32} (hC : kX l yX4_drawn (.code yX4_drawn cX4_drawn 4 (some .double)) rV D cy ad [.ref (ad 0), .int v0] I G J xIAE) : nD l yL_drawn (.codeWith yL_drawn cL_drawn 4 (some .int) [(0, 8, 11, 21)]) D cy ad [.ref (ad 0), .int v0, .ref (ad 71)] I G J (qI D cy ad 1 I G J) := by
  refine start_N hadI (by decide +kernel) (Nat.le_of_ble_eq_true rfl) ?_
  intro p e s m below meth cd am hN htab hx hb hr hlk hst ls hl d0 hd
  have hl : lv_has ls 4 [(0, .ref (ad 0)), (1, .int v0), (2, .ref (ad 71))] := hl
  refine lv_aload_n hx hb dL_drawn_0 rfl (lv_at hl 2 rfl) ?_
  refine lv_iconst (v := 0) hx hb dL_drawn_1 (by decide) ?_
  refine lv_aload_n hx hb dL_drawn_2 rfl (lv_at hl 0 rfl) ?_
  refine lv_iload_n hx hb dL_drawn_3 rfl (lv_at hl 1 rfl) ?_
  refine x_catch am hst htab [] ⟨0, 8, 11, 21⟩ [] rfl (fun z hz => absurd hz List.not_mem_nil) rfl (by decide) cl_IAE ca_IAE (r_VX (As := [.int v0]) (rest := [.int 0, .ref (ad 71)]) am hst hl (hC) kRL_73 imX4_drawn slX4_drawn ⟨rfl, rfl⟩ ⟨Nat.le_of_ble_eq_true rfl, Nat.le_of_ble_eq_true rfl⟩ (by decide) (fun _ _ _ => cE_S) rfl rfl rfl (Nat.le_of_ble_eq_true rfl) dL_drawn_4 ⟨Nat.le_of_ble_eq_true rfl, Nat.le_of_ble_eq_true rfl⟩) (fun q9 H locs hst => ?_)
  refine lv_astore_n (lv' := [(3, .ref q9), (0, .ref (ad 0)), (1, .int v0), (2, .ref (ad 71))]) hx hb dL_drawn_11 rfl hl (by decide) rfl (fun ls hl => ?_)
  refine lv_iconst (v := 1) hx hb dL_drawn_12 (by decide) ?_
  exact e_iD hd hx hb hr hlk hst rfl rfl dL_drawn_13

