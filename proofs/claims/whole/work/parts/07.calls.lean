/-! contracts over the fixed world, their starts and ends, and calls by them -/
theorem inT0 : ∀ w ∈ u_ws RX0 TX0 8, w ∈ tT := by decide +kernel
theorem inT1 : ∀ w ∈ u_ws RX1 TX1 4, w ∈ tT := by decide +kernel
theorem inT2 : ∀ w ∈ u_ws RX2 TX2 3, w ∈ tT := by decide +kernel
theorem inT3 : ∀ w ∈ u_ws RX3 TX3 4, w ∈ tT := by decide +kernel
theorem inT4 : ∀ w ∈ u_ws RX4 TX4 8, w ∈ tT := by decide +kernel
theorem inT5 : ∀ w ∈ u_ws RX5 TX5 24, w ∈ tT := by decide +kernel
abbrev rmK (fr mc ms lo : Nat) : Room := { frames := fr, cells := mc, slots := ms, locals := lo }
abbrev QcT : Type := Array Value → State → Outcome → State → Prop
/-- what a method answers, and the memory behind it -/
abbrev qI (D : va_G) (cy ad : Nat → Nat) (r : Int32) (I : Im) (G : Dm) (J : Jm) (sz : Nat) : QcT := va_Qi (fun x (_ : Unit) => x = r) (fun _ t => hW D cy ad I G J t.heap) (aA ad sz)
abbrev qL (D : va_G) (cy ad : Nat → Nat) (r : Int64) (I : Im) (G : Dm) (J : Jm) (sz : Nat) : QcT := va_Ql (fun x (_ : Unit) => x = r) (fun _ t => hW D cy ad I G J t.heap) (aA ad sz)
abbrev qD (D : va_G) (cy ad : Nat → Nat) (r : UInt64) (I : Im) (G : Dm) (J : Jm) (sz : Nat) : QcT := va_Qd (fun x (_ : Unit) => cn x = r) (fun _ t => hW D cy ad I G J t.heap) (aA ad sz)
abbrev qV (D : va_G) (cy ad : Nat → Nat) (I : Im) (G : Dm) (J : Jm) (sz : Nat) : QcT := va_Qv (fun (_ : Unit) => True) (fun _ t => hW D cy ad I G J t.heap) (aA ad sz)
abbrev qR (D : va_G) (cy ad : Nat → Nat) (k : Nat) (I : Im) (G : Dm) (J : Jm) (sz : Nat) : QcT := va_Qr (fun (_ : Unit) => True) (fun _ a t => a = ad k ∧ hW D cy ad I G J t.heap) (aA ad sz)
/-- .. and what it throws -/
abbrev qX (D : va_G) (cy ad : Nat → Nat) (E : String) (I : Im) (G : Dm) (J : Jm) (sz : Nat) : String → State → State → Prop := vx_X (fun (_ : Unit) => True) (fun E' _ t => E' = E ∧ hW D cy ad I G J t.heap) (aA ad sz)
abbrev kM (l : Launch) (y : MethodName) (w : Cond) (rm : Room) (D : va_G) (cy ad : Nat → Nat) (av : List Value) (I : Im) (G : Dm) (J : Jm) (Qc : Nat → QcT) : Prop :=
  ∀ sz, Met l y [w] rm (va_Pc av (preW D cy ad sz I G J)) (Qc sz) rm.cells rm.slots (aA ad sz)
abbrev kD (l : Launch) (y : MethodName) (w : Cond) (rm : Room) (D : va_G) (cy ad : Nat → Nat) (av : List Value) (I : Im) (G : Dm) (J : Jm) (Qc : Nat → QcT) : Prop :=
  ∀ sz, MetD lw_cs l y [w] rm (va_Pc av (preW D cy ad sz I G J)) (Qc sz) rm.cells rm.slots (aA ad sz)
abbrev kX (l : Launch) (y : MethodName) (w : Cond) (rm : Room) (D : va_G) (cy ad : Nat → Nat) (av : List Value) (I : Im) (G : Dm) (J : Jm) (E : String) : Prop :=
  ∀ sz, vx_Met l y [w] rm (va_Pc av (preW D cy ad sz I G J)) (fun _ _ _ _ => False) (qX D cy ad E I G J sz) 1 6 (aA ad sz)
section
variable {l : Launch} {y : MethodName} {D : va_G} {cy ad : Nat → Nat} {av : List Value} {I : Im} {G : Dm} {J : Jm} {Qc : Nat → QcT} {cc : ByteArray} {nL : Nat} {ret : Option FieldType} {rm : Room} {E : String} {hh : List (Nat × Nat × Nat × Nat)}
theorem start_M (hadI : adI ad) (hy : plainName y.cls = true) (hn : (lg_sl av).length ≤ nL)
    (body : ∀ (p : Program) (e : Env) (s : State) (m : MethodId) (below : List Frame) (meth : Method) (c : Code), Amb p s m av.toArray c cc nL y.cls D cy ad → p.tables.exec = Jvm.exec → c.code = cc → meth.sig.returnType = ret → meth.locks = false → St D cy ad s.heap I G J s.heap [] → ∀ ls, lv_has ls nL (lv_args 0 av) →
      W p l e rm (s.setDrawn s.drawn) m av.toArray below meth c s.heap [] 0 0 (MQ below (Qc s.heap.size) av.toArray s rm.cells rm.slots (aA ad s.heap.size)) (F0 m 0 ls [])) :
    kM l y (.code y cc nL ret) rm D cy ad av I G J Qc := by
  intro sz
  refine Met.ofW (cc := cc) (maxL := nL) (ret := ret) hy rfl ?_
  intro p e s m args below meth c s₁ B hml hv
  obtain ⟨rfl, hsz, hmem, hK, hT, hStr, hZ⟩ := hv
  subst hsz
  have hl := lv_entry av (n := nL) hn
  rw [lg_entry_eq]
  exact body p e s m below meth c ⟨B.exec, B.bytes, hml, findClass_of_methodNamed B.named, tT_at (State.WarmedH.refl s) hT, hK, hadI, hStr, hZ⟩ B.exec B.bytes B.returns B.notSynchronized ⟨hmem, va_S.rf⟩ _ hl
theorem start_D (hadI : adI ad) (hy : plainName y.cls = true) (hn : (lg_sl av).length ≤ nL)
    (body : ∀ (p : Program) (e : Env) (s : State) (m : MethodId) (below : List Frame) (meth : Method) (c : Code), Amb p s m av.toArray c cc nL y.cls D cy ad → p.tables.exec = Jvm.exec → c.code = cc → meth.sig.returnType = ret → meth.locks = false → St D cy ad s.heap I G J s.heap [] → ∀ ls, lv_has ls nL (lv_args 0 av) → ∀ d0, s.drawn.sameBut d0 lw_cs →
      W p l e rm (s.setDrawn d0) m av.toArray below meth c s.heap [] 0 0 (MQD lw_cs below (Qc s.heap.size) av.toArray s rm.cells rm.slots (aA ad s.heap.size)) (F0 m 0 ls [])) :
    kD l y (.code y cc nL ret) rm D cy ad av I G J Qc := by
  intro sz
  refine MetD.ofW (cc := cc) (maxL := nL) (ret := ret) hy rfl ?_
  intro p e s m args below meth c s₁ B hml hv hd0
  obtain ⟨rfl, hsz, hmem, hK, hT, hStr, hZ⟩ := hv
  subst hsz
  have hl := lv_entry av (n := nL) hn
  rw [lg_entry_eq]
  exact body p e s m below meth c ⟨B.exec, B.bytes, hml, findClass_of_methodNamed B.named, tT_at (State.WarmedH.refl s) hT, hK, hadI, hStr, hZ⟩ B.exec B.bytes B.returns B.notSynchronized ⟨hmem, va_S.rf⟩ _ hl _ hd0
theorem start_X (hadI : adI ad) (hy : plainName y.cls = true) (hn : (lg_sl av).length ≤ nL)
    (body : ∀ (p : Program) (e : Env) (s : State) (m : MethodId) (below : List Frame) (meth : Method) (c : Code), Amb p s m av.toArray c cc nL y.cls D cy ad → p.tables.exec = Jvm.exec → c.code = cc → (∀ x ∈ c.exceptionTable.toList, False) → meth.locks = false → St D cy ad s.heap I G J s.heap [] → ∀ ls, lv_has ls nL (lv_args 0 av) →
      W p l e rm (s.setDrawn s.drawn) m av.toArray below meth c s.heap [] 0 0 (vx_MQ below (fun _ _ _ _ => False) (qX D cy ad E I G J s.heap.size) av.toArray s 1 6 (aA ad s.heap.size)) (F0 m 0 ls [])) :
    kX l y (.code y cc nL ret) rm D cy ad av I G J E := by
  intro sz
  refine vx_ofW (cc := cc) (maxL := nL) (ret := ret) hy rfl ?_
  intro p e s m args below meth c s₁ B hml hout hv
  obtain ⟨rfl, hsz, hmem, hK, hT, hStr, hZ⟩ := hv
  subst hsz
  have hl := lv_entry av (n := nL) hn
  rw [lg_entry_eq]
  exact body p e s m below meth c ⟨B.exec, B.bytes, hml, findClass_of_methodNamed B.named, tT_at (State.WarmedH.refl s) hT, hK, hadI, hStr, hZ⟩ B.exec B.bytes hout B.notSynchronized ⟨hmem, va_S.rf⟩ _ hl
end
/-! ends -/
theorem hW_at {D : va_G} {cy ad : Nat → Nat} {I : Im} {G : Dm} {J : Jm} {t : State} {H : Heap} (h : hW D cy ad I G J H) (ht : t.heap = H) : hW D cy ad I G J t.heap := by rw [ht]; exact h
section
variable {p : Program} {l : Launch} {e : Env} {R : Room} {s : State} {m : MethodId} {args : Array Value} {below : List Frame} {meth : Method} {c : Code} {H : Heap} {locs : List Loc} {cells slots : Nat} {Q : State → Prop}
variable {cc : ByteArray} {nL : Nat} {own : String} {D : va_G} {cy : Nat → ClassId} {ad : Nat → Nat} {I : Im} {G : Dm} {J : Jm} {d0 : Drawn} {pc : Nat} {ls : Array Slot} {rest : List Value}
theorem e_i (hx : p.tables.exec = Jvm.exec) (hb : c.code = cc) {ty : FieldType} (hr : meth.sig.returnType = some ty) (hlk : meth.locks = false) (hst : St D cy ad s.heap I G J H locs) {r v : Int32} (hn : narrow ty (.int v) = .int v) (hv : v = r) (hdg : decode cc pc = .ok (.ireturn, 1)) :
    W p l e R (s.setDrawn s.drawn) m args below meth c H locs cells slots (MQ below (qI D cy ad r I G J s.heap.size) args s cells slots (aA ad s.heap.size)) (F0 m pc ls [.int v]) :=
  W.zret (s := s) hx hb hr hn (fun t ht _ => ⟨⟨v, (), rfl, hv, hW_at hst.1 ht⟩, hst.2.F ht⟩) hst.2.2.2 hdg hlk
theorem e_l (hx : p.tables.exec = Jvm.exec) (hb : c.code = cc) (hr : meth.sig.returnType = some .long) (hlk : meth.locks = false) (hst : St D cy ad s.heap I G J H locs) {r v : Int64} (hv : v = r) (hdg : decode cc pc = .ok (.lreturn, 1)) :
    W p l e R (s.setDrawn s.drawn) m args below meth c H locs cells slots (MQ below (qL D cy ad r I G J s.heap.size) args s cells slots (aA ad s.heap.size)) (F0 m pc ls [.long v]) :=
  W.lret (s := s) hx hb hr (fun t ht _ => ⟨⟨v, (), rfl, hv, hW_at hst.1 ht⟩, hst.2.F ht⟩) hst.2.2.2 hdg hlk
theorem e_d (hx : p.tables.exec = Jvm.exec) (hb : c.code = cc) (hr : meth.sig.returnType = some .double) (hlk : meth.locks = false) (hst : St D cy ad s.heap I G J H locs) {r v : UInt64} (hv : cn v = r) (hdg : decode cc pc = .ok (.dreturn, 1)) :
    W p l e R (s.setDrawn s.drawn) m args below meth c H locs cells slots (MQ below (qD D cy ad r I G J s.heap.size) args s cells slots (aA ad s.heap.size)) (F0 m pc ls [.double v]) :=
  W.dret (s := s) hx hb hr (fun t ht _ => ⟨⟨v, (), rfl, hv, hW_at hst.1 ht⟩, hst.2.F ht⟩) hst.2.2.2 hdg hlk
theorem e_v (hx : p.tables.exec = Jvm.exec) (hb : c.code = cc) (hr : meth.sig.returnType = none) (hlk : meth.locks = false) (hst : St D cy ad s.heap I G J H locs) (hdg : decode cc pc = .ok (.return_, 1)) :
    W p l e R (s.setDrawn s.drawn) m args below meth c H locs cells slots (MQ below (qV D cy ad I G J s.heap.size) args s cells slots (aA ad s.heap.size)) (F0 m pc ls []) :=
  W.vret (s := s) hx hb hr (fun t ht _ => ⟨⟨(), rfl, trivial, hW_at hst.1 ht⟩, hst.2.F ht⟩) hst.2.2.2 hdg hlk
theorem e_r (hx : p.tables.exec = Jvm.exec) (hb : c.code = cc) {C : String} (hr : meth.sig.returnType = some (.object C)) (hlk : meth.locks = false) (hst : St D cy ad s.heap I G J H locs) {k : Nat} (hdg : decode cc pc = .ok (.areturn, 1)) :
    W p l e R (s.setDrawn s.drawn) m args below meth c H locs cells slots (MQ below (qR D cy ad k I G J s.heap.size) args s cells slots (aA ad s.heap.size)) (F0 m pc ls [.ref (ad k)]) :=
  W.aret (s := s) hx hb hr (Or.inl ⟨_, rfl⟩) (Or.inr ⟨_, rfl⟩) (fun t ht _ => ⟨⟨(), ad k, rfl, trivial, rfl, hW_at hst.1 ht⟩, hst.2.F ht⟩) hst.2.2.2 hdg hlk
theorem e_iD (hd : s.drawn.sameBut d0 lw_cs) (hx : p.tables.exec = Jvm.exec) (hb : c.code = cc) {ty : FieldType} (hr : meth.sig.returnType = some ty) (hlk : meth.locks = false) (hst : St D cy ad s.heap I G J H locs) {r v : Int32} (hn : narrow ty (.int v) = .int v) (hv : v = r) (hdg : decode cc pc = .ok (.ireturn, 1)) :
    W p l e R (s.setDrawn d0) m args below meth c H locs cells slots (MQD lw_cs below (qI D cy ad r I G J s.heap.size) args s cells slots (aA ad s.heap.size)) (F0 m pc ls [.int v]) :=
  W.endD hd (W.zret (s := s.setDrawn d0) hx hb hr hn (fun t ht _ => ⟨⟨v, (), rfl, hv, hW_at hst.1 ht⟩, hst.2.F (s := s.setDrawn d0) ht⟩) hst.2.2.2 hdg hlk)
theorem e_dD (hd : s.drawn.sameBut d0 lw_cs) (hx : p.tables.exec = Jvm.exec) (hb : c.code = cc) (hr : meth.sig.returnType = some .double) (hlk : meth.locks = false) (hst : St D cy ad s.heap I G J H locs) {r v : UInt64} (hv : cn v = r) (hdg : decode cc pc = .ok (.dreturn, 1)) :
    W p l e R (s.setDrawn d0) m args below meth c H locs cells slots (MQD lw_cs below (qD D cy ad r I G J s.heap.size) args s cells slots (aA ad s.heap.size)) (F0 m pc ls [.double v]) :=
  W.endD hd (W.dret (s := s.setDrawn d0) hx hb hr (fun t ht _ => ⟨⟨v, (), rfl, hv, hW_at hst.1 ht⟩, hst.2.F (s := s.setDrawn d0) ht⟩) hst.2.2.2 hdg hlk)
theorem e_vD (hd : s.drawn.sameBut d0 lw_cs) (hx : p.tables.exec = Jvm.exec) (hb : c.code = cc) (hr : meth.sig.returnType = none) (hlk : meth.locks = false) (hst : St D cy ad s.heap I G J H locs) (hdg : decode cc pc = .ok (.return_, 1)) :
    W p l e R (s.setDrawn d0) m args below meth c H locs cells slots (MQD lw_cs below (qV D cy ad I G J s.heap.size) args s cells slots (aA ad s.heap.size)) (F0 m pc ls []) :=
  W.endD hd (W.vret (s := s.setDrawn d0) hx hb hr (fun t ht _ => ⟨⟨(), rfl, trivial, hW_at hst.1 ht⟩, hst.2.F (s := s.setDrawn d0) ht⟩) hst.2.2.2 hdg hlk)
end
/-! calls: the words of a call, and the runs -/
def cwK (w : Cond) (own : String) (index : Nat) (y : MethodName) (n : Nat) : Prop :=
  w ∈ tT ∧ Cond.methodLink own index y ∈ tT ∧ Cond.initialized y.cls ∈ tT ∧ (y.cls ≠ "java/lang/invoke/MethodHandle" ∧ y.cls ≠ "java/lang/invoke/VarHandle") ∧ (parseMethodDescriptor y.desc).map (fun d => d.parameters.length) = some n
def cwN (w : Cond) (own : String) (index : Nat) (y : MethodName) (host : String) (n : Nat) : Prop :=
  w ∈ tT ∧ Cond.methodLinkNest own index y host ∈ tT ∧ Cond.initialized y.cls ∈ tT ∧ (y.cls ≠ "java/lang/invoke/MethodHandle" ∧ y.cls ≠ "java/lang/invoke/VarHandle") ∧ (parseMethodDescriptor y.desc).map (fun d => d.parameters.length) = some n
theorem fb_preW {D : va_G} {cy ad : Nat → Nat} {sz : Nat} {I : Im} {G : Dm} {J : Jm} {av : List Value} : FrameBlind (va_Pc av (preW D cy ad sz I G J)) := by
  intro a U g mk h
  obtain ⟨h1, h2, h3, h4, h5, h6, h7⟩ := h
  have hW : U.WarmedH (U.calling g mk a).vm := State.WarmedH.refl U
  exact ⟨h1, h2, h3, va_K.moved hW.alike h4, tT_at hW h5, fun q hq => (h6 q hq).elim fun b hb => ⟨b, vk_R.warm hW hb⟩, h7.moved hW.alike⟩
section
variable {p : Program} {l : Launch} {e : Env} {R : Room} {s : State} {m : MethodId} {args : Array Value} {below : List Frame} {meth : Method} {c : Code} {H : Heap} {locs : List Loc} {cells slots : Nat} {Q : State → Prop}
variable {cc : ByteArray} {nL : Nat} {own : String} {D : va_G} {cy : Nat → ClassId} {ad : Nat → Nat} {I : Im} {G : Dm} {J : Jm} {d0 : Drawn} {pc : Nat} {ls : Array Slot} {rest : List Value}
theorem preW_of (am : Amb p s m args c cc nL own D cy ad) (hst : St D cy ad s.heap I G J H locs) {U : State} (hU : U.heap = H) (hW : (s.setDrawn d0).WarmedH U.vm) : preW D cy ad H.size I G J U := by
  obtain ⟨hx, hb, hml, hown, hts, hK, hadI, hStr, hZ⟩ := am
  have hW' : s.WarmedH U.vm := hW
  refine ⟨by rw [hU], by rw [hU]; exact hst.1, va_K.moved hW'.alike hK, tT_at hW' hts, fun q hq => (hStr q hq).elim fun b hb => ⟨b, vk_R.warm hW' hb⟩, ?_⟩
  rw [hU]
  exact ((hZ.kept hst.2.2.1).narrow (fun q h => aA_le hst.2.1 h)).moved hW'.alike
theorem fixK (am : Amb p s m args c cc nL own D cy ad) : CallFix p m c cc nL (s.setDrawn d0) args tT own := ⟨am.1, am.2.1, am.2.2.1, am.2.2.2.1, amT am⟩
theorem wsK {w : Cond} (am : Amb p s m args c cc nL own D cy ad) (hw : w ∈ tT) : ∀ w' ∈ [w], ∀ (a' : Array Value) (U : State), (s.setDrawn d0).WarmedH U.vm → w'.before a' U = true := by
  intro w' h a' U hW
  rw [List.mem_singleton.mp h]
  exact okW_at hW (List.mem_filter.mp hw).2 (amT am w hw)
theorem recvK (am : Amb p s m args c cc nL own D cy ad) (hst : St D cy ad s.heap I G J H locs) {cell ci : Nat} {C : String} {T : u_T} {N : Nat} (hc : cell < 72) {fs : (Nat → Int32) → (Nat → UInt64) → (Nat → Int64) → List Value} (hE : ∀ i f j, cE cy ad cell i f j = .inr (ci, fs i f j)) (hcl : vwCl[ci]? = some (C, T, N)) :
    ∃ cellB : Cell, H[ad cell]? = some cellB ∧ cellB.vm.isStatics = false ∧ (s.setDrawn d0).vm.findClass C = some cellB.cls := by
  obtain ⟨⟨F, hF, hP⟩, hS⟩ := hst
  exact va_recv (amK (d0 := d0) am) hP hcl (wat' hc (hE _ _ _))
theorem lenK {y : MethodName} {n : Nat} (h : (parseMethodDescriptor y.desc).map (fun d => d.parameters.length) = some n) : ∀ sig, parseMethodDescriptor y.desc = some sig → n = sig.parameters.length := by
  intro sig hs
  rw [hs] at h
  exact (Option.some.inj h).symm
variable {y : MethodName} {bytes : ByteArray} {maxL n index cell ci : Nat} {ret : Option FieldType} {rm : Room} {Qc : Nat → QcT} {C host : String} {T : u_T} {N : Nat} {As : List Value} {fs : (Nat → Int32) → (Nat → UInt64) → (Nat → Int64) → List Value} {st0 : List Value} {I' : Im} {G' : Dm} {J' : Jm} {E : String} {hh : List (Nat × Nat × Nat × Nat)}
theorem callBK (am : Amb p s m args c cc nL own D cy ad) (kw : cwK (.code y bytes maxL ret) own index y n) (hR : rm.frames + 1 ≤ R.frames ∧ 8 + (maxL + 11) + rm.locals ≤ R.locals) : CallB R (s.setDrawn d0) args own index y bytes maxL ret [.code y bytes maxL ret] rm rm.cells rm.slots n :=
  ⟨rfl, rfl, hR.1, hR.2, wsK am kw.1, List.mem_cons_self, amT am _ kw.1, amT am _ kw.2.2.1, kw.2.2.2.1, lenK kw.2.2.2.2, amT am _ kw.2.1⟩
theorem callNK (am : Amb p s m args c cc nL own D cy ad) (kw : cwN (.code y bytes maxL ret) own index y host n) (hR : rm.frames + 1 ≤ R.frames ∧ 8 + (maxL + 11) + rm.locals ≤ R.locals) : va_CN R (s.setDrawn d0) args own index y host bytes maxL ret [.code y bytes maxL ret] rm rm.cells rm.slots n :=
  ⟨⟨rfl, rfl, hR.1, hR.2, wsK am kw.1, List.mem_cons_self⟩, amT am _ kw.1, amT am _ kw.2.2.1, kw.2.2.2.1, lenK kw.2.2.2.2, amT am _ kw.2.1⟩
end
