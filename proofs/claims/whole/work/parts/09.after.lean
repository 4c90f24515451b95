/-! behind a call: the memory is the callee's -/
section
variable {p : Program} {l : Launch} {e : Env} {R : Room} {s : State} {m : MethodId} {args : Array Value} {below : List Frame} {meth : Method} {c : Code} {H : Heap} {locs : List Loc} {cells slots mc ms : Nat} {Q : State → Prop}
variable {cc : ByteArray} {nL : Nat} {own : String} {D : va_G} {cy : Nat → ClassId} {ad : Nat → Nat} {I : Im} {G : Dm} {J : Jm} {d0 : Drawn} {pc : Nat} {ls : Array Slot} {rest st0 : List Value} {a : Array Value} {I' : Im} {G' : Dm} {J' : Jm} {E : String}
theorem c_i (hst : St D cy ad s.heap I G J H locs) {r : Int32} (hr : va_Run p l e R (s.setDrawn d0) m args below meth c H locs cells slots mc ms (F0 m pc ls st0) rest (qI D cy ad r I' G' J' H.size a) (aA ad H.size))
    (kk : ∀ (H1 : Heap) (locs1 : List Loc), St D cy ad s.heap I' G' J' H1 locs1 → W p l e R (s.setDrawn d0) m args below meth c H1 locs1 (cells + mc) (slots + ms) Q (F0 m (pc + 3) ls (.int r :: rest))) :
    W p l e R (s.setDrawn d0) m args below meth c H locs cells slots Q (F0 m pc ls st0) :=
  va_calli hr hst.2 (fun q _ h => aA_le hst.2.1 h) (fun q h => aA_le hst.2.1 h) (fun x _ t H1 locs1 ht _ hw hB _ _ hS => by subst hw; subst ht; exact kk _ locs1 ⟨hB, hS⟩)
theorem c_l (hst : St D cy ad s.heap I G J H locs) {r : Int64} (hr : va_Run p l e R (s.setDrawn d0) m args below meth c H locs cells slots mc ms (F0 m pc ls st0) rest (qL D cy ad r I' G' J' H.size a) (aA ad H.size))
    (kk : ∀ (H1 : Heap) (locs1 : List Loc), St D cy ad s.heap I' G' J' H1 locs1 → W p l e R (s.setDrawn d0) m args below meth c H1 locs1 (cells + mc) (slots + ms) Q (F0 m (pc + 3) ls (.long r :: rest))) :
    W p l e R (s.setDrawn d0) m args below meth c H locs cells slots Q (F0 m pc ls st0) :=
  va_calll hr hst.2 (fun q _ h => aA_le hst.2.1 h) (fun q h => aA_le hst.2.1 h) (fun x _ t H1 locs1 ht _ hw hB _ _ hS => by subst hw; subst ht; exact kk _ locs1 ⟨hB, hS⟩)
theorem c_v (hst : St D cy ad s.heap I G J H locs) (hr : va_Run p l e R (s.setDrawn d0) m args below meth c H locs cells slots mc ms (F0 m pc ls st0) rest (qV D cy ad I' G' J' H.size a) (aA ad H.size))
    (kk : ∀ (H1 : Heap) (locs1 : List Loc), St D cy ad s.heap I' G' J' H1 locs1 → W p l e R (s.setDrawn d0) m args below meth c H1 locs1 (cells + mc) (slots + ms) Q (F0 m (pc + 3) ls rest)) :
    W p l e R (s.setDrawn d0) m args below meth c H locs cells slots Q (F0 m pc ls st0) :=
  va_callv hr hst.2 (fun q _ h => aA_le hst.2.1 h) (fun q h => aA_le hst.2.1 h) (fun _ t H1 locs1 ht _ hw hB _ _ hS => by subst ht; exact kk _ locs1 ⟨hB, hS⟩)
theorem c_r (hst : St D cy ad s.heap I G J H locs) {k : Nat} (hr : va_Run p l e R (s.setDrawn d0) m args below meth c H locs cells slots mc ms (F0 m pc ls st0) rest (qR D cy ad k I' G' J' H.size a) (aA ad H.size))
    (kk : ∀ (H1 : Heap) (locs1 : List Loc), St D cy ad s.heap I' G' J' H1 locs1 → W p l e R (s.setDrawn d0) m args below meth c H1 locs1 (cells + mc) (slots + ms) Q (F0 m (pc + 3) ls (.ref (ad k) :: rest))) :
    W p l e R (s.setDrawn d0) m args below meth c H locs cells slots Q (F0 m pc ls st0) :=
  va_callr hr hst.2 (fun q _ h => aA_le hst.2.1 h) (fun q h => aA_le hst.2.1 h) (fun _ ra t H1 locs1 ht _ hw hB _ _ hS => by obtain ⟨e1, hB⟩ := hB; subst e1; subst ht; exact kk _ locs1 ⟨hB, hS⟩)
theorem c_d (hst : St D cy ad s.heap I G J H locs) {r : UInt64} (hr : va_Run p l e R (s.setDrawn d0) m args below meth c H locs cells slots mc ms (F0 m pc ls st0) rest (qD D cy ad r I' G' J' H.size a) (aA ad H.size))
    (kk : ∀ (v : UInt64) (H1 : Heap) (locs1 : List Loc), cn v = r → St D cy ad s.heap I' G' J' H1 locs1 → W p l e R (s.setDrawn d0) m args below meth c H1 locs1 (cells + mc) (slots + ms) Q (F0 m (pc + 3) ls (.double v :: rest))) :
    W p l e R (s.setDrawn d0) m args below meth c H locs cells slots Q (F0 m pc ls st0) :=
  va_calld hr hst.2 (fun q _ h => aA_le hst.2.1 h) (fun q h => aA_le hst.2.1 h) (fun x _ t H1 locs1 ht _ hw hB _ _ hS => by subst ht; exact kk x _ locs1 hw ⟨hB, hS⟩)
/-! .. of callees that may draw -/
theorem c_iD (hd : s.drawn.sameBut d0 lw_cs) (hst : St D cy ad s.heap I G J H locs) {r : Int32} (hr : va_RunD lw_cs p l e R (s.setDrawn d0) m args below meth c H locs cells slots mc ms (F0 m pc ls st0) rest (qI D cy ad r I' G' J' H.size a) (aA ad H.size))
    (kk : ∀ (d1 : Drawn) (H1 : Heap) (locs1 : List Loc), s.drawn.sameBut d1 lw_cs → St D cy ad s.heap I' G' J' H1 locs1 → W p l e R (s.setDrawn d1) m args below meth c H1 locs1 (cells + mc) (slots + ms) Q (F0 m (pc + 3) ls (.int r :: rest))) :
    W p l e R (s.setDrawn d0) m args below meth c H locs cells slots Q (F0 m pc ls st0) :=
  va_calliD hd hr hst.2 (fun q _ h => aA_le hst.2.1 h) (fun q h => aA_le hst.2.1 h) (fun x _ t H1 locs1 ht _ hw hB _ _ hS d1 hd1 => by subst hw; subst ht; exact kk d1 _ locs1 hd1 ⟨hB, hS⟩)
theorem c_dD (hd : s.drawn.sameBut d0 lw_cs) (hst : St D cy ad s.heap I G J H locs) {r : UInt64} (hr : va_RunD lw_cs p l e R (s.setDrawn d0) m args below meth c H locs cells slots mc ms (F0 m pc ls st0) rest (qD D cy ad r I' G' J' H.size a) (aA ad H.size))
    (kk : ∀ (v : UInt64) (d1 : Drawn) (H1 : Heap) (locs1 : List Loc), cn v = r → s.drawn.sameBut d1 lw_cs → St D cy ad s.heap I' G' J' H1 locs1 → W p l e R (s.setDrawn d1) m args below meth c H1 locs1 (cells + mc) (slots + ms) Q (F0 m (pc + 3) ls (.double v :: rest))) :
    W p l e R (s.setDrawn d0) m args below meth c H locs cells slots Q (F0 m pc ls st0) :=
  va_calldD hd hr hst.2 (fun q _ h => aA_le hst.2.1 h) (fun q h => aA_le hst.2.1 h) (fun x _ t H1 locs1 ht _ hw hB _ _ hS d1 hd1 => by subst ht; exact kk x d1 _ locs1 hw hd1 ⟨hB, hS⟩)
theorem c_vD (hd : s.drawn.sameBut d0 lw_cs) (hst : St D cy ad s.heap I G J H locs) (hr : va_RunD lw_cs p l e R (s.setDrawn d0) m args below meth c H locs cells slots mc ms (F0 m pc ls st0) rest (qV D cy ad I' G' J' H.size a) (aA ad H.size))
    (kk : ∀ (d1 : Drawn) (H1 : Heap) (locs1 : List Loc), s.drawn.sameBut d1 lw_cs → St D cy ad s.heap I' G' J' H1 locs1 → W p l e R (s.setDrawn d1) m args below meth c H1 locs1 (cells + mc) (slots + ms) Q (F0 m (pc + 3) ls rest)) :
    W p l e R (s.setDrawn d0) m args below meth c H locs cells slots Q (F0 m pc ls st0) :=
  va_callvD hd hr hst.2 (fun q _ h => aA_le hst.2.1 h) (fun q h => aA_le hst.2.1 h) (fun _ t H1 locs1 ht _ hw hB _ _ hS d1 hd1 => by subst ht; exact kk d1 _ locs1 hd1 ⟨hB, hS⟩)
/-! what a callee throws goes on to the caller -/
theorem x_keep {st₀ t T' : State} {L : List Loc} (h0 : st₀.heap = H) (hst : St D cy ad s.heap I G J H locs) (hL : ∀ q ∈ L, aA ad H.size q.base) (hF : va_F (aA ad H.size) st₀ t) (e1 : T'.heap = t.heap) : va_S (aA ad s.heap.size) s.heap T'.heap (locs ++ L) :=
  (vx_keep h0 e1 hst.2 (fun q _ h => aA_le hst.2.1 h) (fun q h => aA_le hst.2.1 h) hL hF).2.2
theorem x_run {Q : State → Prop} (hst : St D cy ad s.heap I G J H locs) (hr : vx_Run p l e R (s.setDrawn d0) m args below meth c H locs cells slots 1 6 (F0 m pc ls st0) rest (fun _ _ _ => False) (qX D cy ad E I' G' J' H.size) (aA ad H.size))
    (kx : ∀ (ce : Cell) (q9 : Addr) (H1 : Heap) (locs1 : List Loc), St D cy ad s.heap I' G' J' H1 locs1 → H1[q9]? = some ce → ce.vm = .none → s.vm.findClass E = some ce.cls → vx_W p l e R (s.setDrawn d0) m args below meth c H1 locs1 (cells + 1) (slots + 6) Q (F0 m pc ls rest) q9) :
    W p l e R (s.setDrawn d0) m args below meth c H locs cells slots Q (F0 m pc ls st0) := by
  intro T hT X
  rcases hr T hT X with ⟨v, st₀, t, T', L, -, -, -, -, -, h, -⟩ | ⟨q, st₀, t, T', L, E', ce, h0, X', hL, e1, e2, ⟨u, -, ⟨hE, hB⟩, hF⟩, hq, hv, hcl, hst2⟩
  · exact h.elim
  · subst hE
    have hs := x_keep h0 hst hL hF e1
    obtain ⟨t2, a1, b1⟩ := kx ce q T'.heap (locs ++ L) ⟨hW_at hB e1, hs⟩ (by rw [e1]; exact hq) hv hcl T' rfl X'
    exact ⟨t2, hst2.trans a1, b1⟩
theorem x_out (hst : St D cy ad s.heap I G J H locs) (hout : ∀ x ∈ c.exceptionTable.toList, False) (hlk : meth.locks = false) {ce : Cell} {q9 : Addr} (hq : H[q9]? = some ce) (hv : ce.vm = .none) (hcl : s.vm.findClass E = some ce.cls) (hc : cells ≤ 1) (hs : slots ≤ 6) :
    vx_W p l e R (s.setDrawn s.drawn) m args below meth c H locs cells slots (vx_MQ below (fun _ _ _ _ => False) (qX D cy ad E I G J s.heap.size) args s 1 6 (aA ad s.heap.size)) (F0 m pc ls rest) q9 :=
  vx_out (s := s) (fun x hx => (hout x hx).elim) hlk hq hv hcl (fun t ht _ => ⟨(), trivial, ⟨rfl, hW_at hst.1 ht⟩, hst.2.F ht⟩) hst.2.2.2 hc hs
/-- a call that throws, in a body without a table: the body throws -/
theorem x_call (hst : St D cy ad s.heap I G J H locs) (hout : ∀ x ∈ c.exceptionTable.toList, False) (hlk : meth.locks = false) (hc : cells + 1 ≤ 1) (hs : slots + 6 ≤ 6)
    (hr : vx_Run p l e R (s.setDrawn s.drawn) m args below meth c H locs cells slots 1 6 (F0 m pc ls st0) rest (fun _ _ _ => False) (qX D cy ad E I' G' J' H.size) (aA ad H.size)) :
    W p l e R (s.setDrawn s.drawn) m args below meth c H locs cells slots (vx_MQ below (fun _ _ _ _ => False) (qX D cy ad E I' G' J' s.heap.size) args s 1 6 (aA ad s.heap.size)) (F0 m pc ls st0) :=
  x_run hst hr (fun ce q9 H1 locs1 h1 hq hv hcl => x_out h1 hout hlk hq hv hcl hc hs)
/-- throw new E("text"), in a body without a table -/
theorem x_throw (hl : l.stackTraces = false) (am : Amb p s m args c cc nL RX4 D cy ad) (hst : St D cy ad s.heap I G J H locs) (hout : ∀ x ∈ c.exceptionTable.toList, False) (hlk : meth.locks = false) {lvv : List (Nat × Value)} (hlv : lv_has ls nL lvv) {text : String} {ik is ic : Nat}
    (hw : ∀ w ∈ Cond.classLink RX4 ik E :: Cond.initialized E :: vx_atS RX4 ic E ["java/lang/RuntimeException", "java/lang/Exception"], w ∈ tT) (hg : ∀ w ∈ Cond.classLink RX4 ik E :: Cond.initialized E :: vx_atS RX4 ic E ["java/lang/RuntimeException", "java/lang/Exception"], vx_ot w = true) (hcls : Bundle.fit E = true) (hstr : (is, text) ∈ tStr)
    (d0 : decode cc pc = .ok (.new ik, 3)) (d3 : decode cc (pc + 3) = .ok (.dup, 1)) (d4 : decode cc (pc + 4) = .ok (.ldc is, 2)) (d6 : decode cc (pc + 6) = .ok (.invokespecial ic, 3)) (d9 : decode cc (pc + 9) = .ok (.athrow, 1))
    (hR : 5 < R.frames) (hRl : (rest.map fun v => v.category).sum + 82 ≤ R.locals) (hRc : cells + 1 ≤ R.cells) (hRs : slots + 6 ≤ R.slots) (hc : cells + 1 ≤ 1) (hs : slots + 6 ≤ 6) :
    W p l e R (s.setDrawn s.drawn) m args below meth c H locs cells slots (vx_MQ below (fun _ _ _ _ => False) (qX D cy ad E I G J s.heap.size) args s 1 6 (aA ad s.heap.size)) (F0 m pc ls rest) := by
  obtain ⟨hx, hb, hml, hown, hts, hK, hadI, hStr, hZ⟩ := am
  obtain ⟨sa, hsa⟩ := hStr _ hstr
  obtain ⟨⟨F, hF, hP⟩, hS⟩ := hst
  have hmem : ∀ k, k < 72 → ad k < H.size := fun k hk => (hP k _ (wat hk)).lt
  exact vx_throwS (s := s) hx hb hl hown hcls (by decide) (hts _ (hw _ List.mem_cons_self)) (hts _ (hw _ (List.mem_cons_of_mem _ List.mem_cons_self))) hsa (fun w h => hts _ (hw _ (List.mem_cons_of_mem _ (List.mem_cons_of_mem _ h)))) hg hZ.1 hZ.2 hS (hlv.1.trans hml.symm) d0 d3 d4 d6 d9 (fun x hx => (hout x hx).elim) hR hRl hRc hRs hlk
    (fun t _ hsz hk => ⟨(), trivial, ⟨rfl, ⟨F, hF, hP.kept (fun k q hq => hk _ ((hP k q hq).lt))⟩⟩, ⟨Nat.le_trans hS.1 hsz, fun q h1 h2 => (hk q (Nat.lt_of_lt_of_le h1 hS.1)).trans (hS.2.1 q h1 h2)⟩⟩) hS.2.2 hc hs
end
