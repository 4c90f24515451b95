/-! rows over the fixed world; a walk always stands over s.setDrawn d0 -/
section
variable {p : Program} {l : Launch} {e : Env} {R : Room} {s : State} {m : MethodId} {args : Array Value} {below : List Frame} {meth : Method} {c : Code} {H : Heap} {locs : List Loc} {cells slots : Nat} {Q : State → Prop}
variable {cc : ByteArray} {nL : Nat} {own : String} {D : va_G} {cy : Nat → ClassId} {ad : Nat → Nat} {I : Im} {G : Dm} {J : Jm} {d0 : Drawn} {pc : Nat} {ls : Array Slot} {rest : List Value}
theorem amK (am : Amb p s m args c cc nL own D cy ad) : va_K D vwCl (tyW cy) (s.setDrawn d0) := va_K.moved (Vm.Alike.refl s.vm) am.2.2.2.2.2.1
theorem amT (am : Amb p s m args c cc nL own D cy ad) : ∀ w ∈ tT, w.before args (s.setDrawn d0) = true := dr_words am.2.2.2.2.1 d0
theorem w_get (am : Amb p s m args c cc nL own D cy ad) (hst : St D cy ad s.heap I G J H locs) {C : String} {T : u_T} {N ci index k cell : Nat} {V : (Nat → Int32) → (Nat → UInt64) → (Nat → Int64) → Value} {fs : (Nat → Int32) → (Nat → UInt64) → (Nat → Int64) → List Value}
    (hc : cell < 72) (hE : ∀ i f j, cE cy ad cell i f j = .inr (ci, fs i f j)) (hcl : vwCl[ci]? = some (C, T, N)) (hin : ∀ w ∈ u_ws C T N, w ∈ tT) (hk : k < N)
    (hw : Cond.fieldLink own index (T k).1 (T k).2.1 (T k).2.2.1 ∈ tT) (hv : ∀ i f j, (fs i f j)[k]? = some (V i f j)) (hdg : decode cc pc = .ok (.getfield index, 3))
    (kk : ∀ F : Dm, (∀ c k, cn (F c k) = G c k) → W p l e R (s.setDrawn d0) m args below meth c H locs cells slots Q (F0 m (pc + 3) ls (V (I cell) (F cell) (J cell) :: rest))) :
    W p l e R (s.setDrawn d0) m args below meth c H locs cells slots Q (F0 m pc ls (.ref (ad cell) :: rest)) := by
  obtain ⟨⟨F, hF, hP⟩, hS⟩ := hst
  exact va_get (ref := (T k).1) am.1 am.2.1 (amT am) hin am.2.2.2.1 (amK am) hP cell (wat' hc (hE _ _ _)) hcl k hk (amT am _ hw) (fun _ h => h) (hv _ _ _) hdg (kk F hF)
theorem w_getN (am : Amb p s m args c cc nL own D cy ad) (hst : St D cy ad s.heap I G J H locs) {C host : String} {T : u_T} {N ci index k cell : Nat} {V : (Nat → Int32) → (Nat → UInt64) → (Nat → Int64) → Value} {fs : (Nat → Int32) → (Nat → UInt64) → (Nat → Int64) → List Value}
    (hc : cell < 72) (hE : ∀ i f j, cE cy ad cell i f j = .inr (ci, fs i f j)) (hcl : vwCl[ci]? = some (C, T, N)) (hin : ∀ w ∈ u_ws C T N, w ∈ tT) (hk : k < N)
    (hw : Cond.fieldLinkNest own index (T k).1 (T k).2.1 (T k).2.2.1 host ∈ tT) (hv : ∀ i f j, (fs i f j)[k]? = some (V i f j)) (hdg : decode cc pc = .ok (.getfield index, 3))
    (kk : ∀ F : Dm, (∀ c k, cn (F c k) = G c k) → W p l e R (s.setDrawn d0) m args below meth c H locs cells slots Q (F0 m (pc + 3) ls (V (I cell) (F cell) (J cell) :: rest))) :
    W p l e R (s.setDrawn d0) m args below meth c H locs cells slots Q (F0 m pc ls (.ref (ad cell) :: rest)) := by
  obtain ⟨⟨F, hF, hP⟩, hS⟩ := hst
  exact va_getN (ref := (T k).1) am.1 am.2.1 (amT am) hin am.2.2.2.1 (amK am) hP cell (wat' hc (hE _ _ _)) hcl k hk (amT am _ hw) (fun _ h => h) (hv _ _ _) hdg (kk F hF)
theorem w_putI (am : Amb p s m args c cc nL own D cy ad) (hst : St D cy ad s.heap I G J H locs) {C : String} {T : u_T} {N ci index k cell : Nat} {ty : FieldType} {v : Int32} {fs : (Nat → Int32) → (Nat → UInt64) → (Nat → Int64) → List Value}
    (hc : cell < 72) (hE : ∀ i f j, cE cy ad cell i f j = .inr (ci, fs i f j)) (hcl : vwCl[ci]? = some (C, T, N)) (hin : ∀ w ∈ u_ws C T N, w ∈ tT) (ty0 : Nat → FieldType) (hty : ∀ k, k < N → parseFieldDescriptor (T k).2.2.1 = some (ty0 k)) (hnm : ∀ a, a < N → ∀ b, b < N → a ≠ b → (T a).2.1 ≠ (T b).2.1) (hk : k < N)
    (hw : Cond.fieldLink own index (T k).1 (T k).2.1 (T k).2.2.1 ∈ tT) (hset : ∀ i f j, (fs i f j).set k (.int v) = fs (va_up i k v) f j) (hlen : ∀ i f j, k < (fs i f j).length) (hfin : (T k).2.2.2 = false) (hd : ty0 k = ty) (hn : narrow ty (.int v) = .int v) (hfit : fits ty (.int v) = true) (hdg : decode cc pc = .ok (.putfield index, 3))
    (kk : ∀ (H1 : Heap) (locs1 : List Loc), St D cy ad s.heap (u2 I cell k v) G J H1 locs1 → W p l e R (s.setDrawn d0) m args below meth c H1 locs1 cells slots Q (F0 m (pc + 3) ls rest)) :
    W p l e R (s.setDrawn d0) m args below meth c H locs cells slots Q (F0 m pc ls (.int v :: .ref (ad cell) :: rest)) := by
  obtain ⟨⟨F, hF, hP⟩, hS⟩ := hst
  exact va_put (s := s.setDrawn d0) (ref := (T k).1) am.1 am.2.1 (amT am) hin ty0 hty hnm am.2.2.2.1 (amK am) hP (wD am.2.2.2.2.2.2.1) hS cell (wat' hc (hE _ _ _)) hcl k hk (amT am _ hw) (fun _ h => h) hfin ((hty k hk).trans (congrArg some hd)) hn hfit (hlen _ _ _) hdg
    (fun H1 locs1 hP1 _ hS1 => kk H1 locs1 ⟨⟨F, hF, by rw [hset, ← hE, wsetI hc rfl] at hP1; exact hP1⟩, hS1⟩)
theorem w_putIN (am : Amb p s m args c cc nL own D cy ad) (hst : St D cy ad s.heap I G J H locs) {C host : String} {T : u_T} {N ci index k cell : Nat} {ty : FieldType} {v : Int32} {fs : (Nat → Int32) → (Nat → UInt64) → (Nat → Int64) → List Value}
    (hc : cell < 72) (hE : ∀ i f j, cE cy ad cell i f j = .inr (ci, fs i f j)) (hcl : vwCl[ci]? = some (C, T, N)) (hin : ∀ w ∈ u_ws C T N, w ∈ tT) (ty0 : Nat → FieldType) (hty : ∀ k, k < N → parseFieldDescriptor (T k).2.2.1 = some (ty0 k)) (hnm : ∀ a, a < N → ∀ b, b < N → a ≠ b → (T a).2.1 ≠ (T b).2.1) (hk : k < N)
    (hw : Cond.fieldLinkNest own index (T k).1 (T k).2.1 (T k).2.2.1 host ∈ tT) (hset : ∀ i f j, (fs i f j).set k (.int v) = fs (va_up i k v) f j) (hlen : ∀ i f j, k < (fs i f j).length) (hfin : (T k).2.2.2 = false) (hd : ty0 k = ty) (hn : narrow ty (.int v) = .int v) (hfit : fits ty (.int v) = true) (hdg : decode cc pc = .ok (.putfield index, 3))
    (kk : ∀ (H1 : Heap) (locs1 : List Loc), St D cy ad s.heap (u2 I cell k v) G J H1 locs1 → W p l e R (s.setDrawn d0) m args below meth c H1 locs1 cells slots Q (F0 m (pc + 3) ls rest)) :
    W p l e R (s.setDrawn d0) m args below meth c H locs cells slots Q (F0 m pc ls (.int v :: .ref (ad cell) :: rest)) := by
  obtain ⟨⟨F, hF, hP⟩, hS⟩ := hst
  exact va_putN (s := s.setDrawn d0) (ref := (T k).1) am.1 am.2.1 (amT am) hin ty0 hty hnm am.2.2.2.1 (amK am) hP (wD am.2.2.2.2.2.2.1) hS cell (wat' hc (hE _ _ _)) hcl k hk (amT am _ hw) (fun _ h => h) hfin ((hty k hk).trans (congrArg some hd)) hn hfit (hlen _ _ _) hdg
    (fun H1 locs1 hP1 _ hS1 => kk H1 locs1 ⟨⟨F, hF, by rw [hset, ← hE, wsetI hc rfl] at hP1; exact hP1⟩, hS1⟩)
theorem cnu {F : Dm} (hF : ∀ c k, cn (F c k) = G c k) {cell k : Nat} {x X : UInt64} (hx : cn x = X) : ∀ a b, cn (u2 F cell k x a b) = u2 G cell k X a b := by
  intro a b
  unfold u2
  split
  · exact hx
  · exact hF a b
theorem w_putD (am : Amb p s m args c cc nL own D cy ad) (hst : St D cy ad s.heap I G J H locs) {C : String} {T : u_T} {N ci index k cell : Nat} {v X : UInt64} {fs : (Nat → Int32) → (Nat → UInt64) → (Nat → Int64) → List Value} (hx : cn v = X)
    (hc : cell < 72) (hE : ∀ i f j, cE cy ad cell i f j = .inr (ci, fs i f j)) (hcl : vwCl[ci]? = some (C, T, N)) (hin : ∀ w ∈ u_ws C T N, w ∈ tT) (ty0 : Nat → FieldType) (hty : ∀ k, k < N → parseFieldDescriptor (T k).2.2.1 = some (ty0 k)) (hnm : ∀ a, a < N → ∀ b, b < N → a ≠ b → (T a).2.1 ≠ (T b).2.1) (hk : k < N)
    (hw : Cond.fieldLink own index (T k).1 (T k).2.1 (T k).2.2.1 ∈ tT) (hset : ∀ i f j, (fs i f j).set k (.double v) = fs i (va_up f k v) j) (hlen : ∀ i f j, k < (fs i f j).length) (hfin : (T k).2.2.2 = false) (hd : ty0 k = .double) (hdg : decode cc pc = .ok (.putfield index, 3))
    (kk : ∀ (H1 : Heap) (locs1 : List Loc), St D cy ad s.heap I (u2 G cell k X) J H1 locs1 → W p l e R (s.setDrawn d0) m args below meth c H1 locs1 cells slots Q (F0 m (pc + 3) ls rest)) :
    W p l e R (s.setDrawn d0) m args below meth c H locs cells slots Q (F0 m pc ls (.double v :: .ref (ad cell) :: rest)) := by
  obtain ⟨⟨F, hF, hP⟩, hS⟩ := hst
  exact va_put (s := s.setDrawn d0) (ref := (T k).1) (ty := .double) am.1 am.2.1 (amT am) hin ty0 hty hnm am.2.2.2.1 (amK am) hP (wD am.2.2.2.2.2.2.1) hS cell (wat' hc (hE _ _ _)) hcl k hk (amT am _ hw) (fun _ h => h) hfin ((hty k hk).trans (congrArg some hd)) rfl rfl (hlen _ _ _) hdg
    (fun H1 locs1 hP1 _ hS1 => kk H1 locs1 ⟨⟨u2 F cell k v, cnu hF hx, by rw [hset, ← hE, wsetD hc rfl] at hP1; exact hP1⟩, hS1⟩)
theorem w_putDN (am : Amb p s m args c cc nL own D cy ad) (hst : St D cy ad s.heap I G J H locs) {C host : String} {T : u_T} {N ci index k cell : Nat} {v X : UInt64} {fs : (Nat → Int32) → (Nat → UInt64) → (Nat → Int64) → List Value} (hx : cn v = X)
    (hc : cell < 72) (hE : ∀ i f j, cE cy ad cell i f j = .inr (ci, fs i f j)) (hcl : vwCl[ci]? = some (C, T, N)) (hin : ∀ w ∈ u_ws C T N, w ∈ tT) (ty0 : Nat → FieldType) (hty : ∀ k, k < N → parseFieldDescriptor (T k).2.2.1 = some (ty0 k)) (hnm : ∀ a, a < N → ∀ b, b < N → a ≠ b → (T a).2.1 ≠ (T b).2.1) (hk : k < N)
    (hw : Cond.fieldLinkNest own index (T k).1 (T k).2.1 (T k).2.2.1 host ∈ tT) (hset : ∀ i f j, (fs i f j).set k (.double v) = fs i (va_up f k v) j) (hlen : ∀ i f j, k < (fs i f j).length) (hfin : (T k).2.2.2 = false) (hd : ty0 k = .double) (hdg : decode cc pc = .ok (.putfield index, 3))
    (kk : ∀ (H1 : Heap) (locs1 : List Loc), St D cy ad s.heap I (u2 G cell k X) J H1 locs1 → W p l e R (s.setDrawn d0) m args below meth c H1 locs1 cells slots Q (F0 m (pc + 3) ls rest)) :
    W p l e R (s.setDrawn d0) m args below meth c H locs cells slots Q (F0 m pc ls (.double v :: .ref (ad cell) :: rest)) := by
  obtain ⟨⟨F, hF, hP⟩, hS⟩ := hst
  exact va_putN (s := s.setDrawn d0) (ref := (T k).1) (ty := .double) am.1 am.2.1 (amT am) hin ty0 hty hnm am.2.2.2.1 (amK am) hP (wD am.2.2.2.2.2.2.1) hS cell (wat' hc (hE _ _ _)) hcl k hk (amT am _ hw) (fun _ h => h) hfin ((hty k hk).trans (congrArg some hd)) rfl rfl (hlen _ _ _) hdg
    (fun H1 locs1 hP1 _ hS1 => kk H1 locs1 ⟨⟨u2 F cell k v, cnu hF hx, by rw [hset, ← hE, wsetD hc rfl] at hP1; exact hP1⟩, hS1⟩)
/-! arrays: cell's array has N places, the index is n -/
theorem w_dald (am : Amb p s m args c cc nL own D cy ad) (hst : St D cy ad s.heap I G J H locs) {cell N n : Nat} {x : Int32} (hc : cell < 72) (hE : ∀ i f j, cE cy ad cell i f j = eD cy N f) (hn : x.toNatClampNeg = n) (hi : vp_in x N) (hdg : decode cc pc = .ok (.daload, 1))
    (kk : ∀ v : UInt64, cn v = G cell n → W p l e R (s.setDrawn d0) m args below meth c H locs cells slots Q (F0 m (pc + 1) ls (.double v :: rest))) :
    W p l e R (s.setDrawn d0) m args below meth c H locs cells slots Q (F0 m pc ls (.int x :: .ref (ad cell) :: rest)) := by
  obtain ⟨⟨F, hF, hP⟩, hS⟩ := hst
  exact va_dald am.1 am.2.1 (amK am) hP cell 0 (wat' hc (hE _ _ _)) rfl hi hdg (by rw [hn]; exact kk _ (hF cell n))
theorem w_iald (am : Amb p s m args c cc nL own D cy ad) (hst : St D cy ad s.heap I G J H locs) {cell N n : Nat} {x : Int32} (hc : cell < 72) (hE : ∀ i f j, cE cy ad cell i f j = eI cy N i) (hn : x.toNatClampNeg = n) (hi : vp_in x N) (hdg : decode cc pc = .ok (.iaload, 1))
    (kk : W p l e R (s.setDrawn d0) m args below meth c H locs cells slots Q (F0 m (pc + 1) ls (.int (I cell n) :: rest))) :
    W p l e R (s.setDrawn d0) m args below meth c H locs cells slots Q (F0 m pc ls (.int x :: .ref (ad cell) :: rest)) := by
  obtain ⟨⟨F, hF, hP⟩, hS⟩ := hst
  exact va_iald am.1 am.2.1 (amK am) hP cell 1 (wat' hc (hE _ _ _)) rfl hi hdg (by rw [hn]; exact kk)
theorem w_zald (am : Amb p s m args c cc nL own D cy ad) (hst : St D cy ad s.heap I G J H locs) {cell N n : Nat} {x : Int32} (hc : cell < 72) (hE : ∀ i f j, cE cy ad cell i f j = eZ cy N i) (hn : x.toNatClampNeg = n) (hi : vp_in x N) (hdg : decode cc pc = .ok (.baload, 1))
    (kk : W p l e R (s.setDrawn d0) m args below meth c H locs cells slots Q (F0 m (pc + 1) ls (.int (I cell n) :: rest))) :
    W p l e R (s.setDrawn d0) m args below meth c H locs cells slots Q (F0 m pc ls (.int x :: .ref (ad cell) :: rest)) := by
  obtain ⟨⟨F, hF, hP⟩, hS⟩ := hst
  exact va_zald am.1 am.2.1 (amK am) hP cell 2 (wat' hc (hE _ _ _)) rfl hi hdg (by rw [hn]; exact kk)
theorem w_lald (am : Amb p s m args c cc nL own D cy ad) (hst : St D cy ad s.heap I G J H locs) {cell N n : Nat} {x : Int32} (hc : cell < 72) (hE : ∀ i f j, cE cy ad cell i f j = eJ cy N j) (hn : x.toNatClampNeg = n) (hi : vp_in x N) (hdg : decode cc pc = .ok (.laload, 1))
    (kk : W p l e R (s.setDrawn d0) m args below meth c H locs cells slots Q (F0 m (pc + 1) ls (.long (J cell n) :: rest))) :
    W p l e R (s.setDrawn d0) m args below meth c H locs cells slots Q (F0 m pc ls (.int x :: .ref (ad cell) :: rest)) := by
  obtain ⟨⟨F, hF, hP⟩, hS⟩ := hst
  exact va_lald am.1 am.2.1 (amK am) hP cell 5 (wat' hc (hE _ _ _)) rfl hi hdg (by rw [hn]; exact kk)
theorem w_alen (am : Amb p s m args c cc nL own D cy ad) (hst : St D cy ad s.heap I G J H locs) {cell t0 : Nat} {x : vp_A} {ty : FieldType} {v : Int32} (hc : cell < 72) (cA : ClassId) (hE : ∀ F : Dm, cE cy ad cell (I cell) (F cell) (J cell) = .inl (cA, x)) (ht : (tyW cy)[t0]? = some (cA, ty)) (hv : Int32.ofNat x.1 = v) (hdg : decode cc pc = .ok (.arraylength, 1))
    (kk : W p l e R (s.setDrawn d0) m args below meth c H locs cells slots Q (F0 m (pc + 1) ls (.int v :: rest))) :
    W p l e R (s.setDrawn d0) m args below meth c H locs cells slots Q (F0 m pc ls (.ref (ad cell) :: rest)) := by
  obtain ⟨⟨F, hF, hP⟩, hS⟩ := hst
  exact va_alen am.1 am.2.1 (amK am) hP cell t0 (wat' hc (hE F)) ht hv hdg kk
theorem w_dast (am : Amb p s m args c cc nL own D cy ad) (hst : St D cy ad s.heap I G J H locs) {cell N n : Nat} {x : Int32} {v X : UInt64} (hx : cn v = X) (hc : cell < 72) (hE : ∀ i f j, cE cy ad cell i f j = eD cy N f) (hn : x.toNatClampNeg = n) (hi : vp_in x N) (hdg : decode cc pc = .ok (.dastore, 1))
    (kk : ∀ (H1 : Heap) (locs1 : List Loc), St D cy ad s.heap I (u2 G cell n X) J H1 locs1 → W p l e R (s.setDrawn d0) m args below meth c H1 locs1 cells slots Q (F0 m (pc + 1) ls rest)) :
    W p l e R (s.setDrawn d0) m args below meth c H locs cells slots Q (F0 m pc ls (.double v :: .int x :: .ref (ad cell) :: rest)) := by
  obtain ⟨⟨F, hF, hP⟩, hS⟩ := hst
  subst hn
  exact va_dast (s := s.setDrawn d0) am.1 am.2.1 (amK am) hP (wD am.2.2.2.2.2.2.1) hS cell 0 (wat' hc (hE _ _ _)) rfl hi hdg
    (fun H1 locs1 hP1 _ hS1 => kk H1 locs1 ⟨⟨u2 F cell x.toNatClampNeg v, cnu hF hx, by have hP2 : va_P D vwCl ((wW cy ad I F J).set cell (ad cell, eD cy N (va_up (F cell) x.toNatClampNeg v))) H1 := hP1; rw [wsetD hc (hE _ _ _).symm] at hP2; exact hP2⟩, hS1⟩)
theorem w_iast (am : Amb p s m args c cc nL own D cy ad) (hst : St D cy ad s.heap I G J H locs) {cell N n : Nat} {x : Int32} {v : Int32} (hc : cell < 72) (hE : ∀ i f j, cE cy ad cell i f j = eI cy N i) (hn : x.toNatClampNeg = n) (hi : vp_in x N) (hdg : decode cc pc = .ok (.iastore, 1))
    (kk : ∀ (H1 : Heap) (locs1 : List Loc), St D cy ad s.heap (u2 I cell n v) G J H1 locs1 → W p l e R (s.setDrawn d0) m args below meth c H1 locs1 cells slots Q (F0 m (pc + 1) ls rest)) :
    W p l e R (s.setDrawn d0) m args below meth c H locs cells slots Q (F0 m pc ls (.int v :: .int x :: .ref (ad cell) :: rest)) := by
  obtain ⟨⟨F, hF, hP⟩, hS⟩ := hst
  subst hn
  exact va_iast (s := s.setDrawn d0) am.1 am.2.1 (amK am) hP (wD am.2.2.2.2.2.2.1) hS cell 1 (wat' hc (hE _ _ _)) rfl hi hdg
    (fun H1 locs1 hP1 _ hS1 => kk H1 locs1 ⟨⟨F, hF, by have hP2 : va_P D vwCl ((wW cy ad I F J).set cell (ad cell, eI cy N (va_up (I cell) x.toNatClampNeg v))) H1 := hP1; rw [wsetI hc (hE _ _ _).symm] at hP2; exact hP2⟩, hS1⟩)
theorem w_zast (am : Amb p s m args c cc nL own D cy ad) (hst : St D cy ad s.heap I G J H locs) {cell N n : Nat} {x : Int32} {v : Int32} (hz : vp_nar .boolean v = v) (hc : cell < 72) (hE : ∀ i f j, cE cy ad cell i f j = eZ cy N i) (hn : x.toNatClampNeg = n) (hi : vp_in x N) (hdg : decode cc pc = .ok (.bastore, 1))
    (kk : ∀ (H1 : Heap) (locs1 : List Loc), St D cy ad s.heap (u2 I cell n v) G J H1 locs1 → W p l e R (s.setDrawn d0) m args below meth c H1 locs1 cells slots Q (F0 m (pc + 1) ls rest)) :
    W p l e R (s.setDrawn d0) m args below meth c H locs cells slots Q (F0 m pc ls (.int v :: .int x :: .ref (ad cell) :: rest)) := by
  obtain ⟨⟨F, hF, hP⟩, hS⟩ := hst
  subst hn
  exact va_zast (s := s.setDrawn d0) am.1 am.2.1 (amK am) hP (wD am.2.2.2.2.2.2.1) hS cell 2 (wat' hc (hE _ _ _)) rfl hi hdg
    (fun H1 locs1 hP1 _ hS1 => kk H1 locs1 ⟨⟨F, hF, by have hP2 : va_P D vwCl ((wW cy ad I F J).set cell (ad cell, eZ cy N (va_up (I cell) x.toNatClampNeg v))) H1 := (by rw [hz] at hP1; exact hP1); rw [wsetI hc (hE _ _ _).symm] at hP2; exact hP2⟩, hS1⟩)
theorem w_last (am : Amb p s m args c cc nL own D cy ad) (hst : St D cy ad s.heap I G J H locs) {cell N n : Nat} {x : Int32} {v : Int64} (hc : cell < 72) (hE : ∀ i f j, cE cy ad cell i f j = eJ cy N j) (hn : x.toNatClampNeg = n) (hi : vp_in x N) (hdg : decode cc pc = .ok (.lastore, 1))
    (kk : ∀ (H1 : Heap) (locs1 : List Loc), St D cy ad s.heap I G (u2 J cell n v) H1 locs1 → W p l e R (s.setDrawn d0) m args below meth c H1 locs1 cells slots Q (F0 m (pc + 1) ls rest)) :
    W p l e R (s.setDrawn d0) m args below meth c H locs cells slots Q (F0 m pc ls (.long v :: .int x :: .ref (ad cell) :: rest)) := by
  obtain ⟨⟨F, hF, hP⟩, hS⟩ := hst
  subst hn
  exact va_last (s := s.setDrawn d0) am.1 am.2.1 (amK am) hP (wD am.2.2.2.2.2.2.1) hS cell 5 (wat' hc (hE _ _ _)) rfl hi hdg
    (fun H1 locs1 hP1 _ hS1 => kk H1 locs1 ⟨⟨F, hF, by have hP2 : va_P D vwCl ((wW cy ad I F J).set cell (ad cell, eJ cy N (va_up (J cell) x.toNatClampNeg v))) H1 := hP1; rw [wsetJ hc (hE _ _ _).symm] at hP2; exact hP2⟩, hS1⟩)
/-- a board out of the boards -/
theorem w_aldR (am : Amb p s m args c cc nL own D cy ad) (hst : St D cy ad s.heap I G J H locs) {n : Nat} {x : Int32} (hn : x.toNatClampNeg = n) (hi : vp_in x 32) (hdg : decode cc pc = .ok (.aaload, 1))
    (kk : W p l e R (s.setDrawn d0) m args below meth c H locs cells slots Q (F0 m (pc + 1) ls (.ref (ad (2 + n)) :: rest))) :
    W p l e R (s.setDrawn d0) m args below meth c H locs cells slots Q (F0 m pc ls (.int x :: .ref (ad 1) :: rest)) := by
  obtain ⟨⟨F, hF, hP⟩, hS⟩ := hst
  have hlt : x.toNatClampNeg < 32 := Nat.not_le.mp fun q => hi (Or.inr q)
  refine va_aldq am.1 am.2.1 (amK am) hP 1 3 (wat' (by decide) cE_1) rfl hi hdg ?_
  rw [if_pos hlt, hn]
  exact kk
/-- a row of a fit's products -/
theorem w_aldA (am : Amb p s m args c cc nL own D cy ad) (hst : St D cy ad s.heap I G J H locs) {b n : Nat} {x : Int32} (hb : b = 34 ∨ b = 41) (hn : x.toNatClampNeg = n) (hi : vp_in x 3) (hdg : decode cc pc = .ok (.aaload, 1))
    (kk : W p l e R (s.setDrawn d0) m args below meth c H locs cells slots Q (F0 m (pc + 1) ls (.ref (ad (b + 1 + 1 + n)) :: rest))) :
    W p l e R (s.setDrawn d0) m args below meth c H locs cells slots Q (F0 m pc ls (.int x :: .ref (ad (b + 1)) :: rest)) := by
  obtain ⟨⟨F, hF, hP⟩, hS⟩ := hst
  have hlt : x.toNatClampNeg < 3 := Nat.not_le.mp fun q => hi (Or.inr q)
  have h1 : (wW cy ad I F J)[b + 1]? = some (ad (b + 1), eA cy 3 (fun k => if k < 3 then some (ad (b + 1 + 1 + k)) else none)) := wat' (by omega) (cE_F1 hb)
  have hg : va_rf (if x.toNatClampNeg < 3 then some (ad (b + 1 + 1 + x.toNatClampNeg)) else none) = .ref (ad (b + 1 + 1 + n)) := by rw [if_pos hlt, hn]; rfl
  exact W.aald (v := .ref (ad (b + 1 + 1 + n))) (ty := .array .double) am.1 am.2.1 (hP (b + 1) _ h1) (((amK am).2 4 _ rfl).1 3 (fun j => va_rf (if j < 3 then some (ad (b + 1 + 1 + j)) else none))) rfl (fun q => by cases q) (by show ¬ (x < 0 ∨ (arrV _ _ _).slots.size ≤ _); rw [arrV_size]; exact hi) (by show (arrV _ _ _).slots[_]? = _; rw [arrV_read _ _ hlt]; exact congrArg some hg) rfl rfl hdg kk
/-! doubles -/
theorem w_dcmp (hx : p.tables.exec = Jvm.exec) (hb : c.code = cc) {x y X Y : UInt64} {op : CmpOp} (h1 : cn x = X) (h2 : cn y = Y) (hdg : decode cc pc = .ok (.dcmp op, 1))
    (kk : W p l e R (s.setDrawn d0) m args below meth c H locs cells slots Q (F0 m (pc + 1) ls (.int (Op.cmpValue (FP.dcmp X Y) op) :: rest))) :
    W p l e R (s.setDrawn d0) m args below meth c H locs cells slots Q (F0 m pc ls (.double y :: .double x :: rest)) := by
  refine lv_dcmp hx hb hdg ?_
  rw [cn_cmp h1 h2]
  exact kk
section
variable (hd : s.drawn.sameBut d0 lw_cs) (hx : p.tables.exec = Jvm.exec) (hb : c.code = cc)
theorem w_dadd (hd : s.drawn.sameBut d0 lw_cs) (hx : p.tables.exec = Jvm.exec) (hb : c.code = cc) {x y X Y : UInt64} (h1 : cn x = X) (h2 : cn y = Y) (hdg : decode cc pc = .ok (.dadd, 1))
    (kk : ∀ (r : UInt64) (d1 : Drawn), cn r = Ad X Y → s.drawn.sameBut d1 lw_cs → W p l e R (s.setDrawn d1) m args below meth c H locs cells slots Q (F0 m (pc + 1) ls (.double r :: rest))) :
    W p l e R (s.setDrawn d0) m args below meth c H locs cells slots Q (F0 m pc ls (.double y :: .double x :: rest)) :=
  lv_dadd_any hd lw_bits hx hb hdg (fun r d1 hal hd1 => kk r d1 (cn_add hal h1 h2) hd1)
theorem w_dsub (hd : s.drawn.sameBut d0 lw_cs) (hx : p.tables.exec = Jvm.exec) (hb : c.code = cc) {x y X Y : UInt64} (h1 : cn x = X) (h2 : cn y = Y) (hdg : decode cc pc = .ok (.dsub, 1))
    (kk : ∀ (r : UInt64) (d1 : Drawn), cn r = Sb X Y → s.drawn.sameBut d1 lw_cs → W p l e R (s.setDrawn d1) m args below meth c H locs cells slots Q (F0 m (pc + 1) ls (.double r :: rest))) :
    W p l e R (s.setDrawn d0) m args below meth c H locs cells slots Q (F0 m pc ls (.double y :: .double x :: rest)) :=
  lv_dsub_any hd lw_bits hx hb hdg (fun r d1 hal hd1 => kk r d1 (cn_sub hal h1 h2) hd1)
theorem w_dmul (hd : s.drawn.sameBut d0 lw_cs) (hx : p.tables.exec = Jvm.exec) (hb : c.code = cc) {x y X Y : UInt64} (h1 : cn x = X) (h2 : cn y = Y) (hdg : decode cc pc = .ok (.dmul, 1))
    (kk : ∀ (r : UInt64) (d1 : Drawn), cn r = Mu X Y → s.drawn.sameBut d1 lw_cs → W p l e R (s.setDrawn d1) m args below meth c H locs cells slots Q (F0 m (pc + 1) ls (.double r :: rest))) :
    W p l e R (s.setDrawn d0) m args below meth c H locs cells slots Q (F0 m pc ls (.double y :: .double x :: rest)) :=
  lv_dmul_any hd lw_bits hx hb hdg (fun r d1 hal hd1 => kk r d1 (cn_mul hal h1 h2) hd1)
theorem w_ddiv (hd : s.drawn.sameBut d0 lw_cs) (hx : p.tables.exec = Jvm.exec) (hb : c.code = cc) {x y X Y : UInt64} (h1 : cn x = X) (h2 : cn y = Y) (hdg : decode cc pc = .ok (.ddiv, 1))
    (kk : ∀ (r : UInt64) (d1 : Drawn), cn r = Dv X Y → s.drawn.sameBut d1 lw_cs → W p l e R (s.setDrawn d1) m args below meth c H locs cells slots Q (F0 m (pc + 1) ls (.double r :: rest))) :
    W p l e R (s.setDrawn d0) m args below meth c H locs cells slots Q (F0 m pc ls (.double y :: .double x :: rest)) :=
  lv_ddiv_any hd lw_bits hx hb hdg (fun r d1 hal hd1 => kk r d1 (cn_div hal h1 h2) hd1)
end
/-- an int as a double -/
theorem w_i2d (hx : p.tables.exec = Jvm.exec) (hb : c.code = cc) {x : Int32} (hdg : decode cc pc = .ok (.i2d, 1))
    (kk : ∀ v : UInt64, cn v = FP.i2d x → W p l e R (s.setDrawn d0) m args below meth c H locs cells slots Q (F0 m (pc + 1) ls (.double v :: rest))) :
    W p l e R (s.setDrawn d0) m args below meth c H locs cells slots Q (F0 m pc ls (.int x :: rest)) :=
  lv_i2d hx hb hdg (kk _ (cn_i2d x))
end
