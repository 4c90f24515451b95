/-! the words that the walks use, each by its place in the tables; small rows -/
theorem vinL {x : Int32} {n : Nat} (h : ¬ (x < 0 ∨ n ≤ x.toNatClampNeg)) : vp_in x n := h
theorem cn_k0 : cn FP.dconst0 = 0 := by decide +kernel
theorem cn_k4607182418800017408 : cn FP.dconst1 = 4607182418800017408 := by decide +kernel
def Ng (x : UInt64) : UInt64 := cn (FP.dneg x)
theorem cn_neg {x X : UInt64} (h : cn x = X) : cn (FP.dneg x) = Ng X := by
  unfold Ng
  by_cases hx : isNaN64 x = true
  · have h1 : isNaN64 (FP.dneg x) = true := by
      rw [fp_nan, ← FP.Core.dIsNaN_iff]
      have h2 := FP.dneg_nan x
      have h3 : FP.dIsNaN x = true := FP.Core.dIsNaN_iff x |>.mpr (fp_nan.mp hx)
      exact h2.trans h3
    have hX : isNaN64 X = true := by rw [← h, cn_isn]; exact hx
    have h4 : isNaN64 (FP.dneg X) = true := by
      rw [fp_nan, ← FP.Core.dIsNaN_iff]
      have h2 := FP.dneg_nan X
      have h3 : FP.dIsNaN X = true := FP.Core.dIsNaN_iff X |>.mpr (fp_nan.mp hX)
      exact h2.trans h3
    rw [cn_nan h1, cn_nan h4]
  · rw [cn_num hx] at h
    rw [h]
def zB (b : Bool) : Int32 := if b then 1 else 0
theorem zB_nar (b : Bool) : narrow .boolean (.int (zB b)) = .int (zB b) := by cases b <;> rfl
theorem zB_fit (b : Bool) : vp_nar .boolean (zB b) = zB b := by cases b <;> rfl
theorem zB_0 {b : Bool} : zB b = 0 ↔ b = false := by cases b <;> simp [zB]
theorem zB_n0 {b : Bool} : ¬ zB b = 0 ↔ b = true := by cases b <;> simp [zB]
theorem zB_t : zB true = 1 := rfl
theorem zB_f : zB false = 0 := rfl
section
variable {p : Program} {l : Launch} {e : Env} {R : Room} {s : State} {m : MethodId} {args : Array Value} {below : List Frame} {meth : Method} {c : Code} {H : Heap} {locs : List Loc} {cells slots : Nat} {Q : State → Prop}
variable {cc : ByteArray} {nL : Nat} {own : String} {D : va_G} {cy : Nat → ClassId} {ad : Nat → Nat} {I : Im} {G : Dm} {J : Jm} {d0 : Drawn} {pc : Nat} {ls : Array Slot} {rest : List Value}
variable {C : String} {T : u_T} {N ci index k cell b : Nat} {fs : (Nat → Int32) → (Nat → UInt64) → (Nat → Int64) → List Value}
theorem w_dneg (hx : p.tables.exec = Jvm.exec) (hb : c.code = cc) {x X : UInt64} (h : cn x = X) (hdg : decode cc pc = .ok (.dneg, 1))
    (kk : ∀ v : UInt64, cn v = Ng X → W p l e R (s.setDrawn d0) m args below meth c H locs cells slots Q (F0 m (pc + 1) ls (.double v :: rest))) :
    W p l e R (s.setDrawn d0) m args below meth c H locs cells slots Q (F0 m pc ls (.double x :: rest)) :=
  lv_dneg hx hb hdg (kk _ (cn_neg h))
theorem w_getI (am : Amb p s m args c cc nL own D cy ad) (hst : St D cy ad s.heap I G J H locs) (hc : cell < 72) (hE : ∀ i f j, cE cy ad cell i f j = .inr (ci, fs i f j)) (hcl : vwCl[ci]? = some (C, T, N)) (hin : ∀ w ∈ u_ws C T N, w ∈ tT) (hk : k < N) (hv : ∀ i f j, (fs i f j)[k]? = some (.int (i k))) (hw : Cond.fieldLink own index (T k).1 (T k).2.1 (T k).2.2.1 ∈ tT) (hdg : decode cc pc = .ok (.getfield index, 3))
    (kk : W p l e R (s.setDrawn d0) m args below meth c H locs cells slots Q (F0 m (pc + 3) ls (.int (I cell k) :: rest))) : W p l e R (s.setDrawn d0) m args below meth c H locs cells slots Q (F0 m pc ls (.ref (ad cell) :: rest)) :=
  w_get am hst (V := fun i f j => .int (i k)) hc hE hcl hin hk hw hv hdg (fun _ _ => kk)
theorem w_getD (am : Amb p s m args c cc nL own D cy ad) (hst : St D cy ad s.heap I G J H locs) (hc : cell < 72) (hE : ∀ i f j, cE cy ad cell i f j = .inr (ci, fs i f j)) (hcl : vwCl[ci]? = some (C, T, N)) (hin : ∀ w ∈ u_ws C T N, w ∈ tT) (hk : k < N) (hv : ∀ i f j, (fs i f j)[k]? = some (.double (f k))) (hw : Cond.fieldLink own index (T k).1 (T k).2.1 (T k).2.2.1 ∈ tT) (hdg : decode cc pc = .ok (.getfield index, 3))
    (kk : ∀ x : UInt64, cn x = G cell k → W p l e R (s.setDrawn d0) m args below meth c H locs cells slots Q (F0 m (pc + 3) ls (.double x :: rest))) : W p l e R (s.setDrawn d0) m args below meth c H locs cells slots Q (F0 m pc ls (.ref (ad cell) :: rest)) :=
  w_get am hst (V := fun i f j => .double (f k)) hc hE hcl hin hk hw hv hdg (fun F hF => kk _ (hF cell k))
theorem w_getJ (am : Amb p s m args c cc nL own D cy ad) (hst : St D cy ad s.heap I G J H locs) (hc : cell < 72) (hE : ∀ i f j, cE cy ad cell i f j = .inr (ci, fs i f j)) (hcl : vwCl[ci]? = some (C, T, N)) (hin : ∀ w ∈ u_ws C T N, w ∈ tT) (hk : k < N) (hv : ∀ i f j, (fs i f j)[k]? = some (.long (j k))) (hw : Cond.fieldLink own index (T k).1 (T k).2.1 (T k).2.2.1 ∈ tT) (hdg : decode cc pc = .ok (.getfield index, 3))
    (kk : W p l e R (s.setDrawn d0) m args below meth c H locs cells slots Q (F0 m (pc + 3) ls (.long (J cell k) :: rest))) : W p l e R (s.setDrawn d0) m args below meth c H locs cells slots Q (F0 m pc ls (.ref (ad cell) :: rest)) :=
  w_get am hst (V := fun i f j => .long (j k)) hc hE hcl hin hk hw hv hdg (fun _ _ => kk)
theorem w_getR (am : Amb p s m args c cc nL own D cy ad) (hst : St D cy ad s.heap I G J H locs) (hc : cell < 72) (hE : ∀ i f j, cE cy ad cell i f j = .inr (ci, fs i f j)) (hcl : vwCl[ci]? = some (C, T, N)) (hin : ∀ w ∈ u_ws C T N, w ∈ tT) (hk : k < N) (hv : ∀ i f j, (fs i f j)[k]? = some (.ref b)) (hw : Cond.fieldLink own index (T k).1 (T k).2.1 (T k).2.2.1 ∈ tT) (hdg : decode cc pc = .ok (.getfield index, 3))
    (kk : W p l e R (s.setDrawn d0) m args below meth c H locs cells slots Q (F0 m (pc + 3) ls (.ref b :: rest))) : W p l e R (s.setDrawn d0) m args below meth c H locs cells slots Q (F0 m pc ls (.ref (ad cell) :: rest)) :=
  w_get am hst (V := fun i f j => .ref b) hc hE hcl hin hk hw hv hdg (fun _ _ => kk)
theorem w_getIN (am : Amb p s m args c cc nL own D cy ad) (hst : St D cy ad s.heap I G J H locs) {host : String} (hc : cell < 72) (hE : ∀ i f j, cE cy ad cell i f j = .inr (ci, fs i f j)) (hcl : vwCl[ci]? = some (C, T, N)) (hin : ∀ w ∈ u_ws C T N, w ∈ tT) (hk : k < N) (hv : ∀ i f j, (fs i f j)[k]? = some (.int (i k))) (hw : Cond.fieldLinkNest own index (T k).1 (T k).2.1 (T k).2.2.1 host ∈ tT) (hdg : decode cc pc = .ok (.getfield index, 3))
    (kk : W p l e R (s.setDrawn d0) m args below meth c H locs cells slots Q (F0 m (pc + 3) ls (.int (I cell k) :: rest))) : W p l e R (s.setDrawn d0) m args below meth c H locs cells slots Q (F0 m pc ls (.ref (ad cell) :: rest)) :=
  w_getN am hst (V := fun i f j => .int (i k)) hc hE hcl hin hk hw hv hdg (fun _ _ => kk)
theorem w_getDN (am : Amb p s m args c cc nL own D cy ad) (hst : St D cy ad s.heap I G J H locs) {host : String} (hc : cell < 72) (hE : ∀ i f j, cE cy ad cell i f j = .inr (ci, fs i f j)) (hcl : vwCl[ci]? = some (C, T, N)) (hin : ∀ w ∈ u_ws C T N, w ∈ tT) (hk : k < N) (hv : ∀ i f j, (fs i f j)[k]? = some (.double (f k))) (hw : Cond.fieldLinkNest own index (T k).1 (T k).2.1 (T k).2.2.1 host ∈ tT) (hdg : decode cc pc = .ok (.getfield index, 3))
    (kk : ∀ x : UInt64, cn x = G cell k → W p l e R (s.setDrawn d0) m args below meth c H locs cells slots Q (F0 m (pc + 3) ls (.double x :: rest))) : W p l e R (s.setDrawn d0) m args below meth c H locs cells slots Q (F0 m pc ls (.ref (ad cell) :: rest)) :=
  w_getN am hst (V := fun i f j => .double (f k)) hc hE hcl hin hk hw hv hdg (fun F hF => kk _ (hF cell k))
theorem w_getJN (am : Amb p s m args c cc nL own D cy ad) (hst : St D cy ad s.heap I G J H locs) {host : String} (hc : cell < 72) (hE : ∀ i f j, cE cy ad cell i f j = .inr (ci, fs i f j)) (hcl : vwCl[ci]? = some (C, T, N)) (hin : ∀ w ∈ u_ws C T N, w ∈ tT) (hk : k < N) (hv : ∀ i f j, (fs i f j)[k]? = some (.long (j k))) (hw : Cond.fieldLinkNest own index (T k).1 (T k).2.1 (T k).2.2.1 host ∈ tT) (hdg : decode cc pc = .ok (.getfield index, 3))
    (kk : W p l e R (s.setDrawn d0) m args below meth c H locs cells slots Q (F0 m (pc + 3) ls (.long (J cell k) :: rest))) : W p l e R (s.setDrawn d0) m args below meth c H locs cells slots Q (F0 m pc ls (.ref (ad cell) :: rest)) :=
  w_getN am hst (V := fun i f j => .long (j k)) hc hE hcl hin hk hw hv hdg (fun _ _ => kk)
theorem w_getRN (am : Amb p s m args c cc nL own D cy ad) (hst : St D cy ad s.heap I G J H locs) {host : String} (hc : cell < 72) (hE : ∀ i f j, cE cy ad cell i f j = .inr (ci, fs i f j)) (hcl : vwCl[ci]? = some (C, T, N)) (hin : ∀ w ∈ u_ws C T N, w ∈ tT) (hk : k < N) (hv : ∀ i f j, (fs i f j)[k]? = some (.ref b)) (hw : Cond.fieldLinkNest own index (T k).1 (T k).2.1 (T k).2.2.1 host ∈ tT) (hdg : decode cc pc = .ok (.getfield index, 3))
    (kk : W p l e R (s.setDrawn d0) m args below meth c H locs cells slots Q (F0 m (pc + 3) ls (.ref b :: rest))) : W p l e R (s.setDrawn d0) m args below meth c H locs cells slots Q (F0 m pc ls (.ref (ad cell) :: rest)) :=
  w_getN am hst (V := fun i f j => .ref b) hc hE hcl hin hk hw hv hdg (fun _ _ => kk)
end
theorem wRX4_34 : Cond.constantDouble RX4 34 (4625196817309499392) ∈ tT := tT_in (k := 110) (by decide +kernel) rfl
theorem wRX0_32 : Cond.constantDouble RX0 32 (4611686018427387904) ∈ tT := tT_in (k := 207) (by decide +kernel) rfl
theorem wRX2_59 : Cond.constantDouble RX2 59 (4517110426252607488) ∈ tT := tT_in (k := 216) (by decide +kernel) rfl
theorem wRJ6_265 : Cond.constant RJ6 265 (1431655765) ∈ tT := tT_in (k := 236) (by decide +kernel) rfl
theorem wRJ6_266 : Cond.constant RJ6 266 (858993459) ∈ tT := tT_in (k := 237) (by decide +kernel) rfl
theorem wRJ6_267 : Cond.constant RJ6 267 (252645135) ∈ tT := tT_in (k := 238) (by decide +kernel) rfl
theorem wRX4_129 : Cond.constantDouble RX4 129 (4616189618054758400) ∈ tT := tT_in (k := 449) (by decide +kernel) rfl
theorem wRX4_183 : Cond.constantLong RX4 183 (-7046029254386353131) ∈ tT := tT_in (k := 543) (by decide +kernel) rfl
theorem wRX4_185 : Cond.constantLong RX4 185 (-4658895280553007687) ∈ tT := tT_in (k := 544) (by decide +kernel) rfl
theorem wRX4_187 : Cond.constantLong RX4 187 (-7723592293110705685) ∈ tT := tT_in (k := 545) (by decide +kernel) rfl
theorem wRX4_189 : Cond.constantDouble RX4 189 (4674736413210574848) ∈ tT := tT_in (k := 546) (by decide +kernel) rfl
theorem wRX5_48 : Cond.constantDouble RX5 48 (4625196817309499392) ∈ tT := tT_in (k := 553) (by decide +kernel) rfl
theorem wRX5_83 : Cond.constantDouble RX5 83 (4652007308841189376) ∈ tT := tT_in (k := 644) (by decide +kernel) rfl
theorem wRX5_89 : Cond.constantDouble RX5 89 (4636737291354636288) ∈ tT := tT_in (k := 652) (by decide +kernel) rfl
theorem wRX5_91 : Cond.constantDouble RX5 91 (4621819117588971520) ∈ tT := tT_in (k := 653) (by decide +kernel) rfl
theorem wRX5_93 : Cond.constantDouble RX5 93 (4611686018427387904) ∈ tT := tT_in (k := 682) (by decide +kernel) rfl
theorem wRX5_106 : Cond.constantDouble RX5 106 (4517110426252607488) ∈ tT := tT_in (k := 683) (by decide +kernel) rfl
theorem wRX5_116 : Cond.constantDouble RX5 116 (4616189618054758400) ∈ tT := tT_in (k := 708) (by decide +kernel) rfl
theorem wRX5_131 : Cond.constantDouble RX5 131 (13875379345695965184) ∈ tT := tT_in (k := 736) (by decide +kernel) rfl
theorem wRX5_133 : Cond.constantLong RX5 133 (-7046029254386353131) ∈ tT := tT_in (k := 745) (by decide +kernel) rfl
theorem wRX5_135 : Cond.constantLong RX5 135 (-4658895280553007687) ∈ tT := tT_in (k := 746) (by decide +kernel) rfl
theorem wRX5_137 : Cond.constantLong RX5 137 (-7723592293110705685) ∈ tT := tT_in (k := 747) (by decide +kernel) rfl
theorem wRX5_139 : Cond.constantDouble RX5 139 (4674736413210574848) ∈ tT := tT_in (k := 748) (by decide +kernel) rfl
theorem wRL_95 : Cond.constantDouble RL 95 (4593671619917905920) ∈ tT := tT_in (k := 749) (by decide +kernel) rfl
theorem cn_k13875379345695965184 : cn 13875379345695965184 = 13875379345695965184 := by decide +kernel
theorem cn_k4517110426252607488 : cn 4517110426252607488 = 4517110426252607488 := by decide +kernel
theorem cn_k4593671619917905920 : cn 4593671619917905920 = 4593671619917905920 := by decide +kernel
theorem cn_k4611686018427387904 : cn 4611686018427387904 = 4611686018427387904 := by decide +kernel
theorem cn_k4616189618054758400 : cn 4616189618054758400 = 4616189618054758400 := by decide +kernel
theorem cn_k4621819117588971520 : cn 4621819117588971520 = 4621819117588971520 := by decide +kernel
theorem cn_k4625196817309499392 : cn 4625196817309499392 = 4625196817309499392 := by decide +kernel
theorem cn_k4636737291354636288 : cn 4636737291354636288 = 4636737291354636288 := by decide +kernel
theorem cn_k4652007308841189376 : cn 4652007308841189376 = 4652007308841189376 := by decide +kernel
theorem cn_k4674736413210574848 : cn 4674736413210574848 = 4674736413210574848 := by decide +kernel
theorem fRX4_7 : Cond.fieldLink RX4 7 (TX4 0).1 (TX4 0).2.1 (TX4 0).2.2.1 ∈ tT := tT_in (k := 150) (by decide +kernel) rfl
theorem fRX4_15 : Cond.fieldLink RX4 15 (TX4 1).1 (TX4 1).2.1 (TX4 1).2.2.1 ∈ tT := tT_in (k := 151) (by decide +kernel) rfl
theorem fRX4_23 : Cond.fieldLink RX4 23 (TX4 3).1 (TX4 3).2.1 (TX4 3).2.2.1 ∈ tT := tT_in (k := 153) (by decide +kernel) rfl
theorem fRX4_27 : Cond.fieldLink RX4 27 (TX4 4).1 (TX4 4).2.1 (TX4 4).2.2.1 ∈ tT := tT_in (k := 154) (by decide +kernel) rfl
theorem fRX4_30 : Cond.fieldLink RX4 30 (TX4 5).1 (TX4 5).2.1 (TX4 5).2.2.1 ∈ tT := tT_in (k := 155) (by decide +kernel) rfl
theorem fRX4_39 : Cond.fieldLink RX4 39 (TX4 6).1 (TX4 6).2.1 (TX4 6).2.2.1 ∈ tT := tT_in (k := 156) (by decide +kernel) rfl
theorem fRX4_46 : Cond.fieldLink RX4 46 (TX4 7).1 (TX4 7).2.1 (TX4 7).2.2.1 ∈ tT := tT_in (k := 157) (by decide +kernel) rfl
theorem fRX4_50 : Cond.fieldLink RX4 50 (TX4 2).1 (TX4 2).2.1 (TX4 2).2.2.1 ∈ tT := tT_in (k := 152) (by decide +kernel) rfl
theorem fRX4_72 : Cond.fieldLinkNest RX4 72 (TX0 0).1 (TX0 0).2.1 (TX0 0).2.2.1 "StrengthRows" ∈ tT := tT_in (k := 60) (by decide +kernel) rfl
theorem fRX4_77 : Cond.fieldLinkNest RX4 77 (TX0 1).1 (TX0 1).2.1 (TX0 1).2.2.1 "StrengthRows" ∈ tT := tT_in (k := 61) (by decide +kernel) rfl
theorem fRX4_81 : Cond.fieldLinkNest RX4 81 (TX0 2).1 (TX0 2).2.1 (TX0 2).2.2.1 "StrengthRows" ∈ tT := tT_in (k := 64) (by decide +kernel) rfl
theorem fRX4_84 : Cond.fieldLinkNest RX4 84 (TX0 3).1 (TX0 3).2.1 (TX0 3).2.2.1 "StrengthRows" ∈ tT := tT_in (k := 65) (by decide +kernel) rfl
theorem fRX4_87 : Cond.fieldLinkNest RX4 87 (TX0 5).1 (TX0 5).2.1 (TX0 5).2.2.1 "StrengthRows" ∈ tT := tT_in (k := 70) (by decide +kernel) rfl
theorem fRX4_91 : Cond.fieldLinkNest RX4 91 (TX0 6).1 (TX0 6).2.1 (TX0 6).2.2.1 "StrengthRows" ∈ tT := tT_in (k := 71) (by decide +kernel) rfl
theorem fRX4_96 : Cond.fieldLinkNest RX4 96 (TX0 4).1 (TX0 4).2.1 (TX0 4).2.2.1 "StrengthRows" ∈ tT := tT_in (k := 68) (by decide +kernel) rfl
theorem fRX4_108 : Cond.fieldLinkNest RX4 108 (TX2 2).1 (TX2 2).2.1 (TX2 2).2.2.1 "StrengthRows" ∈ tT := tT_in (k := 101) (by decide +kernel) rfl
theorem fRX4_202 : Cond.fieldLinkNest RX4 202 (TX0 7).1 (TX0 7).2.1 (TX0 7).2.2.1 "StrengthRows" ∈ tT := tT_in (k := 72) (by decide +kernel) rfl
theorem fRX0_7 : Cond.fieldLink RX0 7 (TX0 0).1 (TX0 0).2.1 (TX0 0).2.2.1 ∈ tT := tT_in (k := 59) (by decide +kernel) rfl
theorem fRX0_13 : Cond.fieldLink RX0 13 (TX0 2).1 (TX0 2).2.1 (TX0 2).2.2.1 ∈ tT := tT_in (k := 63) (by decide +kernel) rfl
theorem fRX0_21 : Cond.fieldLink RX0 21 (TX0 5).1 (TX0 5).2.1 (TX0 5).2.2.1 ∈ tT := tT_in (k := 69) (by decide +kernel) rfl
theorem fRX0_25 : Cond.fieldLink RX0 25 (TX0 1).1 (TX0 1).2.1 (TX0 1).2.2.1 ∈ tT := tT_in (k := 62) (by decide +kernel) rfl
theorem fRX0_34 : Cond.fieldLink RX0 34 (TX0 3).1 (TX0 3).2.1 (TX0 3).2.2.1 ∈ tT := tT_in (k := 66) (by decide +kernel) rfl
theorem fRX1_9 : Cond.fieldLink RX1 9 (TX1 0).1 (TX1 0).2.1 (TX1 0).2.2.1 ∈ tT := tT_in (k := 117) (by decide +kernel) rfl
theorem fRX1_15 : Cond.fieldLink RX1 15 (TX1 1).1 (TX1 1).2.1 (TX1 1).2.2.1 ∈ tT := tT_in (k := 118) (by decide +kernel) rfl
theorem fRX1_18 : Cond.fieldLink RX1 18 (TX1 2).1 (TX1 2).2.1 (TX1 2).2.2.1 ∈ tT := tT_in (k := 119) (by decide +kernel) rfl
theorem fRX1_21 : Cond.fieldLink RX1 21 (TX1 3).1 (TX1 3).2.1 (TX1 3).2.2.1 ∈ tT := tT_in (k := 120) (by decide +kernel) rfl
theorem fRX2_11 : Cond.fieldLink RX2 11 (TX2 0).1 (TX2 0).2.1 (TX2 0).2.2.1 ∈ tT := tT_in (k := 98) (by decide +kernel) rfl
theorem fRX2_16 : Cond.fieldLink RX2 16 (TX2 1).1 (TX2 1).2.1 (TX2 1).2.2.1 ∈ tT := tT_in (k := 99) (by decide +kernel) rfl
theorem fRX2_20 : Cond.fieldLink RX2 20 (TX2 2).1 (TX2 2).2.1 (TX2 2).2.2.1 ∈ tT := tT_in (k := 100) (by decide +kernel) rfl
theorem fRX2_47 : Cond.fieldLinkNest RX2 47 (TX0 4).1 (TX0 4).2.1 (TX0 4).2.2.1 "StrengthRows" ∈ tT := tT_in (k := 67) (by decide +kernel) rfl
theorem fRX3_9 : Cond.fieldLink RX3 9 (TX3 0).1 (TX3 0).2.1 (TX3 0).2.2.1 ∈ tT := tT_in (k := 136) (by decide +kernel) rfl
theorem fRX3_15 : Cond.fieldLink RX3 15 (TX3 1).1 (TX3 1).2.1 (TX3 1).2.2.1 ∈ tT := tT_in (k := 137) (by decide +kernel) rfl
theorem fRX3_19 : Cond.fieldLink RX3 19 (TX3 3).1 (TX3 3).2.1 (TX3 3).2.2.1 ∈ tT := tT_in (k := 139) (by decide +kernel) rfl
theorem fRX3_23 : Cond.fieldLink RX3 23 (TX3 2).1 (TX3 2).2.1 (TX3 2).2.2.1 ∈ tT := tT_in (k := 138) (by decide +kernel) rfl
theorem fRX5_7 : Cond.fieldLink RX5 7 (TX5 3).1 (TX5 3).2.1 (TX5 3).2.2.1 ∈ tT := tT_in (k := 557) (by decide +kernel) rfl
theorem fRX5_13 : Cond.fieldLink RX5 13 (TX5 4).1 (TX5 4).2.1 (TX5 4).2.2.1 ∈ tT := tT_in (k := 558) (by decide +kernel) rfl
theorem fRX5_17 : Cond.fieldLink RX5 17 (TX5 5).1 (TX5 5).2.1 (TX5 5).2.2.1 ∈ tT := tT_in (k := 559) (by decide +kernel) rfl
theorem fRX5_20 : Cond.fieldLink RX5 20 (TX5 6).1 (TX5 6).2.1 (TX5 6).2.2.1 ∈ tT := tT_in (k := 560) (by decide +kernel) rfl
theorem fRX5_23 : Cond.fieldLink RX5 23 (TX5 7).1 (TX5 7).2.1 (TX5 7).2.2.1 ∈ tT := tT_in (k := 561) (by decide +kernel) rfl
theorem fRX5_26 : Cond.fieldLink RX5 26 (TX5 8).1 (TX5 8).2.1 (TX5 8).2.2.1 ∈ tT := tT_in (k := 562) (by decide +kernel) rfl
theorem fRX5_30 : Cond.fieldLink RX5 30 (TX5 9).1 (TX5 9).2.1 (TX5 9).2.2.1 ∈ tT := tT_in (k := 563) (by decide +kernel) rfl
theorem fRX5_33 : Cond.fieldLink RX5 33 (TX5 10).1 (TX5 10).2.1 (TX5 10).2.2.1 ∈ tT := tT_in (k := 564) (by decide +kernel) rfl
theorem fRX5_36 : Cond.fieldLink RX5 36 (TX5 11).1 (TX5 11).2.1 (TX5 11).2.2.1 ∈ tT := tT_in (k := 565) (by decide +kernel) rfl
theorem fRX5_39 : Cond.fieldLink RX5 39 (TX5 12).1 (TX5 12).2.1 (TX5 12).2.2.1 ∈ tT := tT_in (k := 566) (by decide +kernel) rfl
theorem fRX5_42 : Cond.fieldLink RX5 42 (TX5 13).1 (TX5 13).2.1 (TX5 13).2.2.1 ∈ tT := tT_in (k := 567) (by decide +kernel) rfl
theorem fRX5_45 : Cond.fieldLink RX5 45 (TX5 14).1 (TX5 14).2.1 (TX5 14).2.2.1 ∈ tT := tT_in (k := 568) (by decide +kernel) rfl
theorem fRX5_50 : Cond.fieldLink RX5 50 (TX5 15).1 (TX5 15).2.1 (TX5 15).2.2.1 ∈ tT := tT_in (k := 569) (by decide +kernel) rfl
theorem fRX5_53 : Cond.fieldLink RX5 53 (TX5 16).1 (TX5 16).2.1 (TX5 16).2.2.1 ∈ tT := tT_in (k := 570) (by decide +kernel) rfl
theorem fRX5_57 : Cond.fieldLink RX5 57 (TX5 17).1 (TX5 17).2.1 (TX5 17).2.2.1 ∈ tT := tT_in (k := 571) (by decide +kernel) rfl
theorem fRX5_60 : Cond.fieldLink RX5 60 (TX5 20).1 (TX5 20).2.1 (TX5 20).2.2.1 ∈ tT := tT_in (k := 574) (by decide +kernel) rfl
theorem fRX5_63 : Cond.fieldLink RX5 63 (TX5 22).1 (TX5 22).2.1 (TX5 22).2.2.1 ∈ tT := tT_in (k := 576) (by decide +kernel) rfl
theorem fRX5_66 : Cond.fieldLink RX5 66 (TX5 23).1 (TX5 23).2.1 (TX5 23).2.2.1 ∈ tT := tT_in (k := 577) (by decide +kernel) rfl
theorem fRX5_69 : Cond.fieldLink RX5 69 (TX5 1).1 (TX5 1).2.1 (TX5 1).2.2.1 ∈ tT := tT_in (k := 555) (by decide +kernel) rfl
theorem fRX5_73 : Cond.fieldLink RX5 73 (TX5 0).1 (TX5 0).2.1 (TX5 0).2.2.1 ∈ tT := tT_in (k := 554) (by decide +kernel) rfl
theorem fRX5_76 : Cond.fieldLink RX5 76 (TX5 2).1 (TX5 2).2.1 (TX5 2).2.2.1 ∈ tT := tT_in (k := 556) (by decide +kernel) rfl
theorem fRX5_122 : Cond.fieldLink RX5 122 (TX5 19).1 (TX5 19).2.1 (TX5 19).2.2.1 ∈ tT := tT_in (k := 573) (by decide +kernel) rfl
theorem fRX5_125 : Cond.fieldLink RX5 125 (TX5 18).1 (TX5 18).2.1 (TX5 18).2.2.1 ∈ tT := tT_in (k := 572) (by decide +kernel) rfl
theorem fRX5_128 : Cond.fieldLink RX5 128 (TX5 21).1 (TX5 21).2.1 (TX5 21).2.2.1 ∈ tT := tT_in (k := 575) (by decide +kernel) rfl
theorem kRX4_19 : cwN (.code yX0_init cX0_init 1 none) RX4 19 yX0_init "StrengthRows" 0 := ⟨tT_in (k := 57) (by decide +kernel) rfl, tT_in (k := 55) (by decide +kernel) rfl, tT_in (k := 32) (by decide +kernel) rfl, ⟨by decide +kernel, by decide +kernel⟩, by decide +kernel⟩
theorem imX0_init : Cond.instanceMethod yX0_init ∈ tT := tT_in (k := 56) (by decide +kernel) rfl
theorem kRX4_22 : cwN (.code yX2_init cX2_init 1 none) RX4 22 yX2_init "StrengthRows" 0 := ⟨tT_in (k := 94) (by decide +kernel) rfl, tT_in (k := 92) (by decide +kernel) rfl, tT_in (k := 33) (by decide +kernel) rfl, ⟨by decide +kernel, by decide +kernel⟩, by decide +kernel⟩
theorem imX2_init : Cond.instanceMethod yX2_init ∈ tT := tT_in (k := 93) (by decide +kernel) rfl
theorem kRX4_38 : cwN (.code yX1_init cX1_init 1 none) RX4 38 yX1_init "StrengthRows" 0 := ⟨tT_in (k := 115) (by decide +kernel) rfl, tT_in (k := 113) (by decide +kernel) rfl, tT_in (k := 34) (by decide +kernel) rfl, ⟨by decide +kernel, by decide +kernel⟩, by decide +kernel⟩
theorem imX1_init : Cond.instanceMethod yX1_init ∈ tT := tT_in (k := 114) (by decide +kernel) rfl
theorem kRX4_45 : cwN (.code yX3_init cX3_init 1 none) RX4 45 yX3_init "StrengthRows" 0 := ⟨tT_in (k := 134) (by decide +kernel) rfl, tT_in (k := 132) (by decide +kernel) rfl, tT_in (k := 35) (by decide +kernel) rfl, ⟨by decide +kernel, by decide +kernel⟩, by decide +kernel⟩
theorem imX3_init : Cond.instanceMethod yX3_init ∈ tT := tT_in (k := 133) (by decide +kernel) rfl
theorem kRX4_60 : cwK (.code yX4_boardAt cX4_boardAt 2 (some (.object "StrengthRows$Board"))) RX4 60 yX4_boardAt 1 := ⟨tT_in (k := 330) (by decide +kernel) rfl, tT_in (k := 327) (by decide +kernel) rfl, tT_in (k := 31) (by decide +kernel) rfl, ⟨by decide +kernel, by decide +kernel⟩, by decide +kernel⟩
theorem imX4_boardAt : Cond.instanceMethod yX4_boardAt ∈ tT := tT_in (k := 329) (by decide +kernel) rfl
theorem slX4_boardAt : Cond.selects RX4 yX4_boardAt yX4_boardAt ∈ tT := tT_in (k := 13) (by decide +kernel) rfl
theorem kRX4_64 : cwK (.code yX4_isWithin cX4_isWithin 4 (some .boolean)) RX4 64 yX4_isWithin 3 := ⟨tT_in (k := 349) (by decide +kernel) rfl, tT_in (k := 347) (by decide +kernel) rfl, tT_in (k := 31) (by decide +kernel) rfl, ⟨by decide +kernel, by decide +kernel⟩, by decide +kernel⟩
theorem smX4_isWithin : Cond.static yX4_isWithin ∈ tT := tT_in (k := 348) (by decide +kernel) rfl
theorem kRX4_68 : cwK (.code yX4_need cX4_need 1 none) RX4 68 yX4_need 1 := ⟨tT_in (k := 352) (by decide +kernel) rfl, tT_in (k := 350) (by decide +kernel) rfl, tT_in (k := 31) (by decide +kernel) rfl, ⟨by decide +kernel, by decide +kernel⟩, by decide +kernel⟩
theorem smX4_need : Cond.static yX4_need ∈ tT := tT_in (k := 351) (by decide +kernel) rfl
theorem kRX4_99 : cwN (.code yX2_reckon cX2_reckon 7 (some .int)) RX4 99 yX2_reckon "StrengthRows" 2 := ⟨tT_in (k := 182) (by decide +kernel) rfl, tT_in (k := 179) (by decide +kernel) rfl, tT_in (k := 33) (by decide +kernel) rfl, ⟨by decide +kernel, by decide +kernel⟩, by decide +kernel⟩
theorem imX2_reckon : Cond.instanceMethod yX2_reckon ∈ tT := tT_in (k := 181) (by decide +kernel) rfl
theorem slX2_reckon : Cond.selects RX2 yX2_reckon yX2_reckon ∈ tT := tT_in (k := 0) (by decide +kernel) rfl
theorem kRX4_111 : cwK (.code yX4_completeBoardAt cX4_completeBoardAt 3 (some (.object "StrengthRows$Board"))) RX4 111 yX4_completeBoardAt 1 := ⟨tT_in (k := 410) (by decide +kernel) rfl, tT_in (k := 407) (by decide +kernel) rfl, tT_in (k := 31) (by decide +kernel) rfl, ⟨by decide +kernel, by decide +kernel⟩, by decide +kernel⟩
theorem imX4_completeBoardAt : Cond.instanceMethod yX4_completeBoardAt ∈ tT := tT_in (k := 409) (by decide +kernel) rfl
theorem slX4_completeBoardAt : Cond.selects RX4 yX4_completeBoardAt yX4_completeBoardAt ∈ tT := tT_in (k := 14) (by decide +kernel) rfl
theorem kRX4_114 : cwN (.code yX2_foretell cX2_foretell 2 (some .double)) RX4 114 yX2_foretell "StrengthRows" 1 := ⟨tT_in (k := 416) (by decide +kernel) rfl, tT_in (k := 413) (by decide +kernel) rfl, tT_in (k := 33) (by decide +kernel) rfl, ⟨by decide +kernel, by decide +kernel⟩, by decide +kernel⟩
theorem imX2_foretell : Cond.instanceMethod yX2_foretell ∈ tT := tT_in (k := 415) (by decide +kernel) rfl
theorem slX2_foretell : Cond.selects RX2 yX2_foretell yX2_foretell ∈ tT := tT_in (k := 15) (by decide +kernel) rfl
theorem kRX4_118 : cwK (.code yX4_checkClass cX4_checkClass 1 none) RX4 118 yX4_checkClass 1 := ⟨tT_in (k := 433) (by decide +kernel) rfl, tT_in (k := 431) (by decide +kernel) rfl, tT_in (k := 31) (by decide +kernel) rfl, ⟨by decide +kernel, by decide +kernel⟩, by decide +kernel⟩
theorem smX4_checkClass : Cond.static yX4_checkClass ∈ tT := tT_in (k := 432) (by decide +kernel) rfl
theorem kRX4_122 : cwK (.code yX4_isShare cX4_isShare 3 (some .boolean)) RX4 122 yX4_isShare 3 := ⟨tT_in (k := 444) (by decide +kernel) rfl, tT_in (k := 442) (by decide +kernel) rfl, tT_in (k := 31) (by decide +kernel) rfl, ⟨by decide +kernel, by decide +kernel⟩, by decide +kernel⟩
theorem smX4_isShare : Cond.static yX4_isShare ∈ tT := tT_in (k := 443) (by decide +kernel) rfl
theorem kRX4_126 : cwK (.code yX4_keepForetold cX4_keepForetold 5 none) RX4 126 yX4_keepForetold 0 := ⟨tT_in (k := 448) (by decide +kernel) rfl, tT_in (k := 445) (by decide +kernel) rfl, tT_in (k := 31) (by decide +kernel) rfl, ⟨by decide +kernel, by decide +kernel⟩, by decide +kernel⟩
theorem imX4_keepForetold : Cond.instanceMethod yX4_keepForetold ∈ tT := tT_in (k := 447) (by decide +kernel) rfl
theorem slX4_keepForetold : Cond.selects RX4 yX4_keepForetold yX4_keepForetold ∈ tT := tT_in (k := 16) (by decide +kernel) rfl
theorem kRX4_131 : cwK (.code yX4_isEnough cX4_isEnough 13 (some .boolean)) RX4 131 yX4_isEnough 4 := ⟨tT_in (k := 453) (by decide +kernel) rfl, tT_in (k := 450) (by decide +kernel) rfl, tT_in (k := 31) (by decide +kernel) rfl, ⟨by decide +kernel, by decide +kernel⟩, by decide +kernel⟩
theorem imX4_isEnough : Cond.instanceMethod yX4_isEnough ∈ tT := tT_in (k := 452) (by decide +kernel) rfl
theorem slX4_isEnough : Cond.selects RX4 yX4_isEnough yX4_isEnough ∈ tT := tT_in (k := 17) (by decide +kernel) rfl
theorem kRX4_137 : cwK (.code yX4_waysOfFew cX4_waysOfFew 9 (some .long)) RX4 137 yX4_waysOfFew 4 := ⟨tT_in (k := 465) (by decide +kernel) rfl, tT_in (k := 463) (by decide +kernel) rfl, tT_in (k := 31) (by decide +kernel) rfl, ⟨by decide +kernel, by decide +kernel⟩, by decide +kernel⟩
theorem smX4_waysOfFew : Cond.static yX4_waysOfFew ∈ tT := tT_in (k := 464) (by decide +kernel) rfl
theorem kRX4_141 : cwK (.code yX4_power cX4_power 5 (some .long)) RX4 141 yX4_power 2 := ⟨tT_in (k := 468) (by decide +kernel) rfl, tT_in (k := 466) (by decide +kernel) rfl, tT_in (k := 31) (by decide +kernel) rfl, ⟨by decide +kernel, by decide +kernel⟩, by decide +kernel⟩
theorem smX4_power : Cond.static yX4_power ∈ tT := tT_in (k := 467) (by decide +kernel) rfl
theorem kRX4_145 : cwK (.code yX4_commonDivisor cX4_commonDivisor 11 (some .long)) RX4 145 yX4_commonDivisor 2 := ⟨tT_in (k := 471) (by decide +kernel) rfl, tT_in (k := 469) (by decide +kernel) rfl, tT_in (k := 31) (by decide +kernel) rfl, ⟨by decide +kernel, by decide +kernel⟩, by decide +kernel⟩
theorem smX4_commonDivisor : Cond.static yX4_commonDivisor ∈ tT := tT_in (k := 470) (by decide +kernel) rfl
theorem kRX4_149 : cwN (.code yX1_begin cX1_begin 3 none) RX4 149 yX1_begin "StrengthRows" 2 := ⟨tT_in (k := 482) (by decide +kernel) rfl, tT_in (k := 479) (by decide +kernel) rfl, tT_in (k := 34) (by decide +kernel) rfl, ⟨by decide +kernel, by decide +kernel⟩, by decide +kernel⟩
theorem imX1_begin : Cond.instanceMethod yX1_begin ∈ tT := tT_in (k := 481) (by decide +kernel) rfl
theorem slX1_begin : Cond.selects RX1 yX1_begin yX1_begin ∈ tT := tT_in (k := 18) (by decide +kernel) rfl
theorem kRX4_153 : cwN (.code yX1_actsAt cX1_actsAt 2 (some .boolean)) RX4 153 yX1_actsAt "StrengthRows" 1 := ⟨tT_in (k := 232) (by decide +kernel) rfl, tT_in (k := 229) (by decide +kernel) rfl, tT_in (k := 34) (by decide +kernel) rfl, ⟨by decide +kernel, by decide +kernel⟩, by decide +kernel⟩
theorem imX1_actsAt : Cond.instanceMethod yX1_actsAt ∈ tT := tT_in (k := 231) (by decide +kernel) rfl
theorem slX1_actsAt : Cond.selects RX1 yX1_actsAt yX1_actsAt ∈ tT := tT_in (k := 11) (by decide +kernel) rfl
theorem kRX4_157 : cwN (.code yX0_isComplete cX0_isComplete 1 (some .boolean)) RX4 157 yX0_isComplete "StrengthRows" 0 := ⟨tT_in (k := 194) (by decide +kernel) rfl, tT_in (k := 411) (by decide +kernel) rfl, tT_in (k := 32) (by decide +kernel) rfl, ⟨by decide +kernel, by decide +kernel⟩, by decide +kernel⟩
theorem imX0_isComplete : Cond.instanceMethod yX0_isComplete ∈ tT := tT_in (k := 193) (by decide +kernel) rfl
theorem slX0_isComplete : Cond.selects RX0 yX0_isComplete yX0_isComplete ∈ tT := tT_in (k := 3) (by decide +kernel) rfl
theorem kRX4_163 : cwK (.code yX4_isDay cX4_isDay 1 (some .boolean)) RX4 163 yX4_isDay 1 := ⟨tT_in (k := 507) (by decide +kernel) rfl, tT_in (k := 505) (by decide +kernel) rfl, tT_in (k := 31) (by decide +kernel) rfl, ⟨by decide +kernel, by decide +kernel⟩, by decide +kernel⟩
theorem smX4_isDay : Cond.static yX4_isDay ∈ tT := tT_in (k := 506) (by decide +kernel) rfl
theorem kRX4_167 : cwN (.code yX3_isBehindLast cX3_isBehindLast 2 (some .boolean)) RX4 167 yX3_isBehindLast "StrengthRows" 1 := ⟨tT_in (k := 511) (by decide +kernel) rfl, tT_in (k := 508) (by decide +kernel) rfl, tT_in (k := 35) (by decide +kernel) rfl, ⟨by decide +kernel, by decide +kernel⟩, by decide +kernel⟩
theorem imX3_isBehindLast : Cond.instanceMethod yX3_isBehindLast ∈ tT := tT_in (k := 510) (by decide +kernel) rfl
theorem slX3_isBehindLast : Cond.selects RX3 yX3_isBehindLast yX3_isBehindLast ∈ tT := tT_in (k := 19) (by decide +kernel) rfl
theorem kRX4_170 : cwN (.code yX3_isFull cX3_isFull 1 (some .boolean)) RX4 170 yX3_isFull "StrengthRows" 0 := ⟨tT_in (k := 515) (by decide +kernel) rfl, tT_in (k := 512) (by decide +kernel) rfl, tT_in (k := 35) (by decide +kernel) rfl, ⟨by decide +kernel, by decide +kernel⟩, by decide +kernel⟩
theorem imX3_isFull : Cond.instanceMethod yX3_isFull ∈ tT := tT_in (k := 514) (by decide +kernel) rfl
theorem slX3_isFull : Cond.selects RX3 yX3_isFull yX3_isFull ∈ tT := tT_in (k := 20) (by decide +kernel) rfl
theorem kRX4_175 : cwN (.code yX3_append cX3_append 4 (some .int)) RX4 175 yX3_append "StrengthRows" 2 := ⟨tT_in (k := 520) (by decide +kernel) rfl, tT_in (k := 517) (by decide +kernel) rfl, tT_in (k := 35) (by decide +kernel) rfl, ⟨by decide +kernel, by decide +kernel⟩, by decide +kernel⟩
theorem imX3_append : Cond.instanceMethod yX3_append ∈ tT := tT_in (k := 519) (by decide +kernel) rfl
theorem slX3_append : Cond.selects RX3 yX3_append yX3_append ∈ tT := tT_in (k := 21) (by decide +kernel) rfl
theorem kRX4_179 : cwN (.code yX3_valueAt cX3_valueAt 5 (some .double)) RX4 179 yX3_valueAt "StrengthRows" 1 := ⟨tT_in (k := 531) (by decide +kernel) rfl, tT_in (k := 528) (by decide +kernel) rfl, tT_in (k := 35) (by decide +kernel) rfl, ⟨by decide +kernel, by decide +kernel⟩, by decide +kernel⟩
theorem imX3_valueAt : Cond.instanceMethod yX3_valueAt ∈ tT := tT_in (k := 530) (by decide +kernel) rfl
theorem slX3_valueAt : Cond.selects RX3 yX3_valueAt yX3_valueAt ∈ tT := tT_in (k := 22) (by decide +kernel) rfl
theorem kRX4_205 : cwN (.code yX0_isFitted cX0_isFitted 1 (some .boolean)) RX4 205 yX0_isFitted "StrengthRows" 0 := ⟨tT_in (k := 190) (by decide +kernel) rfl, tT_in (k := 454) (by decide +kernel) rfl, tT_in (k := 32) (by decide +kernel) rfl, ⟨by decide +kernel, by decide +kernel⟩, by decide +kernel⟩
theorem imX0_isFitted : Cond.instanceMethod yX0_isFitted ∈ tT := tT_in (k := 189) (by decide +kernel) rfl
theorem slX0_isFitted : Cond.selects RX0 yX0_isFitted yX0_isFitted ∈ tT := tT_in (k := 2) (by decide +kernel) rfl
theorem kRX0_17 : cwK (.code yX0_isComplete cX0_isComplete 1 (some .boolean)) RX0 17 yX0_isComplete 0 := ⟨tT_in (k := 194) (by decide +kernel) rfl, tT_in (k := 191) (by decide +kernel) rfl, tT_in (k := 32) (by decide +kernel) rfl, ⟨by decide +kernel, by decide +kernel⟩, by decide +kernel⟩
theorem kRX0_28 : cwK (.code yX0_mean cX0_mean 1 (some .double)) RX0 28 yX0_mean 0 := ⟨tT_in (k := 206) (by decide +kernel) rfl, tT_in (k := 203) (by decide +kernel) rfl, tT_in (k := 32) (by decide +kernel) rfl, ⟨by decide +kernel, by decide +kernel⟩, by decide +kernel⟩
theorem imX0_mean : Cond.instanceMethod yX0_mean ∈ tT := tT_in (k := 205) (by decide +kernel) rfl
theorem slX0_mean : Cond.selects RX0 yX0_mean yX0_mean ∈ tT := tT_in (k := 6) (by decide +kernel) rfl
theorem kRX1_24 : cwK (.code yJ6_bitCount_0f7a4 cJ6_bitCount_0f7a4 1 (some .int)) RX1 24 yJ6_bitCount_0f7a4 1 := ⟨tT_in (k := 235) (by decide +kernel) rfl, tT_in (k := 233) (by decide +kernel) rfl, tT_in (k := 43) (by decide +kernel) rfl, ⟨by decide +kernel, by decide +kernel⟩, by decide +kernel⟩
theorem smJ6_bitCount_0f7a4 : Cond.static yJ6_bitCount_0f7a4 ∈ tT := tT_in (k := 234) (by decide +kernel) rfl
theorem kRX2_23 : cwK (.code yX2_clear cX2_clear 3 none) RX2 23 yX2_clear 0 := ⟨tT_in (k := 186) (by decide +kernel) rfl, tT_in (k := 183) (by decide +kernel) rfl, tT_in (k := 33) (by decide +kernel) rfl, ⟨by decide +kernel, by decide +kernel⟩, by decide +kernel⟩
theorem imX2_clear : Cond.instanceMethod yX2_clear ∈ tT := tT_in (k := 185) (by decide +kernel) rfl
theorem slX2_clear : Cond.selects RX2 yX2_clear yX2_clear ∈ tT := tT_in (k := 1) (by decide +kernel) rfl
theorem kRX2_26 : cwN (.code yX0_isFitted cX0_isFitted 1 (some .boolean)) RX2 26 yX0_isFitted "StrengthRows" 0 := ⟨tT_in (k := 190) (by decide +kernel) rfl, tT_in (k := 187) (by decide +kernel) rfl, tT_in (k := 32) (by decide +kernel) rfl, ⟨by decide +kernel, by decide +kernel⟩, by decide +kernel⟩
theorem kRX2_32 : cwK (.code yX2_add cX2_add 4 none) RX2 32 yX2_add 1 := ⟨tT_in (k := 198) (by decide +kernel) rfl, tT_in (k := 195) (by decide +kernel) rfl, tT_in (k := 33) (by decide +kernel) rfl, ⟨by decide +kernel, by decide +kernel⟩, by decide +kernel⟩
theorem imX2_add : Cond.instanceMethod yX2_add ∈ tT := tT_in (k := 197) (by decide +kernel) rfl
theorem slX2_add : Cond.selects RX2 yX2_add yX2_add ∈ tT := tT_in (k := 4) (by decide +kernel) rfl
theorem kRX2_36 : cwK (.code yX2_eliminate cX2_eliminate 4 (some .int)) RX2 36 yX2_eliminate 0 := ⟨tT_in (k := 211) (by decide +kernel) rfl, tT_in (k := 208) (by decide +kernel) rfl, tT_in (k := 33) (by decide +kernel) rfl, ⟨by decide +kernel, by decide +kernel⟩, by decide +kernel⟩
theorem imX2_eliminate : Cond.instanceMethod yX2_eliminate ∈ tT := tT_in (k := 210) (by decide +kernel) rfl
theorem slX2_eliminate : Cond.selects RX2 yX2_eliminate yX2_eliminate ∈ tT := tT_in (k := 7) (by decide +kernel) rfl
theorem kRX2_40 : cwK (.code yX2_substitute cX2_substitute 5 none) RX2 40 yX2_substitute 0 := ⟨tT_in (k := 224) (by decide +kernel) rfl, tT_in (k := 221) (by decide +kernel) rfl, tT_in (k := 33) (by decide +kernel) rfl, ⟨by decide +kernel, by decide +kernel⟩, by decide +kernel⟩
theorem imX2_substitute : Cond.instanceMethod yX2_substitute ∈ tT := tT_in (k := 223) (by decide +kernel) rfl
theorem slX2_substitute : Cond.selects RX2 yX2_substitute yX2_substitute ∈ tT := tT_in (k := 10) (by decide +kernel) rfl
theorem kRX2_43 : cwN (.code yX0_term cX0_term 2 (some .double)) RX2 43 yX0_term "StrengthRows" 1 := ⟨tT_in (k := 202) (by decide +kernel) rfl, tT_in (k := 199) (by decide +kernel) rfl, tT_in (k := 32) (by decide +kernel) rfl, ⟨by decide +kernel, by decide +kernel⟩, by decide +kernel⟩
theorem imX0_term : Cond.instanceMethod yX0_term ∈ tT := tT_in (k := 201) (by decide +kernel) rfl
theorem slX0_term : Cond.selects RX0 yX0_term yX0_term ∈ tT := tT_in (k := 5) (by decide +kernel) rfl
theorem kRX2_51 : cwK (.code yX2_isPassedOver cX2_isPassedOver 6 (some .boolean)) RX2 51 yX2_isPassedOver 1 := ⟨tT_in (k := 215) (by decide +kernel) rfl, tT_in (k := 212) (by decide +kernel) rfl, tT_in (k := 33) (by decide +kernel) rfl, ⟨by decide +kernel, by decide +kernel⟩, by decide +kernel⟩
theorem imX2_isPassedOver : Cond.instanceMethod yX2_isPassedOver ∈ tT := tT_in (k := 214) (by decide +kernel) rfl
theorem slX2_isPassedOver : Cond.selects RX2 yX2_isPassedOver yX2_isPassedOver ∈ tT := tT_in (k := 8) (by decide +kernel) rfl
theorem kRX2_55 : cwK (.code yX2_lessen cX2_lessen 6 none) RX2 55 yX2_lessen 3 := ⟨tT_in (k := 220) (by decide +kernel) rfl, tT_in (k := 217) (by decide +kernel) rfl, tT_in (k := 33) (by decide +kernel) rfl, ⟨by decide +kernel, by decide +kernel⟩, by decide +kernel⟩
theorem imX2_lessen : Cond.instanceMethod yX2_lessen ∈ tT := tT_in (k := 219) (by decide +kernel) rfl
theorem slX2_lessen : Cond.selects RX2 yX2_lessen yX2_lessen ∈ tT := tT_in (k := 9) (by decide +kernel) rfl
theorem kRX3_26 : cwK (.code yX3_between cX3_between 8 (some .double)) RX3 26 yX3_between 3 := ⟨tT_in (k := 535) (by decide +kernel) rfl, tT_in (k := 532) (by decide +kernel) rfl, tT_in (k := 35) (by decide +kernel) rfl, ⟨by decide +kernel, by decide +kernel⟩, by decide +kernel⟩
theorem imX3_between : Cond.instanceMethod yX3_between ∈ tT := tT_in (k := 534) (by decide +kernel) rfl
theorem slX3_between : Cond.selects RX3 yX3_between yX3_between ∈ tT := tT_in (k := 23) (by decide +kernel) rfl
theorem kRL_7 : cwK (.code yX4_board cX4_board 1 (some .int)) RL 7 yX4_board 0 := ⟨tT_in (k := 249) (by decide +kernel) rfl, tT_in (k := 246) (by decide +kernel) rfl, tT_in (k := 31) (by decide +kernel) rfl, ⟨by decide +kernel, by decide +kernel⟩, by decide +kernel⟩
theorem imX4_board : Cond.instanceMethod yX4_board ∈ tT := tT_in (k := 247) (by decide +kernel) rfl
theorem slX4_board : Cond.selects RX4 yX4_board yX4_board ∈ tT := tT_in (k := 248) (by decide +kernel) rfl
theorem kRL_15 : cwK (.code yX4_row cX4_row 5 (some .int)) RL 15 yX4_row 2 := ⟨tT_in (k := 326) (by decide +kernel) rfl, tT_in (k := 323) (by decide +kernel) rfl, tT_in (k := 31) (by decide +kernel) rfl, ⟨by decide +kernel, by decide +kernel⟩, by decide +kernel⟩
theorem imX4_row : Cond.instanceMethod yX4_row ∈ tT := tT_in (k := 324) (by decide +kernel) rfl
theorem slX4_row : Cond.selects RX4 yX4_row yX4_row ∈ tT := tT_in (k := 325) (by decide +kernel) rfl
theorem kRL_23 : cwK (.code yX4_echo cX4_echo 7 none) RL 23 yX4_echo 3 := ⟨tT_in (k := 376) (by decide +kernel) rfl, tT_in (k := 373) (by decide +kernel) rfl, tT_in (k := 31) (by decide +kernel) rfl, ⟨by decide +kernel, by decide +kernel⟩, by decide +kernel⟩
theorem imX4_echo : Cond.instanceMethod yX4_echo ∈ tT := tT_in (k := 374) (by decide +kernel) rfl
theorem slX4_echo : Cond.selects RX4 yX4_echo yX4_echo ∈ tT := tT_in (k := 375) (by decide +kernel) rfl
theorem kRL_27 : cwK (.code yX4_knots cX4_knots 5 none) RL 27 yX4_knots 2 := ⟨tT_in (k := 383) (by decide +kernel) rfl, tT_in (k := 380) (by decide +kernel) rfl, tT_in (k := 31) (by decide +kernel) rfl, ⟨by decide +kernel, by decide +kernel⟩, by decide +kernel⟩
theorem imX4_knots : Cond.instanceMethod yX4_knots ∈ tT := tT_in (k := 381) (by decide +kernel) rfl
theorem slX4_knots : Cond.selects RX4 yX4_knots yX4_knots ∈ tT := tT_in (k := 382) (by decide +kernel) rfl
theorem kRL_31 : cwK (.code yX4_broken cX4_broken 5 none) RL 31 yX4_broken 2 := ⟨tT_in (k := 390) (by decide +kernel) rfl, tT_in (k := 387) (by decide +kernel) rfl, tT_in (k := 31) (by decide +kernel) rfl, ⟨by decide +kernel, by decide +kernel⟩, by decide +kernel⟩
theorem imX4_broken : Cond.instanceMethod yX4_broken ∈ tT := tT_in (k := 388) (by decide +kernel) rfl
theorem slX4_broken : Cond.selects RX4 yX4_broken yX4_broken ∈ tT := tT_in (k := 389) (by decide +kernel) rfl
theorem kRL_34 : cwK (.code yX4_number cX4_number 2 (some .double)) RL 34 yX4_number 1 := ⟨tT_in (k := 398) (by decide +kernel) rfl, tT_in (k := 395) (by decide +kernel) rfl, tT_in (k := 31) (by decide +kernel) rfl, ⟨by decide +kernel, by decide +kernel⟩, by decide +kernel⟩
theorem imX4_number : Cond.instanceMethod yX4_number ∈ tT := tT_in (k := 396) (by decide +kernel) rfl
theorem slX4_number : Cond.selects RX4 yX4_number yX4_number ∈ tT := tT_in (k := 397) (by decide +kernel) rfl
theorem kRL_38 : cwK (.code yX4_foretold cX4_foretold 2 (some .double)) RL 38 yX4_foretold 1 := ⟨tT_in (k := 406) (by decide +kernel) rfl, tT_in (k := 403) (by decide +kernel) rfl, tT_in (k := 31) (by decide +kernel) rfl, ⟨by decide +kernel, by decide +kernel⟩, by decide +kernel⟩
theorem imX4_foretold : Cond.instanceMethod yX4_foretold ∈ tT := tT_in (k := 404) (by decide +kernel) rfl
theorem slX4_foretold : Cond.selects RX4 yX4_foretold yX4_foretold ∈ tT := tT_in (k := 405) (by decide +kernel) rfl
theorem kRL_41 : cwK (.code yX4_leftOut cX4_leftOut 3 (some .double)) RL 41 yX4_leftOut 1 := ⟨tT_in (k := 423) (by decide +kernel) rfl, tT_in (k := 420) (by decide +kernel) rfl, tT_in (k := 31) (by decide +kernel) rfl, ⟨by decide +kernel, by decide +kernel⟩, by decide +kernel⟩
theorem imX4_leftOut : Cond.instanceMethod yX4_leftOut ∈ tT := tT_in (k := 421) (by decide +kernel) rfl
theorem slX4_leftOut : Cond.selects RX4 yX4_leftOut yX4_leftOut ∈ tT := tT_in (k := 422) (by decide +kernel) rfl
theorem kRL_44 : cwK (.code yX4_limit cX4_limit 4 none) RL 44 yX4_limit 2 := ⟨tT_in (k := 430) (by decide +kernel) rfl, tT_in (k := 427) (by decide +kernel) rfl, tT_in (k := 31) (by decide +kernel) rfl, ⟨by decide +kernel, by decide +kernel⟩, by decide +kernel⟩
theorem imX4_limit : Cond.instanceMethod yX4_limit ∈ tT := tT_in (k := 428) (by decide +kernel) rfl
theorem slX4_limit : Cond.selects RX4 yX4_limit yX4_limit ∈ tT := tT_in (k := 429) (by decide +kernel) rfl
theorem kRL_47 : cwK (.code yX4_setting cX4_setting 5 (some .int)) RL 47 yX4_setting 3 := ⟨tT_in (k := 441) (by decide +kernel) rfl, tT_in (k := 438) (by decide +kernel) rfl, tT_in (k := 31) (by decide +kernel) rfl, ⟨by decide +kernel, by decide +kernel⟩, by decide +kernel⟩
theorem imX4_setting : Cond.instanceMethod yX4_setting ∈ tT := tT_in (k := 439) (by decide +kernel) rfl
theorem slX4_setting : Cond.selects RX4 yX4_setting yX4_setting ∈ tT := tT_in (k := 440) (by decide +kernel) rfl
theorem kRL_51 : cwK (.code yX4_odds cX4_odds 14 (some .long)) RL 51 yX4_odds 5 := ⟨tT_in (k := 461) (by decide +kernel) rfl, tT_in (k := 458) (by decide +kernel) rfl, tT_in (k := 31) (by decide +kernel) rfl, ⟨by decide +kernel, by decide +kernel⟩, by decide +kernel⟩
theorem imX4_odds : Cond.instanceMethod yX4_odds ∈ tT := tT_in (k := 459) (by decide +kernel) rfl
theorem slX4_odds : Cond.selects RX4 yX4_odds yX4_odds ∈ tT := tT_in (k := 460) (by decide +kernel) rfl
theorem kRL_55 : cwK (.code yX4_chart cX4_chart 3 none) RL 55 yX4_chart 2 := ⟨tT_in (k := 478) (by decide +kernel) rfl, tT_in (k := 475) (by decide +kernel) rfl, tT_in (k := 31) (by decide +kernel) rfl, ⟨by decide +kernel, by decide +kernel⟩, by decide +kernel⟩
theorem imX4_chart : Cond.instanceMethod yX4_chart ∈ tT := tT_in (k := 476) (by decide +kernel) rfl
theorem slX4_chart : Cond.selects RX4 yX4_chart yX4_chart ∈ tT := tT_in (k := 477) (by decide +kernel) rfl
theorem kRL_59 : cwK (.code yX4_proof cX4_proof 8 (some .int)) RL 59 yX4_proof 1 := ⟨tT_in (k := 489) (by decide +kernel) rfl, tT_in (k := 486) (by decide +kernel) rfl, tT_in (k := 31) (by decide +kernel) rfl, ⟨by decide +kernel, by decide +kernel⟩, by decide +kernel⟩
theorem imX4_proof : Cond.instanceMethod yX4_proof ∈ tT := tT_in (k := 487) (by decide +kernel) rfl
theorem slX4_proof : Cond.selects RX4 yX4_proof yX4_proof ∈ tT := tT_in (k := 488) (by decide +kernel) rfl
theorem kRL_63 : cwK (.code yX4_about cX4_about 4 (some .int)) RL 63 yX4_about 2 := ⟨tT_in (k := 496) (by decide +kernel) rfl, tT_in (k := 493) (by decide +kernel) rfl, tT_in (k := 31) (by decide +kernel) rfl, ⟨by decide +kernel, by decide +kernel⟩, by decide +kernel⟩
theorem imX4_about : Cond.instanceMethod yX4_about ∈ tT := tT_in (k := 494) (by decide +kernel) rfl
theorem slX4_about : Cond.selects RX4 yX4_about yX4_about ∈ tT := tT_in (k := 495) (by decide +kernel) rfl
theorem kRL_67 : cwK (.code yX4_reference cX4_reference 4 (some .int)) RL 67 yX4_reference 2 := ⟨tT_in (k := 504) (by decide +kernel) rfl, tT_in (k := 501) (by decide +kernel) rfl, tT_in (k := 31) (by decide +kernel) rfl, ⟨by decide +kernel, by decide +kernel⟩, by decide +kernel⟩
theorem imX4_reference : Cond.instanceMethod yX4_reference ∈ tT := tT_in (k := 502) (by decide +kernel) rfl
theorem slX4_reference : Cond.selects RX4 yX4_reference yX4_reference ∈ tT := tT_in (k := 503) (by decide +kernel) rfl
theorem kRL_70 : cwK (.code yX4_drift cX4_drift 2 (some .double)) RL 70 yX4_drift 1 := ⟨tT_in (k := 527) (by decide +kernel) rfl, tT_in (k := 524) (by decide +kernel) rfl, tT_in (k := 31) (by decide +kernel) rfl, ⟨by decide +kernel, by decide +kernel⟩, by decide +kernel⟩
theorem imX4_drift : Cond.instanceMethod yX4_drift ∈ tT := tT_in (k := 525) (by decide +kernel) rfl
theorem slX4_drift : Cond.selects RX4 yX4_drift yX4_drift ∈ tT := tT_in (k := 526) (by decide +kernel) rfl
theorem kRL_73 : cwK (.code yX4_drawn cX4_drawn 4 (some .double)) RL 73 yX4_drawn 1 := ⟨tT_in (k := 542) (by decide +kernel) rfl, tT_in (k := 539) (by decide +kernel) rfl, tT_in (k := 31) (by decide +kernel) rfl, ⟨by decide +kernel, by decide +kernel⟩, by decide +kernel⟩
theorem imX4_drawn : Cond.instanceMethod yX4_drawn ∈ tT := tT_in (k := 540) (by decide +kernel) rfl
theorem slX4_drawn : Cond.selects RX4 yX4_drawn yX4_drawn ∈ tT := tT_in (k := 541) (by decide +kernel) rfl
theorem kRL_76 : cwK (.code yL_cell cL_cell 2 (some .int)) RL 76 yL_cell 2 := ⟨tT_in (k := 241) (by decide +kernel) rfl, tT_in (k := 239) (by decide +kernel) rfl, tT_in (k := 30) (by decide +kernel) rfl, ⟨by decide +kernel, by decide +kernel⟩, by decide +kernel⟩
theorem smL_cell : Cond.static yL_cell ∈ tT := tT_in (k := 240) (by decide +kernel) rfl
theorem kRL_82 : cwK (.code yX4_init cX4_init 3 none) RL 82 yX4_init 1 := ⟨tT_in (k := 48) (by decide +kernel) rfl, tT_in (k := 46) (by decide +kernel) rfl, tT_in (k := 31) (by decide +kernel) rfl, ⟨by decide +kernel, by decide +kernel⟩, by decide +kernel⟩
theorem imX4_init : Cond.instanceMethod yX4_init ∈ tT := tT_in (k := 47) (by decide +kernel) rfl
theorem kRL_87 : cwK (.code yX5_init cX5_init 2 none) RL 87 yX5_init 1 := ⟨tT_in (k := 551) (by decide +kernel) rfl, tT_in (k := 549) (by decide +kernel) rfl, tT_in (k := 36) (by decide +kernel) rfl, ⟨by decide +kernel, by decide +kernel⟩, by decide +kernel⟩
theorem imX5_init : Cond.instanceMethod yX5_init ∈ tT := tT_in (k := 550) (by decide +kernel) rfl
theorem kRL_88 : cwK (.codeWith yL_board cL_board 3 (some .int) [(0, 8, 11, 13)]) RL 88 yL_board 2 := ⟨tT_in (k := 244) (by decide +kernel) rfl, tT_in (k := 242) (by decide +kernel) rfl, tT_in (k := 30) (by decide +kernel) rfl, ⟨by decide +kernel, by decide +kernel⟩, by decide +kernel⟩
theorem smL_board : Cond.static yL_board ∈ tT := tT_in (k := 243) (by decide +kernel) rfl
theorem kRL_91 : cwK (.code yX5_board cX5_board 1 (some .int)) RL 91 yX5_board 0 := ⟨tT_in (k := 635) (by decide +kernel) rfl, tT_in (k := 632) (by decide +kernel) rfl, tT_in (k := 36) (by decide +kernel) rfl, ⟨by decide +kernel, by decide +kernel⟩, by decide +kernel⟩
theorem imX5_board : Cond.instanceMethod yX5_board ∈ tT := tT_in (k := 633) (by decide +kernel) rfl
theorem slX5_board : Cond.selects RX5 yX5_board yX5_board ∈ tT := tT_in (k := 634) (by decide +kernel) rfl
theorem kRL_92 : cwK (.code yX5_thrown cX5_thrown 1 (some .int)) RL 92 yX5_thrown 0 := ⟨tT_in (k := 631) (by decide +kernel) rfl, tT_in (k := 628) (by decide +kernel) rfl, tT_in (k := 36) (by decide +kernel) rfl, ⟨by decide +kernel, by decide +kernel⟩, by decide +kernel⟩
theorem imX5_thrown : Cond.instanceMethod yX5_thrown ∈ tT := tT_in (k := 629) (by decide +kernel) rfl
theorem slX5_thrown : Cond.selects RX5 yX5_thrown yX5_thrown ∈ tT := tT_in (k := 630) (by decide +kernel) rfl
theorem kRL_97 : cwK (.codeWith yL_row cL_row 6 (some .int) [(0, 11, 14, 19), (0, 11, 18, 21), (0, 11, 22, 13)]) RL 97 yL_row 4 := ⟨tT_in (k := 320) (by decide +kernel) rfl, tT_in (k := 318) (by decide +kernel) rfl, tT_in (k := 30) (by decide +kernel) rfl, ⟨by decide +kernel, by decide +kernel⟩, by decide +kernel⟩
theorem smL_row : Cond.static yL_row ∈ tT := tT_in (k := 319) (by decide +kernel) rfl
theorem kRL_100 : cwK (.code yX5_row cX5_row 4 (some .int)) RL 100 yX5_row 2 := ⟨tT_in (k := 639) (by decide +kernel) rfl, tT_in (k := 636) (by decide +kernel) rfl, tT_in (k := 36) (by decide +kernel) rfl, ⟨by decide +kernel, by decide +kernel⟩, by decide +kernel⟩
theorem imX5_row : Cond.instanceMethod yX5_row ∈ tT := tT_in (k := 637) (by decide +kernel) rfl
theorem slX5_row : Cond.selects RX5 yX5_row yX5_row ∈ tT := tT_in (k := 638) (by decide +kernel) rfl
theorem kRL_101 : cwK (.codeWith yL_echo cL_echo 7 (some .int) [(0, 8, 11, 19), (0, 8, 15, 21)]) RL 101 yL_echo 4 := ⟨tT_in (k := 372) (by decide +kernel) rfl, tT_in (k := 370) (by decide +kernel) rfl, tT_in (k := 30) (by decide +kernel) rfl, ⟨by decide +kernel, by decide +kernel⟩, by decide +kernel⟩
theorem smL_echo : Cond.static yL_echo ∈ tT := tT_in (k := 371) (by decide +kernel) rfl
theorem kRL_104 : cwK (.code yX5_echo cX5_echo 6 none) RL 104 yX5_echo 3 := ⟨tT_in (k := 651) (by decide +kernel) rfl, tT_in (k := 648) (by decide +kernel) rfl, tT_in (k := 36) (by decide +kernel) rfl, ⟨by decide +kernel, by decide +kernel⟩, by decide +kernel⟩
theorem imX5_echo : Cond.instanceMethod yX5_echo ∈ tT := tT_in (k := 649) (by decide +kernel) rfl
theorem slX5_echo : Cond.selects RX5 yX5_echo yX5_echo ∈ tT := tT_in (k := 650) (by decide +kernel) rfl
theorem kRL_105 : cwK (.codeWith yL_knots cL_knots 5 (some .int) [(0, 6, 9, 19), (0, 6, 13, 21)]) RL 105 yL_knots 3 := ⟨tT_in (k := 379) (by decide +kernel) rfl, tT_in (k := 377) (by decide +kernel) rfl, tT_in (k := 30) (by decide +kernel) rfl, ⟨by decide +kernel, by decide +kernel⟩, by decide +kernel⟩
theorem smL_knots : Cond.static yL_knots ∈ tT := tT_in (k := 378) (by decide +kernel) rfl
theorem kRL_108 : cwK (.code yX5_knots cX5_knots 4 none) RL 108 yX5_knots 2 := ⟨tT_in (k := 657) (by decide +kernel) rfl, tT_in (k := 654) (by decide +kernel) rfl, tT_in (k := 36) (by decide +kernel) rfl, ⟨by decide +kernel, by decide +kernel⟩, by decide +kernel⟩
theorem imX5_knots : Cond.instanceMethod yX5_knots ∈ tT := tT_in (k := 655) (by decide +kernel) rfl
theorem slX5_knots : Cond.selects RX5 yX5_knots yX5_knots ∈ tT := tT_in (k := 656) (by decide +kernel) rfl
theorem kRL_109 : cwK (.codeWith yL_broken cL_broken 5 (some .int) [(0, 6, 9, 19), (0, 6, 13, 21), (0, 6, 17, 13)]) RL 109 yL_broken 3 := ⟨tT_in (k := 386) (by decide +kernel) rfl, tT_in (k := 384) (by decide +kernel) rfl, tT_in (k := 30) (by decide +kernel) rfl, ⟨by decide +kernel, by decide +kernel⟩, by decide +kernel⟩
theorem smL_broken : Cond.static yL_broken ∈ tT := tT_in (k := 385) (by decide +kernel) rfl
theorem kRL_111 : cwK (.code yX5_broken cX5_broken 4 none) RL 111 yX5_broken 2 := ⟨tT_in (k := 661) (by decide +kernel) rfl, tT_in (k := 658) (by decide +kernel) rfl, tT_in (k := 36) (by decide +kernel) rfl, ⟨by decide +kernel, by decide +kernel⟩, by decide +kernel⟩
theorem imX5_broken : Cond.instanceMethod yX5_broken ∈ tT := tT_in (k := 659) (by decide +kernel) rfl
theorem slX5_broken : Cond.selects RX5 yX5_broken yX5_broken ∈ tT := tT_in (k := 660) (by decide +kernel) rfl
theorem kRL_112 : cwK (.code yX4_fit cX4_fit 1 (some .int)) RL 112 yX4_fit 0 := ⟨tT_in (k := 178) (by decide +kernel) rfl, tT_in (k := 175) (by decide +kernel) rfl, tT_in (k := 31) (by decide +kernel) rfl, ⟨by decide +kernel, by decide +kernel⟩, by decide +kernel⟩
theorem imX4_fit : Cond.instanceMethod yX4_fit ∈ tT := tT_in (k := 176) (by decide +kernel) rfl
theorem slX4_fit : Cond.selects RX4 yX4_fit yX4_fit ∈ tT := tT_in (k := 177) (by decide +kernel) rfl
theorem kRL_115 : cwK (.code yX5_fit cX5_fit 3 (some .int)) RL 115 yX5_fit 0 := ⟨tT_in (k := 665) (by decide +kernel) rfl, tT_in (k := 662) (by decide +kernel) rfl, tT_in (k := 36) (by decide +kernel) rfl, ⟨by decide +kernel, by decide +kernel⟩, by decide +kernel⟩
theorem imX5_fit : Cond.instanceMethod yX5_fit ∈ tT := tT_in (k := 663) (by decide +kernel) rfl
theorem slX5_fit : Cond.selects RX5 yX5_fit yX5_fit ∈ tT := tT_in (k := 664) (by decide +kernel) rfl
theorem kRL_116 : cwK (.codeWith yL_number cL_number 4 (some .int) [(0, 8, 11, 19)]) RL 116 yL_number 3 := ⟨tT_in (k := 394) (by decide +kernel) rfl, tT_in (k := 392) (by decide +kernel) rfl, tT_in (k := 30) (by decide +kernel) rfl, ⟨by decide +kernel, by decide +kernel⟩, by decide +kernel⟩
theorem smL_number : Cond.static yL_number ∈ tT := tT_in (k := 393) (by decide +kernel) rfl
theorem kRL_119 : cwK (.code yX5_number cX5_number 2 (some .double)) RL 119 yX5_number 1 := ⟨tT_in (k := 687) (by decide +kernel) rfl, tT_in (k := 684) (by decide +kernel) rfl, tT_in (k := 36) (by decide +kernel) rfl, ⟨by decide +kernel, by decide +kernel⟩, by decide +kernel⟩
theorem imX5_number : Cond.instanceMethod yX5_number ∈ tT := tT_in (k := 685) (by decide +kernel) rfl
theorem slX5_number : Cond.selects RX5 yX5_number yX5_number ∈ tT := tT_in (k := 686) (by decide +kernel) rfl
theorem kRL_120 : cwK (.codeWith yL_foretold cL_foretold 4 (some .int) [(0, 8, 11, 19), (0, 8, 14, 13)]) RL 120 yL_foretold 3 := ⟨tT_in (k := 402) (by decide +kernel) rfl, tT_in (k := 400) (by decide +kernel) rfl, tT_in (k := 30) (by decide +kernel) rfl, ⟨by decide +kernel, by decide +kernel⟩, by decide +kernel⟩
theorem smL_foretold : Cond.static yL_foretold ∈ tT := tT_in (k := 401) (by decide +kernel) rfl
theorem kRL_122 : cwK (.code yX5_foretold cX5_foretold 2 (some .double)) RL 122 yX5_foretold 1 := ⟨tT_in (k := 691) (by decide +kernel) rfl, tT_in (k := 688) (by decide +kernel) rfl, tT_in (k := 36) (by decide +kernel) rfl, ⟨by decide +kernel, by decide +kernel⟩, by decide +kernel⟩
theorem imX5_foretold : Cond.instanceMethod yX5_foretold ∈ tT := tT_in (k := 689) (by decide +kernel) rfl
theorem slX5_foretold : Cond.selects RX5 yX5_foretold yX5_foretold ∈ tT := tT_in (k := 690) (by decide +kernel) rfl
theorem kRL_123 : cwK (.codeWith yL_leftOut cL_leftOut 4 (some .int) [(0, 8, 11, 19), (0, 8, 14, 13)]) RL 123 yL_leftOut 3 := ⟨tT_in (k := 419) (by decide +kernel) rfl, tT_in (k := 417) (by decide +kernel) rfl, tT_in (k := 30) (by decide +kernel) rfl, ⟨by decide +kernel, by decide +kernel⟩, by decide +kernel⟩
theorem smL_leftOut : Cond.static yL_leftOut ∈ tT := tT_in (k := 418) (by decide +kernel) rfl
theorem kRL_125 : cwK (.code yX5_leftOut cX5_leftOut 3 (some .double)) RL 125 yX5_leftOut 1 := ⟨tT_in (k := 699) (by decide +kernel) rfl, tT_in (k := 696) (by decide +kernel) rfl, tT_in (k := 36) (by decide +kernel) rfl, ⟨by decide +kernel, by decide +kernel⟩, by decide +kernel⟩
theorem imX5_leftOut : Cond.instanceMethod yX5_leftOut ∈ tT := tT_in (k := 697) (by decide +kernel) rfl
theorem slX5_leftOut : Cond.selects RX5 yX5_leftOut yX5_leftOut ∈ tT := tT_in (k := 698) (by decide +kernel) rfl
theorem kRL_126 : cwK (.codeWith yL_limit cL_limit 5 (some .int) [(0, 6, 9, 19), (0, 6, 13, 21)]) RL 126 yL_limit 3 := ⟨tT_in (k := 426) (by decide +kernel) rfl, tT_in (k := 424) (by decide +kernel) rfl, tT_in (k := 30) (by decide +kernel) rfl, ⟨by decide +kernel, by decide +kernel⟩, by decide +kernel⟩
theorem smL_limit : Cond.static yL_limit ∈ tT := tT_in (k := 425) (by decide +kernel) rfl
theorem kRL_128 : cwK (.code yX5_limit cX5_limit 4 none) RL 128 yX5_limit 2 := ⟨tT_in (k := 703) (by decide +kernel) rfl, tT_in (k := 700) (by decide +kernel) rfl, tT_in (k := 36) (by decide +kernel) rfl, ⟨by decide +kernel, by decide +kernel⟩, by decide +kernel⟩
theorem imX5_limit : Cond.instanceMethod yX5_limit ∈ tT := tT_in (k := 701) (by decide +kernel) rfl
theorem slX5_limit : Cond.selects RX5 yX5_limit yX5_limit ∈ tT := tT_in (k := 702) (by decide +kernel) rfl
theorem kRL_129 : cwK (.codeWith yL_setting cL_setting 6 (some .int) [(0, 12, 15, 19), (0, 12, 19, 21)]) RL 129 yL_setting 5 := ⟨tT_in (k := 437) (by decide +kernel) rfl, tT_in (k := 435) (by decide +kernel) rfl, tT_in (k := 30) (by decide +kernel) rfl, ⟨by decide +kernel, by decide +kernel⟩, by decide +kernel⟩
theorem smL_setting : Cond.static yL_setting ∈ tT := tT_in (k := 436) (by decide +kernel) rfl
theorem kRL_132 : cwK (.code yX5_setting cX5_setting 9 (some .int)) RL 132 yX5_setting 3 := ⟨tT_in (k := 707) (by decide +kernel) rfl, tT_in (k := 704) (by decide +kernel) rfl, tT_in (k := 36) (by decide +kernel) rfl, ⟨by decide +kernel, by decide +kernel⟩, by decide +kernel⟩
theorem imX5_setting : Cond.instanceMethod yX5_setting ∈ tT := tT_in (k := 705) (by decide +kernel) rfl
theorem slX5_setting : Cond.selects RX5 yX5_setting yX5_setting ∈ tT := tT_in (k := 706) (by decide +kernel) rfl
theorem kRL_133 : cwK (.codeWith yL_odds cL_odds 8 (some .int) [(0, 15, 18, 19), (0, 15, 22, 21)]) RL 133 yL_odds 7 := ⟨tT_in (k := 457) (by decide +kernel) rfl, tT_in (k := 455) (by decide +kernel) rfl, tT_in (k := 30) (by decide +kernel) rfl, ⟨by decide +kernel, by decide +kernel⟩, by decide +kernel⟩
theorem smL_odds : Cond.static yL_odds ∈ tT := tT_in (k := 456) (by decide +kernel) rfl
theorem kRL_136 : cwK (.code yX5_odds cX5_odds 17 (some .long)) RL 136 yX5_odds 5 := ⟨tT_in (k := 712) (by decide +kernel) rfl, tT_in (k := 709) (by decide +kernel) rfl, tT_in (k := 36) (by decide +kernel) rfl, ⟨by decide +kernel, by decide +kernel⟩, by decide +kernel⟩
theorem imX5_odds : Cond.instanceMethod yX5_odds ∈ tT := tT_in (k := 710) (by decide +kernel) rfl
theorem slX5_odds : Cond.selects RX5 yX5_odds yX5_odds ∈ tT := tT_in (k := 711) (by decide +kernel) rfl
theorem kRL_137 : cwK (.codeWith yL_chart cL_chart 4 (some .int) [(0, 6, 9, 21)]) RL 137 yL_chart 3 := ⟨tT_in (k := 474) (by decide +kernel) rfl, tT_in (k := 472) (by decide +kernel) rfl, tT_in (k := 30) (by decide +kernel) rfl, ⟨by decide +kernel, by decide +kernel⟩, by decide +kernel⟩
theorem smL_chart : Cond.static yL_chart ∈ tT := tT_in (k := 473) (by decide +kernel) rfl
theorem kRL_140 : cwK (.code yX5_chart cX5_chart 3 none) RL 140 yX5_chart 2 := ⟨tT_in (k := 719) (by decide +kernel) rfl, tT_in (k := 716) (by decide +kernel) rfl, tT_in (k := 36) (by decide +kernel) rfl, ⟨by decide +kernel, by decide +kernel⟩, by decide +kernel⟩
theorem imX5_chart : Cond.instanceMethod yX5_chart ∈ tT := tT_in (k := 717) (by decide +kernel) rfl
theorem slX5_chart : Cond.selects RX5 yX5_chart yX5_chart ∈ tT := tT_in (k := 718) (by decide +kernel) rfl
theorem kRL_141 : cwK (.code yX4_test cX4_test 2 (some .boolean)) RL 141 yX4_test 1 := ⟨tT_in (k := 228) (by decide +kernel) rfl, tT_in (k := 225) (by decide +kernel) rfl, tT_in (k := 31) (by decide +kernel) rfl, ⟨by decide +kernel, by decide +kernel⟩, by decide +kernel⟩
theorem imX4_test : Cond.instanceMethod yX4_test ∈ tT := tT_in (k := 226) (by decide +kernel) rfl
theorem slX4_test : Cond.selects RX4 yX4_test yX4_test ∈ tT := tT_in (k := 227) (by decide +kernel) rfl
theorem kRL_145 : cwK (.code yX5_test cX5_test 4 (some .boolean)) RL 145 yX5_test 1 := ⟨tT_in (k := 723) (by decide +kernel) rfl, tT_in (k := 720) (by decide +kernel) rfl, tT_in (k := 36) (by decide +kernel) rfl, ⟨by decide +kernel, by decide +kernel⟩, by decide +kernel⟩
theorem imX5_test : Cond.instanceMethod yX5_test ∈ tT := tT_in (k := 721) (by decide +kernel) rfl
theorem slX5_test : Cond.selects RX5 yX5_test yX5_test ∈ tT := tT_in (k := 722) (by decide +kernel) rfl
theorem kRL_146 : cwK (.codeWith yL_proof cL_proof 5 (some .int) [(0, 9, 12, 21)]) RL 146 yL_proof 3 := ⟨tT_in (k := 485) (by decide +kernel) rfl, tT_in (k := 483) (by decide +kernel) rfl, tT_in (k := 30) (by decide +kernel) rfl, ⟨by decide +kernel, by decide +kernel⟩, by decide +kernel⟩
theorem smL_proof : Cond.static yL_proof ∈ tT := tT_in (k := 484) (by decide +kernel) rfl
theorem kRL_149 : cwK (.code yX5_proof cX5_proof 5 (some .int)) RL 149 yX5_proof 1 := ⟨tT_in (k := 727) (by decide +kernel) rfl, tT_in (k := 724) (by decide +kernel) rfl, tT_in (k := 36) (by decide +kernel) rfl, ⟨by decide +kernel, by decide +kernel⟩, by decide +kernel⟩
theorem imX5_proof : Cond.instanceMethod yX5_proof ∈ tT := tT_in (k := 725) (by decide +kernel) rfl
theorem slX5_proof : Cond.selects RX5 yX5_proof yX5_proof ∈ tT := tT_in (k := 726) (by decide +kernel) rfl
theorem kRL_150 : cwK (.codeWith yL_about cL_about 5 (some .int) [(0, 10, 13, 19)]) RL 150 yL_about 4 := ⟨tT_in (k := 492) (by decide +kernel) rfl, tT_in (k := 490) (by decide +kernel) rfl, tT_in (k := 30) (by decide +kernel) rfl, ⟨by decide +kernel, by decide +kernel⟩, by decide +kernel⟩
theorem smL_about : Cond.static yL_about ∈ tT := tT_in (k := 491) (by decide +kernel) rfl
theorem kRL_153 : cwK (.code yX5_about cX5_about 3 (some .int)) RL 153 yX5_about 2 := ⟨tT_in (k := 731) (by decide +kernel) rfl, tT_in (k := 728) (by decide +kernel) rfl, tT_in (k := 36) (by decide +kernel) rfl, ⟨by decide +kernel, by decide +kernel⟩, by decide +kernel⟩
theorem imX5_about : Cond.instanceMethod yX5_about ∈ tT := tT_in (k := 729) (by decide +kernel) rfl
theorem slX5_about : Cond.selects RX5 yX5_about yX5_about ∈ tT := tT_in (k := 730) (by decide +kernel) rfl
theorem kRL_154 : cwK (.codeWith yL_reference cL_reference 6 (some .int) [(0, 11, 14, 21), (0, 11, 18, 13)]) RL 154 yL_reference 4 := ⟨tT_in (k := 500) (by decide +kernel) rfl, tT_in (k := 498) (by decide +kernel) rfl, tT_in (k := 30) (by decide +kernel) rfl, ⟨by decide +kernel, by decide +kernel⟩, by decide +kernel⟩
theorem smL_reference : Cond.static yL_reference ∈ tT := tT_in (k := 499) (by decide +kernel) rfl
theorem kRL_156 : cwK (.code yX5_reference cX5_reference 5 (some .int)) RL 156 yX5_reference 2 := ⟨tT_in (k := 735) (by decide +kernel) rfl, tT_in (k := 732) (by decide +kernel) rfl, tT_in (k := 36) (by decide +kernel) rfl, ⟨by decide +kernel, by decide +kernel⟩, by decide +kernel⟩
theorem imX5_reference : Cond.instanceMethod yX5_reference ∈ tT := tT_in (k := 733) (by decide +kernel) rfl
theorem slX5_reference : Cond.selects RX5 yX5_reference yX5_reference ∈ tT := tT_in (k := 734) (by decide +kernel) rfl
theorem kRL_157 : cwK (.codeWith yL_drift cL_drift 4 (some .int) [(0, 8, 11, 21)]) RL 157 yL_drift 3 := ⟨tT_in (k := 523) (by decide +kernel) rfl, tT_in (k := 521) (by decide +kernel) rfl, tT_in (k := 30) (by decide +kernel) rfl, ⟨by decide +kernel, by decide +kernel⟩, by decide +kernel⟩
theorem smL_drift : Cond.static yL_drift ∈ tT := tT_in (k := 522) (by decide +kernel) rfl
theorem kRL_159 : cwK (.code yX5_drift cX5_drift 3 (some .double)) RL 159 yX5_drift 1 := ⟨tT_in (k := 740) (by decide +kernel) rfl, tT_in (k := 737) (by decide +kernel) rfl, tT_in (k := 36) (by decide +kernel) rfl, ⟨by decide +kernel, by decide +kernel⟩, by decide +kernel⟩
theorem imX5_drift : Cond.instanceMethod yX5_drift ∈ tT := tT_in (k := 738) (by decide +kernel) rfl
theorem slX5_drift : Cond.selects RX5 yX5_drift yX5_drift ∈ tT := tT_in (k := 739) (by decide +kernel) rfl
theorem kRL_160 : cwK (.codeWith yL_drawn cL_drawn 4 (some .int) [(0, 8, 11, 21)]) RL 160 yL_drawn 3 := ⟨tT_in (k := 538) (by decide +kernel) rfl, tT_in (k := 536) (by decide +kernel) rfl, tT_in (k := 30) (by decide +kernel) rfl, ⟨by decide +kernel, by decide +kernel⟩, by decide +kernel⟩
theorem smL_drawn : Cond.static yL_drawn ∈ tT := tT_in (k := 537) (by decide +kernel) rfl
theorem kRL_162 : cwK (.code yX5_drawn cX5_drawn 4 (some .double)) RL 162 yX5_drawn 1 := ⟨tT_in (k := 744) (by decide +kernel) rfl, tT_in (k := 741) (by decide +kernel) rfl, tT_in (k := 36) (by decide +kernel) rfl, ⟨by decide +kernel, by decide +kernel⟩, by decide +kernel⟩
theorem imX5_drawn : Cond.instanceMethod yX5_drawn ∈ tT := tT_in (k := 742) (by decide +kernel) rfl
theorem slX5_drawn : Cond.selects RX5 yX5_drawn yX5_drawn ∈ tT := tT_in (k := 743) (by decide +kernel) rfl
theorem kRX5_79 : cwK (.code yX5_noBoard cX5_noBoard 2 (some .boolean)) RX5 79 yX5_noBoard 1 := ⟨tT_in (k := 643) (by decide +kernel) rfl, tT_in (k := 640) (by decide +kernel) rfl, tT_in (k := 36) (by decide +kernel) rfl, ⟨by decide +kernel, by decide +kernel⟩, by decide +kernel⟩
theorem imX5_noBoard : Cond.instanceMethod yX5_noBoard ∈ tT := tT_in (k := 642) (by decide +kernel) rfl
theorem slX5_noBoard : Cond.selects RX5 yX5_noBoard yX5_noBoard ∈ tT := tT_in (k := 24) (by decide +kernel) rfl
theorem kRX5_85 : cwK (.code yX5_between cX5_between 6 (some .boolean)) RX5 85 yX5_between 3 := ⟨tT_in (k := 647) (by decide +kernel) rfl, tT_in (k := 645) (by decide +kernel) rfl, tT_in (k := 36) (by decide +kernel) rfl, ⟨by decide +kernel, by decide +kernel⟩, by decide +kernel⟩
theorem smX5_between : Cond.static yX5_between ∈ tT := tT_in (k := 646) (by decide +kernel) rfl
theorem kRX5_95 : cwK (.code yX5_x cX5_x 6 (some .double)) RX5 95 yX5_x 2 := ⟨tT_in (k := 681) (by decide +kernel) rfl, tT_in (k := 678) (by decide +kernel) rfl, tT_in (k := 36) (by decide +kernel) rfl, ⟨by decide +kernel, by decide +kernel⟩, by decide +kernel⟩
theorem imX5_x : Cond.instanceMethod yX5_x ∈ tT := tT_in (k := 680) (by decide +kernel) rfl
theorem slX5_x : Cond.selects RX5 yX5_x yX5_x ∈ tT := tT_in (k := 28) (by decide +kernel) rfl
theorem kRX5_99 : cwK (.code yX5_isComplete cX5_isComplete 2 (some .boolean)) RX5 99 yX5_isComplete 1 := ⟨tT_in (k := 673) (by decide +kernel) rfl, tT_in (k := 670) (by decide +kernel) rfl, tT_in (k := 36) (by decide +kernel) rfl, ⟨by decide +kernel, by decide +kernel⟩, by decide +kernel⟩
theorem imX5_isComplete : Cond.instanceMethod yX5_isComplete ∈ tT := tT_in (k := 672) (by decide +kernel) rfl
theorem slX5_isComplete : Cond.selects RX5 yX5_isComplete yX5_isComplete ∈ tT := tT_in (k := 26) (by decide +kernel) rfl
theorem kRX5_102 : cwK (.code yX5_add cX5_add 4 none) RX5 102 yX5_add 1 := ⟨tT_in (k := 677) (by decide +kernel) rfl, tT_in (k := 674) (by decide +kernel) rfl, tT_in (k := 36) (by decide +kernel) rfl, ⟨by decide +kernel, by decide +kernel⟩, by decide +kernel⟩
theorem imX5_add : Cond.instanceMethod yX5_add ∈ tT := tT_in (k := 676) (by decide +kernel) rfl
theorem slX5_add : Cond.selects RX5 yX5_add yX5_add ∈ tT := tT_in (k := 27) (by decide +kernel) rfl
theorem kRX5_108 : cwK (.code yX5_solve cX5_solve 10 (some .int)) RX5 108 yX5_solve 1 := ⟨tT_in (k := 669) (by decide +kernel) rfl, tT_in (k := 666) (by decide +kernel) rfl, tT_in (k := 36) (by decide +kernel) rfl, ⟨by decide +kernel, by decide +kernel⟩, by decide +kernel⟩
theorem imX5_solve : Cond.instanceMethod yX5_solve ∈ tT := tT_in (k := 668) (by decide +kernel) rfl
theorem slX5_solve : Cond.selects RX5 yX5_solve yX5_solve ∈ tT := tT_in (k := 25) (by decide +kernel) rfl
theorem kRX5_112 : cwK (.code yX5_told cX5_told 8 (some .double)) RX5 112 yX5_told 4 := ⟨tT_in (k := 695) (by decide +kernel) rfl, tT_in (k := 692) (by decide +kernel) rfl, tT_in (k := 36) (by decide +kernel) rfl, ⟨by decide +kernel, by decide +kernel⟩, by decide +kernel⟩
theorem imX5_told : Cond.instanceMethod yX5_told ∈ tT := tT_in (k := 694) (by decide +kernel) rfl
theorem slX5_told : Cond.selects RX5 yX5_told yX5_told ∈ tT := tT_in (k := 29) (by decide +kernel) rfl
theorem kRX5_118 : cwK (.code yX5_power cX5_power 6 (some .long)) RX5 118 yX5_power 2 := ⟨tT_in (k := 715) (by decide +kernel) rfl, tT_in (k := 713) (by decide +kernel) rfl, tT_in (k := 36) (by decide +kernel) rfl, ⟨by decide +kernel, by decide +kernel⟩, by decide +kernel⟩
theorem smX5_power : Cond.static yX5_power ∈ tT := tT_in (k := 714) (by decide +kernel) rfl
abbrev xISE : String := "java/lang/IllegalStateException"
theorem tx_ISE : ∀ w ∈ Cond.classLink RX4 53 xISE :: Cond.initialized xISE :: vx_atS RX4 57 xISE ["java/lang/RuntimeException", "java/lang/Exception"], w ∈ tT := by decide +kernel
theorem tg_ISE : ∀ w ∈ Cond.classLink RX4 53 xISE :: Cond.initialized xISE :: vx_atS RX4 57 xISE ["java/lang/RuntimeException", "java/lang/Exception"], vx_ot w = true := by decide +kernel
abbrev xIOOBE : String := "java/lang/IndexOutOfBoundsException"
theorem tx_IOOBE : ∀ w ∈ Cond.classLink RX4 103 xIOOBE :: Cond.initialized xIOOBE :: vx_atS RX4 107 xIOOBE ["java/lang/RuntimeException", "java/lang/Exception"], w ∈ tT := by decide +kernel
theorem tg_IOOBE : ∀ w ∈ Cond.classLink RX4 103 xIOOBE :: Cond.initialized xIOOBE :: vx_atS RX4 107 xIOOBE ["java/lang/RuntimeException", "java/lang/Exception"], vx_ot w = true := by decide +kernel
abbrev xIAE : String := "java/lang/IllegalArgumentException"
theorem tx_IAE : ∀ w ∈ Cond.classLink RX4 197 xIAE :: Cond.initialized xIAE :: vx_atS RX4 201 xIAE ["java/lang/RuntimeException", "java/lang/Exception"], w ∈ tT := by decide +kernel
theorem tg_IAE : ∀ w ∈ Cond.classLink RX4 197 xIAE :: Cond.initialized xIAE :: vx_atS RX4 201 xIAE ["java/lang/RuntimeException", "java/lang/Exception"], vx_ot w = true := by decide +kernel
