/-! the law from its entry to its loop -/
section
variable {p : Program} {l : Launch} {e : Env} {R : Room} {s : State} {m : MethodId} {args : Array Value} {below : List Frame} {meth : Method} {c : Code} {H : Heap} {locs : List Loc} {cells slots : Nat} {Q : State → Prop}
/-- cell(script, 0) -/
theorem c_cell {D : va_G} {cy : Nat → ClassId} {A : Nat → Prop} {ba L pc : Nat} {xs : Nat → Int32} {ls : Array Slot} {rest : List Value} (am : AmC p s m args c cL_law 9 RL D cy) (hL : L ≤ 3073) (hX : va_X ba L xs s s.heap) (hbl : ba < s.heap.size) (hbA : ¬ A ba) {ws : va_W} (hP : va_P D vwCl ws H) (hS : va_S A s.heap H locs) (hA : ∀ q, s.heap.size ≤ q → A q) {lvv : List (Nat × Value)} (hl : lv_has ls 9 lvv)
    (hR : 1 ≤ R.frames ∧ 21 ≤ R.locals) (hW : (rest.map fun v => v.category).sum ≤ 8) (hdg : decode cL_law pc = .ok (.invokestatic 76, 3)) (hf : cells ≤ R.cells ∧ slots ≤ R.slots)
    (kk : ∀ (H1 : Heap) (locs1 : List Loc), va_P D vwCl ws H1 → va_S A s.heap H1 locs1 → W p l e R s m args below meth c H1 locs1 cells slots Q (F0 m (pc + 3) ls (.int (sdL L xs) :: rest))) :
    W p l e R s m args below meth c H locs cells slots Q (F0 m pc ls (.int 0 :: .ref ba :: rest)) := by
  have kw := kRL_76
  refine va_calli (mc := 0) (ms := 0) (va_runS (As := [.ref ba, .int 0]) (rest := rest) (fixC am) (k_cell (ba := ba) (xs := xs) hL H.size) ⟨⟨rfl, rfl, hR.1, hR.2, wsC am kw.1, List.mem_cons_self, am.2.2.2.2.1 _ kw.1, am.2.2.2.2.1 _ kw.2.2.1, kw.2.2.2.1, lenK kw.2.2.2.2, am.2.2.2.2.1 _ kw.2.1⟩, am.2.2.2.2.1 _ smL_cell⟩ ⟨fb_preL, fun U hU hW => ⟨rfl, by rw [hU], ?_, Nat.lt_of_lt_of_le hbl hS.1⟩⟩ rfl rfl hl.1 rfl (lv_room hW) hdg hf) hS (fun q _ h => hA q (Nat.le_trans hS.1 h)) (fun q h => hA q (Nat.le_trans hS.1 h)) ?_
  · rw [hU]
    exact va_X.moved hW.alike (va_X.kept hX (hS.2.1 ba hbl hbA))
  · intro x _ t H1 locs1 ht _ hw _ _ hk hS1
    subst hw
    exact kk H1 locs1 (hP.kept (fun k q hq => hk q.1 ((hP k q hq).lt) (Nat.not_le.mpr ((hP k q hq).lt)))) hS1
end
set_option maxHeartbeats 4000000 in
set_option maxRecDepth 100000 in
theorem law_start {p : Program} {l : Launch} {e : Env} {s : State} {m : MethodId} {below : List Frame} {meth : Method} {c : Code} {Q : State → Prop} {ba L : Nat} {xs : Nat → Int32} {ls : Array Slot} (hno : l.stackTraces = false) (hL : L ≤ 3073) (hx : p.tables.exec = Jvm.exec) (hb : c.code = cL_law) (hml : c.maxLocals = 9) (hown : s.vm.findClass RL = some m.cls) (hts : ∀ w ∈ lw_tbl, w.before #[Value.ref ba] s = true) (hX : va_X ba L xs s s.heap) (hbl : ba < s.heap.size) (hgv : (Jvm.Cond.and given_1 narrow_1).before #[Value.ref ba] s = true) (hl : lv_has ls 9 [(0, .ref ba)])
    (hexit : ∀ (d0 : Drawn) (H : Heap) (locs : List Loc) (ls : Array Slot) (cells slots : Nat), s.drawn.sameBut d0 lw_cs → (∀ q ∈ locs, s.heap.size ≤ q.base) → cells ≤ 601024 → slots ≤ 7293000 → W p l e room_1 (s.setDrawn d0) m #[Value.ref ba] below meth c H locs cells slots Q (F0 m 1409 ls [.int 1])) :
    W p l e room_1 s m #[Value.ref ba] below meth c s.heap [] 0 0 Q (F0 m 0 ls []) := by
  obtain ⟨D, cy, hK, hO, hA2⟩ := kStart hts
  have am : AmC p s m #[Value.ref ba] c cL_law 9 RL D cy := ⟨hx, hb, hml, hown, fun w h => hts w (tT_sub h), hK, hO, hA2⟩
  have hA : ∀ q, s.heap.size ≤ q → (fun q => s.heap.size ≤ q) q := fun q h => h
  have hbA : ¬ (fun q => s.heap.size ≤ q) ba := Nat.not_le.mpr hbl
  have hP : va_P D vwCl [] s.heap := fun k q h => by cases k <;> cases h
  have hD : va_D (fun q => s.heap.size ≤ q) [] := ⟨fun i j p q h => (by cases i <;> cases h), fun k q h => (by cases k <;> cases h)⟩
  have hS : va_S (fun q => s.heap.size ≤ q) s.heap s.heap [] := va_S.rf
  refine va_new hx hb am.2.2.2.2.1 inT4 tyX4 tyX4_ok hown (am.2.2.2.2.1 _ cl_RL_8) (am.2.2.2.2.1 _ in_RX4) (am.2.2.2.2.1 _ it_RX4) hK hP hD hS hA (ci := 4) rfl (fs := [.int 0, .null, .int 0, .null, .null, .null, .null, .null]) (by decide) (Nat.le_of_ble_eq_true rfl) (Nat.le_of_ble_eq_true rfl) dL_law_0 (fun q H hP hD hS => ?_)
  refine lv_dup hx hb dL_law_3 rfl ?_
  refine lv_aload_n hx hb dL_law_4 rfl (lv_at hl 0 rfl) ?_
  refine lv_iconst (v := 0) hx hb dL_law_5 (by decide) ?_
  refine c_cell am hL hX hbl hbA hP hS hA hl ⟨by decide, by decide⟩ (Nat.le_of_ble_eq_true rfl) dL_law_6 ⟨Nat.le_of_ble_eq_true rfl, Nat.le_of_ble_eq_true rfl⟩ (fun H locs hP hS => ?_)
  refine c_ini am [] hP hD hS hA (As := [.int (sdL L xs)]) (rest := [.ref q]) c_X4_init kRL_82 rfl im_X4_init ⟨Nat.le_of_ble_eq_true rfl, Nat.le_of_ble_eq_true rfl⟩ hl rfl rfl (Nat.le_of_ble_eq_true rfl) dL_law_9 ⟨Nat.le_of_ble_eq_true rfl, Nat.le_of_ble_eq_true rfl⟩ (fun w1 H locs hg hP hD hS => ?_)
  obtain ⟨bA, f1, o1, t1, n1, f2, o2, t2, n2, al, ac, ar, ae, av, r, r1, r2, hw1⟩ := hg
  refine lv_astore_n (lv' := [(1, .ref q), (0, .ref ba)]) hx hb dL_law_12 rfl hl (by decide) rfl (fun ls hl => ?_)
  refine va_new hx hb am.2.2.2.2.1 inT5 tyX5 tyX5_ok hown (am.2.2.2.2.1 _ cl_RL_85) (am.2.2.2.2.1 _ in_RX5) (am.2.2.2.2.1 _ it_RX5) hK hP hD hS hA (ci := 5) rfl (fs := [.int 0, .long 0, .int 0, .null, .null, .null, .null, .null, .null, .null, .null, .null, .null, .null, .null, .null, .int 0, .int 0, .int 0, .int 0, .null, .int 0, .null, .null]) (by decide) (Nat.le_of_ble_eq_true rfl) (Nat.le_of_ble_eq_true rfl) dL_law_13 (fun q5 H hP hD hS => ?_)
  refine lv_dup hx hb dL_law_16 rfl ?_
  refine lv_aload_n hx hb dL_law_17 rfl (lv_at hl 1 rfl) ?_
  refine lv_iconst (v := 0) hx hb dL_law_18 (by decide) ?_
  refine c_cell am hL hX hbl hbA hP hS hA hl ⟨by decide, by decide⟩ (Nat.le_of_ble_eq_true rfl) dL_law_19 ⟨Nat.le_of_ble_eq_true rfl, Nat.le_of_ble_eq_true rfl⟩ (fun H locs hP hS => ?_)
  refine c_ini am ([] ++ w1) hP hD hS hA (As := [.int (sdL L xs)]) (rest := [.ref q5]) c_X5_init kRL_87 rfl im_X5_init ⟨Nat.le_of_ble_eq_true rfl, Nat.le_of_ble_eq_true rfl⟩ hl rfl rfl (Nat.le_of_ble_eq_true rfl) dL_law_22 ⟨Nat.le_of_ble_eq_true rfl, Nat.le_of_ble_eq_true rfl⟩ (fun w5 H locs hg hP hD hS => ?_)
  obtain ⟨a, hw5⟩ := hg
  refine lv_astore_n (lv' := [(2, .ref q5), (1, .ref q), (0, .ref ba)]) hx hb dL_law_25 rfl hl (by decide) rfl (fun ls hl => ?_)
  refine lv_iconst (v := 1) hx hb dL_law_26 (by decide) ?_
  refine va_newa hx hb (atype := .long) (am.2.2.2.2.1 _ ac_long) (ty := .long) rfl hK hP hD hS hA (n := 1) (N' := 1) (a0 := (1, .inr (.inl (fun _ => 0)))) (fun cA => rfl) (by decide) rfl (Nat.le_of_ble_eq_true rfl) (Nat.le_of_ble_eq_true rfl) (Nat.le_of_ble_eq_true rfl) dL_law_27 (fun ol cA H hK2 hP hD hS => ?_)
  obtain rfl : cA = cy 5 := cyEq hK2 (k := 5) rfl
  refine lv_astore_n (lv' := [(3, .ref ol), (2, .ref q5), (1, .ref q), (0, .ref ba)]) hx hb dL_law_29 rfl hl (by decide) rfl (fun ls hl => ?_)
  refine lv_iconst (v := 1) hx hb dL_law_30 (by decide) ?_
  refine va_newa hx hb (atype := .double) (am.2.2.2.2.1 _ ac_double) (ty := .double) rfl hK hP hD hS hA (n := 1) (N' := 1) (a0 := (1, .inr (.inr (.inr (.inl (fun _ => 0)))))) (fun cA => rfl) (by decide) rfl (Nat.le_of_ble_eq_true rfl) (Nat.le_of_ble_eq_true rfl) (Nat.le_of_ble_eq_true rfl) dL_law_31 (fun od cA H hK2 hP hD hS => ?_)
  obtain rfl : cA = cy 0 := cyEq hK2 (k := 0) rfl
  refine lv_astore (lv' := [(4, .ref od), (3, .ref ol), (2, .ref q5), (1, .ref q), (0, .ref ba)]) hx hb dL_law_33 hl (by decide) rfl (fun ls hl => ?_)
  refine lv_iconst (v := 1) hx hb dL_law_35 (by decide) ?_
  refine lv_istore (lv' := [(5, .int 1), (4, .ref od), (3, .ref ol), (2, .ref q5), (1, .ref q), (0, .ref ba)]) hx hb dL_law_36 hl (by decide) rfl (fun ls hl => ?_)
  have hw : ((([] ++ w1) ++ w5) ++ [(ol, eJ cy 1 (fun _ => 0))]) ++ [(od, eD cy 1 (fun _ => 0))] = wW cy (adS q bA f1 o1 t1 n1 f2 o2 t2 n2 al ac ar ae av q5 ol od r r1 r2 a) (I00 (sdL L xs)) F00 (J00 (sdL L xs)) := by
    rw [List.nil_append, hw1, hw5]
    exact w_conv cy (sdL L xs) q bA f1 o1 t1 n1 f2 o2 t2 n2 al ac ar ae av q5 ol od r r1 r2 a
  rw [hw] at hP hD
  generalize hae : adS q bA f1 o1 t1 n1 f2 o2 t2 n2 al ac ar ae av q5 ol od r r1 r2 a = ad at hP hD
  have h0 : ad 0 = q := by rw [← hae]; rfl
  have h53 : ad 53 = q5 := by rw [← hae]; rfl
  have h70 : ad 70 = ol := by rw [← hae]; rfl
  have h71 : ad 71 = od := by rw [← hae]; rfl
  have hge : ∀ c, c < 72 → s.heap.size ≤ ad c := fun c hc => hD.2 c _ (wat hc)
  have hadI : adI ad := fun c d hc hd h => hD.1 c d _ _ (wat hc) (wat hd) h
  have hnA : ∀ a : Nat, a < s.heap.size → ¬ aA ad s.heap.size a := fun a ha h => by
    rcases h with ⟨c, hc, e⟩ | h
    · have := hge c hc
      omega
    · omega
  have am2 : Amb p s m #[Value.ref ba] c cL_law 9 RL D cy ad := ⟨hx, hb, hml, hown, fun w h => hts w (tT_sub h), hK, hadI, strStart hts hgv, zStart hts hgv hnA⟩
  have hst : St D cy ad s.heap (I00 (sdL L xs)) F00 (J00 (sdL L xs)) H locs := ⟨⟨F00, F00_cn, hP⟩, hS.1, fun q h1 _ => hS.2.1 q h1 (Nat.not_le.mpr h1), fun z hz => Or.inr (hS.2.2 z hz)⟩
  have hl2 : lv_has ls 9 [(0, .ref ba), (1, .ref (ad 0)), (2, .ref (ad 53)), (3, .ref (ad 70)), (4, .ref (ad 71)), (5, .int (nI (1 + 6 * 0)))] := by
    rw [h0, h53, h70, h71]
    exact lv_sub hl [5, 4, 3, 2, 1, 0] rfl
  refine law_loop am2 (nStart hgv) hx hb hX hbl (hnA ba hbl) hL hno (fun d0 H locs ls cells slots I G J hd hst hc hs => hexit d0 H locs ls cells slots hd (fun z hz => ?_) hc hs) 512 0 (by omega) _ _ ⟨Nat.le_of_ble_eq_true rfl, Nat.le_of_ble_eq_true rfl⟩ s.drawn H locs ls _ _ _ (Drawn.sameBut.refl _ _) hst (rel0 _) (by decide) hl2
  rcases hst.2.2.2 z hz with ⟨c, hc, e⟩ | h
  · rw [e]; exact hge c hc
  · exact h
