/-! constructors: over what they have made so far -/
theorem va_AOA.moved {t : FieldType} {u U : State} (hvm : u.vm.Alike U.vm) (h : va_AOA t u) : va_AOA t U := by
  have h1 : (Cond.arrayOver (.array t)).before #[] (u.setVm U.vm) = true := (Cond.arrayOver_setVmC hvm (.array t)).trans h
  exact h1
def preC (D : va_G) (cy : Nat → ClassId) (sz : Nat) (ws : va_W) (U : State) : Prop :=
  U.heap.size = sz ∧ va_P D vwCl ws U.heap ∧ va_K D vwCl (tyW cy) U ∧ (∀ w ∈ tT, w.before #[] U = true) ∧ va_AO RX0 U ∧ va_AOA .double U ∧ va_D (fun _ => True) ws
theorem fb_preC {D : va_G} {cy : Nat → ClassId} {sz : Nat} {ws : va_W} {av : List Value} : FrameBlind (va_Pc av (preC D cy sz ws)) := by
  intro a U g mk h
  obtain ⟨h1, h2, h3, h4, h5, h6, h7, h8⟩ := h
  have hW : U.WarmedH (U.calling g mk a).vm := State.WarmedH.refl U
  exact ⟨h1, h2, h3, va_K.moved hW.alike h4, tT_at hW h5, h6.moved hW.alike, h7.moved hW.alike, h8⟩
abbrev qC (D : va_G) (ws : va_W) (good : va_W → Prop) (sz : Nat) : QcT := va_Qv good (fun ws' t => va_P D vwCl ws' t.heap ∧ va_D (va_A ws sz) ws') (va_A ws sz)
abbrev kC (l : Launch) (y : MethodName) (w : Cond) (rm : Room) (D : va_G) (cy : Nat → ClassId) (av : List Value) (ws : va_W) (good : va_W → Prop) : Prop :=
  ∀ sz, Met l y [w] rm (va_Pc av (preC D cy sz ws)) (qC D ws good sz) rm.cells rm.slots (va_A ws sz)
/-- what a constructor has at hand -/
def AmC (p : Program) (s : State) (m : MethodId) (args : Array Value) (c : Code) (cc : ByteArray) (nL : Nat) (own : String) (D : va_G) (cy : Nat → ClassId) : Prop :=
  p.tables.exec = Jvm.exec ∧ c.code = cc ∧ c.maxLocals = nL ∧ s.vm.findClass own = some m.cls ∧ (∀ w ∈ tT, w.before args s = true) ∧ va_K D vwCl (tyW cy) s ∧ va_AO RX0 s ∧ va_AOA .double s
theorem start_C {l : Launch} {y : MethodName} {D : va_G} {cy : Nat → ClassId} {av : List Value} {ws : va_W} {good : va_W → Prop} {cc : ByteArray} {nL : Nat} {rm : Room} (hy : plainName y.cls = true) (hn : (lg_sl av).length ≤ nL)
    (body : ∀ (p : Program) (e : Env) (s : State) (m : MethodId) (below : List Frame) (meth : Method) (c : Code) (A : Nat → Prop), AmC p s m av.toArray c cc nL y.cls D cy → p.tables.exec = Jvm.exec → c.code = cc → meth.sig.returnType = none → meth.name = y.name → meth.locks = false → (∀ q, s.heap.size ≤ q → A q) → va_P D vwCl ws s.heap → va_D A ws → va_S A s.heap s.heap [] → ∀ ls, lv_has ls nL (lv_args 0 av) →
      W p l e rm s m av.toArray below meth c s.heap [] 0 0 (MQ below (va_Qv good (fun ws' t => va_P D vwCl ws' t.heap ∧ va_D A ws') A) av.toArray s rm.cells rm.slots A) (F0 m 0 ls [])) :
    kC l y (.code y cc nL none) rm D cy av ws good := by
  intro sz
  refine Met.ofW (cc := cc) (maxL := nL) (ret := none) hy rfl ?_
  intro p e s m args below meth c s₁ B hml hv
  obtain ⟨rfl, hsz, hP, hK, hT, hO, hOA, hD0⟩ := hv
  subst hsz
  have hl := lv_entry av (n := nL) hn
  rw [lg_entry_eq]
  exact body p e s m below meth c (va_A ws s.heap.size) ⟨B.exec, B.bytes, hml, findClass_of_methodNamed B.named, tT_at (State.WarmedH.refl s) hT, hK, hO, hOA⟩ B.exec B.bytes B.returns (name_of_methodNamed B.named B.method).1 B.notSynchronized (fun q h => Or.inr h) hP hD0.self va_S.rf _ hl
theorem cyEq {D : va_G} {cl : List vw_C} {tys : List (ClassId × FieldType)} {s : State} {cA c : ClassId} {ty : FieldType} {k : Nat} (h : va_K D cl (tys ++ [(cA, ty)]) s) (hk : tys[k]? = some (c, ty)) : cA = c := by
  have hlt : k < tys.length := (List.getElem?_eq_some_iff.mp hk).1
  have h1 := (h.2 k (c, ty) (by rw [List.getElem?_append_left hlt]; exact hk)).2
  have h2 := (h.2 tys.length (cA, ty) (by simp)).2
  cases ty with
  | object C =>
    obtain ⟨kA, comp, -, -, -, e1⟩ := h1
    obtain ⟨kA2, comp2, -, -, -, e2⟩ := h2
    exact Option.some.inj (e2.symm.trans e1)
  | _ => exact Option.some.inj (h2.symm.trans h1)
theorem kSame {D : va_G} {cl : List vw_C} {tys : List (ClassId × FieldType)} {s : State} {x : ClassId × FieldType} (h : va_K D cl (tys ++ [x]) s) : va_K D cl tys s := ⟨h.1, fun k q hk => h.2 k q (by rw [List.getElem?_append_left (List.getElem?_eq_some_iff.mp hk).1]; exact hk)⟩
/-- behind a constructor's call on the newest object: the rest stays, its world comes instead -/
theorem va_joinA {A0 : Nat → Prop} {D : va_G} {cl : List vw_C} {wr wc w1 : va_W} {H H1 : Heap} (hP : va_P D cl (wr ++ wc) H) (hD : va_D A0 (wr ++ wc)) (hk : ∀ q : Nat, q < H.size → ¬ va_A wc H.size q → H1[q]? = H[q]?) (hF : ∀ q, va_A wc H.size q → A0 q) (hP1 : va_P D cl w1 H1) (hD1 : va_D (va_A wc H.size) w1) : va_P D cl (wr ++ w1) H1 ∧ va_D A0 (wr ++ w1) := by
  have hin : ∀ (k : Nat) (q : Nat × va_E), wr[k]? = some q → k < wr.length ∧ (wr ++ wc)[k]? = some q := fun k q h => ⟨(List.getElem?_eq_some_iff.mp h).1, by rw [List.getElem?_append_left (List.getElem?_eq_some_iff.mp h).1]; exact h⟩
  have hout : ∀ (k : Nat) (q : Nat × va_E), wr[k]? = some q → q.1 < H.size ∧ ¬ va_A wc H.size q.1 := by
    intro k q h
    obtain ⟨h1, h2⟩ := hin k q h
    have hlt := (hP k q h2).lt
    refine ⟨hlt, ?_⟩
    rintro (⟨j, e, hj⟩ | hge)
    · have hj2 : (wr ++ wc)[wr.length + j]? = some (q.1, e) := by rw [List.getElem?_append_right (by omega)]; simpa using hj
      have := hD.1 _ _ _ _ h2 hj2 rfl
      omega
    · omega
  have hsp : ∀ (k : Nat) (q : Nat × va_E), (wr ++ w1)[k]? = some q → (wr[k]? = some q ∧ k < wr.length) ∨ (wr.length ≤ k ∧ w1[k - wr.length]? = some q) := by
    intro k q h
    by_cases hl : k < wr.length
    · rw [List.getElem?_append_left hl] at h
      exact Or.inl ⟨h, hl⟩
    · rw [List.getElem?_append_right (by omega)] at h
      exact Or.inr ⟨by omega, h⟩
  refine ⟨fun k q h => ?_, fun i j a b ha hb hab => ?_, fun k q h => ?_⟩
  · rcases hsp k q h with ⟨h1, -⟩ | ⟨-, h1⟩
    · exact (va_P.kept (ws := wr) (fun k q h => hP k q (hin k q h).2) (fun k x hx => hk x.1 (hout k x hx).1 (hout k x hx).2)) k q h1
    · exact hP1 _ q h1
  · rcases hsp i a ha with ⟨h1, l1⟩ | ⟨l1, h1⟩ <;> rcases hsp j b hb with ⟨h2, l2⟩ | ⟨l2, h2⟩
    · exact hD.1 i j a b (hin i a h1).2 (hin j b h2).2 hab
    · exact absurd (hab ▸ hD1.2 _ _ h2) (hout i a h1).2
    · exact absurd (hab ▸ hD1.2 _ _ h1) (hab ▸ (hout j b h2).2)
    · have := hD1.1 _ _ a b h1 h2 hab
      omega
  · rcases hsp k q h with ⟨h1, -⟩ | ⟨-, h1⟩
    · exact hD.2 k q (hin k q h1).2
    · exact hF _ (hD1.2 _ q h1)
theorem oi_1 : Cond.instanceMethod Lib.objectInit ∈ tT := tT_in (k := 50) (by decide +kernel) rfl
theorem oi_2 : Cond.code Lib.objectInit ⟨#[0xb1]⟩ 1 none ∈ tT := tT_in (k := 51) (by decide +kernel) rfl
theorem ol_RX4 : Cond.methodLink RX4 1 Lib.objectInit ∈ tT := tT_in (k := 49) (by decide +kernel) rfl
theorem ol_RX0 : Cond.methodLink RX0 1 Lib.objectInit ∈ tT := tT_in (k := 58) (by decide +kernel) rfl
theorem ol_RX2 : Cond.methodLink RX2 3 Lib.objectInit ∈ tT := tT_in (k := 95) (by decide +kernel) rfl
theorem ol_RX1 : Cond.methodLink RX1 3 Lib.objectInit ∈ tT := tT_in (k := 116) (by decide +kernel) rfl
theorem ol_RX3 : Cond.methodLink RX3 3 Lib.objectInit ∈ tT := tT_in (k := 135) (by decide +kernel) rfl
theorem ol_RX5 : Cond.methodLink RX5 1 Lib.objectInit ∈ tT := tT_in (k := 552) (by decide +kernel) rfl
theorem ac_double : Cond.arrayClass .double ∈ tT := tT_in (k := 109) (by decide +kernel) rfl
theorem ac_int : Cond.arrayClass .int ∈ tT := tT_in (k := 149) (by decide +kernel) rfl
theorem ac_boolean : Cond.arrayClass .boolean ∈ tT := tT_in (k := 627) (by decide +kernel) rfl
theorem ac_long : Cond.arrayClass .long ∈ tT := tT_in (k := 750) (by decide +kernel) rfl
theorem in_RX0 : Cond.instantiable RX0 8 ∈ tT := tT_in (k := 54) (by decide +kernel) rfl
theorem it_RX0 : Cond.initialized RX0 ∈ tT := tT_in (k := 32) (by decide +kernel) rfl
theorem in_RX1 : Cond.instantiable RX1 4 ∈ tT := tT_in (k := 112) (by decide +kernel) rfl
theorem it_RX1 : Cond.initialized RX1 ∈ tT := tT_in (k := 34) (by decide +kernel) rfl
theorem in_RX2 : Cond.instantiable RX2 3 ∈ tT := tT_in (k := 91) (by decide +kernel) rfl
theorem it_RX2 : Cond.initialized RX2 ∈ tT := tT_in (k := 33) (by decide +kernel) rfl
theorem in_RX3 : Cond.instantiable RX3 4 ∈ tT := tT_in (k := 131) (by decide +kernel) rfl
theorem it_RX3 : Cond.initialized RX3 ∈ tT := tT_in (k := 35) (by decide +kernel) rfl
theorem in_RX4 : Cond.instantiable RX4 8 ∈ tT := tT_in (k := 45) (by decide +kernel) rfl
theorem it_RX4 : Cond.initialized RX4 ∈ tT := tT_in (k := 31) (by decide +kernel) rfl
theorem in_RX5 : Cond.instantiable RX5 24 ∈ tT := tT_in (k := 548) (by decide +kernel) rfl
theorem it_RX5 : Cond.initialized RX5 ∈ tT := tT_in (k := 36) (by decide +kernel) rfl
theorem cl_RL_8 : Cond.classLink RL 8 RX4 ∈ tT := tT_in (k := 44) (by decide +kernel) rfl
theorem cl_RX4_13 : Cond.classLink RX4 13 RX0 ∈ tT := tT_in (k := 52) (by decide +kernel) rfl
theorem cl_RX4_20 : Cond.classLink RX4 20 RX2 ∈ tT := tT_in (k := 90) (by decide +kernel) rfl
theorem cl_RX4_36 : Cond.classLink RX4 36 RX1 ∈ tT := tT_in (k := 111) (by decide +kernel) rfl
theorem cl_RX4_43 : Cond.classLink RX4 43 RX3 ∈ tT := tT_in (k := 130) (by decide +kernel) rfl
theorem cl_RL_85 : Cond.classLink RL 85 RX5 ∈ tT := tT_in (k := 547) (by decide +kernel) rfl
theorem cl_RX2_9 : Cond.classLink RX2 9 ("[" ++ (FieldType.array .double).toString) ∈ tT := tT_in (k := 96) (by decide +kernel) rfl
theorem rows3 {cy : Nat → ClassId} (r : Nat → Nat) : va_pl ([] ++ (List.range 3).map r) (vr_up (fun _ => eD cy 3 (fun _ => 0)) ((List.range 3).map r) (eD cy 3 (fun _ => 0))) = [(r 0, eD cy 3 (fun _ => 0)), (r 1, eD cy 3 (fun _ => 0)), (r 2, eD cy 3 (fun _ => 0))] := by
  have e : vr_up (fun _ => eD cy 3 (fun _ => 0)) ((List.range 3).map r) (eD cy 3 (fun _ => 0)) = fun _ => eD cy 3 (fun _ => 0) := by
    funext a
    unfold vr_up
    split <;> rfl
  rw [e]
  rfl
set_option maxHeartbeats 4000000 in
set_option maxRecDepth 100000 in
theorem c_X0_init {l : Launch} {D : va_G} {cy : Nat → ClassId} {q : Nat} : kC l yX0_init (.code yX0_init cX0_init 1 none) (rmK 1 0 0 20) D cy [.ref q] [(q, .inr (0, [.int 0, .double 0, .double 0, .double 0, .double 0, .int 0, .int 0, .double 0]))] (fun ws => ws = [(q, .inr (0, fB (fun _ => 0) (fun _ => 0) (fun _ => 0)))]) := by
  refine start_C (by decide +kernel) (Nat.le_of_ble_eq_true rfl) ?_
  intro p e s m below meth c A am hx hb hr hin hlk hA hP hD hS0 ls hl
  have hown := am.2.2.2.1
  have hK := am.2.2.2.2.2.1
  generalize hH0 : s.heap = H at hP ⊢
  have hS : va_S A s.heap H [] := by rw [← hH0]; exact va_S.rf
  have hl : lv_has ls 1 [(0, .ref q)] := hl
  refine lv_aload_n hx hb dX0_init_0 rfl (lv_at hl 0 rfl) ?_
  refine W.objInit hx hb hown (am.2.2.2.2.1 _ ol_RX0) (am.2.2.2.2.1 _ oi_1) (am.2.2.2.2.1 _ oi_2) rfl (by rw [am.2.2.1]; exact hl.1) rfl dX0_init_1 (Nat.le_of_ble_eq_true rfl) (Nat.le_of_ble_eq_true rfl) ?_
  refine W.eq (g2 := F0 m 4 ls []) rfl ?_
  exact W.vret hx hb hr (fun t ht hW => ⟨⟨_, rfl, rfl, by rw [ht]; exact hP, hD⟩, hS.F ht⟩) hS.2.2 dX0_init_4

set_option maxHeartbeats 4000000 in
set_option maxRecDepth 100000 in
theorem c_X1_init {l : Launch} {D : va_G} {cy : Nat → ClassId} {q : Nat} : kC l yX1_init (.code yX1_init cX1_init 1 none) (rmK 1 0 0 20) D cy [.ref q] [(q, .inr (1, [.int 0, .int 0, .int 0, .int 0]))] (fun ws => ws = [(q, .inr (1, [.int 10, .int 1, .int 0, .int 0]))]) := by
  refine start_C (by decide +kernel) (Nat.le_of_ble_eq_true rfl) ?_
  intro p e s m below meth c A am hx hb hr hin hlk hA hP hD hS0 ls hl
  have hown := am.2.2.2.1
  have hK := am.2.2.2.2.2.1
  generalize hH0 : s.heap = H at hP ⊢
  have hS : va_S A s.heap H [] := by rw [← hH0]; exact va_S.rf
  have hl : lv_has ls 1 [(0, .ref q)] := hl
  refine lv_aload_n hx hb dX1_init_0 rfl (lv_at hl 0 rfl) ?_
  refine W.objInit hx hb hown (am.2.2.2.2.1 _ ol_RX1) (am.2.2.2.2.1 _ oi_1) (am.2.2.2.2.1 _ oi_2) rfl (by rw [am.2.2.1]; exact hl.1) rfl dX1_init_1 (Nat.le_of_ble_eq_true rfl) (Nat.le_of_ble_eq_true rfl) ?_
  refine W.eq (g2 := F0 m 4 ls []) rfl ?_
  refine lv_aload_n hx hb dX1_init_4 rfl (lv_at hl 0 rfl) ?_
  refine lv_bipush (v := 10) hx hb dX1_init_5 (by decide) ?_
  refine va_put (ref := (TX1 0).1) hx hb am.2.2.2.2.1 inT1 tyX1 tyX1_ok nmX1 hown hK hP hD hS 0 rfl rfl 0 (by decide) (am.2.2.2.2.1 _ fRX1_9) (fun _ h => h) rfl (tyX1_ok 0 (by decide)) rfl rfl (Nat.le_of_ble_eq_true rfl) dX1_init_7 (fun H locs hP hD hS => ?_)
  have hP : va_P D vwCl [(q, .inr (1, [.int 10, .int 0, .int 0, .int 0]))] H := hP
  have hD : va_D A [(q, .inr (1, [.int 10, .int 0, .int 0, .int 0]))] := hD
  refine lv_aload_n hx hb dX1_init_10 rfl (lv_at hl 0 rfl) ?_
  refine lv_iconst (v := 1) hx hb dX1_init_11 (by decide) ?_
  refine va_put (ref := (TX1 1).1) hx hb am.2.2.2.2.1 inT1 tyX1 tyX1_ok nmX1 hown hK hP hD hS 0 rfl rfl 1 (by decide) (am.2.2.2.2.1 _ fRX1_15) (fun _ h => h) rfl (tyX1_ok 1 (by decide)) rfl rfl (Nat.le_of_ble_eq_true rfl) dX1_init_12 (fun H locs hP hD hS => ?_)
  have hP : va_P D vwCl [(q, .inr (1, [.int 10, .int 1, .int 0, .int 0]))] H := hP
  have hD : va_D A [(q, .inr (1, [.int 10, .int 1, .int 0, .int 0]))] := hD
  exact W.vret hx hb hr (fun t ht hW => ⟨⟨_, rfl, rfl, by rw [ht]; exact hP, hD⟩, hS.F ht⟩) hS.2.2 dX1_init_15

def fitL (cy : Nat → ClassId) (q ao at9 an : Nat) (r : Nat → Nat) : va_W := [(q, .inr (2, [.ref ao, .ref at9, .ref an])), (ao, eA cy 3 (fun i => if i < 3 then some (r i) else none)), (r 0, eD cy 3 (fun _ => 0)), (r 1, eD cy 3 (fun _ => 0)), (r 2, eD cy 3 (fun _ => 0)), (at9, eD cy 3 (fun _ => 0)), (an, eD cy 3 (fun _ => 0))]
def refL (cy : Nat → ClassId) (q a b : Nat) : va_W := [(q, .inr (3, [.ref a, .ref b, .int 0, .int (-1)])), (a, eI cy 16 (fun _ => 0)), (b, eD cy 16 (fun _ => 0))]
set_option maxHeartbeats 4000000 in
set_option maxRecDepth 100000 in
theorem c_X2_init {l : Launch} {D : va_G} {cy : Nat → ClassId} {q : Nat} : kC l yX2_init (.code yX2_init cX2_init 1 none) (rmK 1 6 18 20) D cy [.ref q] [(q, .inr (2, [.null, .null, .null]))] (fun ws => ∃ (ao at9 an : Nat) (r : Nat → Nat), ws = fitL cy q ao at9 an r) := by
  refine start_C (by decide +kernel) (Nat.le_of_ble_eq_true rfl) ?_
  intro p e s m below meth c A am hx hb hr hin hlk hA hP hD hS0 ls hl
  have hown := am.2.2.2.1
  have hK := am.2.2.2.2.2.1
  generalize hH0 : s.heap = H at hP ⊢
  have hS : va_S A s.heap H [] := by rw [← hH0]; exact va_S.rf
  have hl : lv_has ls 1 [(0, .ref q)] := hl
  refine lv_aload_n hx hb dX2_init_0 rfl (lv_at hl 0 rfl) ?_
  refine W.objInit hx hb hown (am.2.2.2.2.1 _ ol_RX2) (am.2.2.2.2.1 _ oi_1) (am.2.2.2.2.1 _ oi_2) rfl (by rw [am.2.2.1]; exact hl.1) rfl dX2_init_1 (Nat.le_of_ble_eq_true rfl) (Nat.le_of_ble_eq_true rfl) ?_
  refine W.eq (g2 := F0 m 4 ls []) rfl ?_
  refine lv_aload_n hx hb dX2_init_4 rfl (lv_at hl 0 rfl) ?_
  refine lv_iconst (v := 3) hx hb dX2_init_5 (by decide) ?_
  refine lv_iconst (v := 3) hx hb dX2_init_6 (by decide) ?_
  refine va_mna (X := [(q, .inr (2, [.null, .null, .null]))]) (L := []) (f := fun _ => eD cy 3 (fun _ => 0)) (ty := .double) (cy := cy 0) hx hb hown (am.2.2.2.2.1 _ cl_RX2_9) am.2.2.2.2.2.2.2 (am.2.2.2.2.1 _ ac_double) (hK.2 0 _ rfl).2 hK hP hD hS hA (n := 3) (k := 3) (N' := 3) (K' := 3) (z := (3, .inr (.inr (.inr (.inl (fun _ => 0)))))) (by decide) (by decide) rfl rfl (Nat.le_of_ble_eq_true rfl) (Nat.le_of_ble_eq_true rfl) (Nat.le_of_ble_eq_true rfl) rfl rfl (Nat.le_of_ble_eq_true rfl) (Nat.le_of_ble_eq_true rfl) (fun c => rfl) dX2_init_7 (fun ao r cA H hri hrj hK2 hP hD hS => ?_)
  obtain rfl : cA = cy 4 := cyEq hK2 (k := 4) rfl
  rw [rows3 r] at hP hD
  have hP : va_P D vwCl [(q, .inr (2, [.null, .null, .null])), (ao, eA cy 3 (fun i => if i < 3 then some (r i) else none)), (r 0, eD cy 3 (fun _ => 0)), (r 1, eD cy 3 (fun _ => 0)), (r 2, eD cy 3 (fun _ => 0))] H := hP
  have hD : va_D A [(q, .inr (2, [.null, .null, .null])), (ao, eA cy 3 (fun i => if i < 3 then some (r i) else none)), (r 0, eD cy 3 (fun _ => 0)), (r 1, eD cy 3 (fun _ => 0)), (r 2, eD cy 3 (fun _ => 0))] := hD
  refine va_putF (ref := (TX2 0).1) hx hb am.2.2.2.2.1 inT2 tyX2 tyX2_ok nmX2 hown hK hP hD hS 0 rfl rfl 0 (by decide) (am.2.2.2.2.1 _ fRX2_11) (fun _ h => h) rfl hin rfl (tyX2_ok 0 (by decide)) rfl rfl (Nat.le_of_ble_eq_true rfl) dX2_init_11 (fun H locs hP hD hS => ?_)
  have hP : va_P D vwCl [(q, .inr (2, [.ref ao, .null, .null])), (ao, eA cy 3 (fun i => if i < 3 then some (r i) else none)), (r 0, eD cy 3 (fun _ => 0)), (r 1, eD cy 3 (fun _ => 0)), (r 2, eD cy 3 (fun _ => 0))] H := hP
  have hD : va_D A [(q, .inr (2, [.ref ao, .null, .null])), (ao, eA cy 3 (fun i => if i < 3 then some (r i) else none)), (r 0, eD cy 3 (fun _ => 0)), (r 1, eD cy 3 (fun _ => 0)), (r 2, eD cy 3 (fun _ => 0))] := hD
  refine lv_aload_n hx hb dX2_init_14 rfl (lv_at hl 0 rfl) ?_
  refine lv_iconst (v := 3) hx hb dX2_init_15 (by decide) ?_
  refine va_newa hx hb (atype := .double) (am.2.2.2.2.1 _ ac_double) (ty := .double) rfl hK hP hD hS hA (n := 3) (N' := 3) (a0 := (3, .inr (.inr (.inr (.inl (fun _ => 0)))))) (fun cA => rfl) (by decide) rfl (Nat.le_of_ble_eq_true rfl) (Nat.le_of_ble_eq_true rfl) (Nat.le_of_ble_eq_true rfl) dX2_init_16 (fun a1 cA H hK2 hP hD hS => ?_)
  obtain rfl : cA = cy 0 := cyEq hK2 (k := 0) rfl
  have hP : va_P D vwCl [(q, .inr (2, [.ref ao, .null, .null])), (ao, eA cy 3 (fun i => if i < 3 then some (r i) else none)), (r 0, eD cy 3 (fun _ => 0)), (r 1, eD cy 3 (fun _ => 0)), (r 2, eD cy 3 (fun _ => 0)), (a1, eD cy 3 (fun _ => 0))] H := hP
  have hD : va_D A [(q, .inr (2, [.ref ao, .null, .null])), (ao, eA cy 3 (fun i => if i < 3 then some (r i) else none)), (r 0, eD cy 3 (fun _ => 0)), (r 1, eD cy 3 (fun _ => 0)), (r 2, eD cy 3 (fun _ => 0)), (a1, eD cy 3 (fun _ => 0))] := hD
  refine va_putF (ref := (TX2 1).1) hx hb am.2.2.2.2.1 inT2 tyX2 tyX2_ok nmX2 hown hK hP hD hS 0 rfl rfl 1 (by decide) (am.2.2.2.2.1 _ fRX2_16) (fun _ h => h) rfl hin rfl (tyX2_ok 1 (by decide)) rfl rfl (Nat.le_of_ble_eq_true rfl) dX2_init_18 (fun H locs hP hD hS => ?_)
  have hP : va_P D vwCl [(q, .inr (2, [.ref ao, .ref a1, .null])), (ao, eA cy 3 (fun i => if i < 3 then some (r i) else none)), (r 0, eD cy 3 (fun _ => 0)), (r 1, eD cy 3 (fun _ => 0)), (r 2, eD cy 3 (fun _ => 0)), (a1, eD cy 3 (fun _ => 0))] H := hP
  have hD : va_D A [(q, .inr (2, [.ref ao, .ref a1, .null])), (ao, eA cy 3 (fun i => if i < 3 then some (r i) else none)), (r 0, eD cy 3 (fun _ => 0)), (r 1, eD cy 3 (fun _ => 0)), (r 2, eD cy 3 (fun _ => 0)), (a1, eD cy 3 (fun _ => 0))] := hD
  refine lv_aload_n hx hb dX2_init_21 rfl (lv_at hl 0 rfl) ?_
  refine lv_iconst (v := 3) hx hb dX2_init_22 (by decide) ?_
  refine va_newa hx hb (atype := .double) (am.2.2.2.2.1 _ ac_double) (ty := .double) rfl hK hP hD hS hA (n := 3) (N' := 3) (a0 := (3, .inr (.inr (.inr (.inl (fun _ => 0)))))) (fun cA => rfl) (by decide) rfl (Nat.le_of_ble_eq_true rfl) (Nat.le_of_ble_eq_true rfl) (Nat.le_of_ble_eq_true rfl) dX2_init_23 (fun a2 cA H hK2 hP hD hS => ?_)
  obtain rfl : cA = cy 0 := cyEq hK2 (k := 0) rfl
  have hP : va_P D vwCl [(q, .inr (2, [.ref ao, .ref a1, .null])), (ao, eA cy 3 (fun i => if i < 3 then some (r i) else none)), (r 0, eD cy 3 (fun _ => 0)), (r 1, eD cy 3 (fun _ => 0)), (r 2, eD cy 3 (fun _ => 0)), (a1, eD cy 3 (fun _ => 0)), (a2, eD cy 3 (fun _ => 0))] H := hP
  have hD : va_D A [(q, .inr (2, [.ref ao, .ref a1, .null])), (ao, eA cy 3 (fun i => if i < 3 then some (r i) else none)), (r 0, eD cy 3 (fun _ => 0)), (r 1, eD cy 3 (fun _ => 0)), (r 2, eD cy 3 (fun _ => 0)), (a1, eD cy 3 (fun _ => 0)), (a2, eD cy 3 (fun _ => 0))] := hD
  refine va_putF (ref := (TX2 2).1) hx hb am.2.2.2.2.1 inT2 tyX2 tyX2_ok nmX2 hown hK hP hD hS 0 rfl rfl 2 (by decide) (am.2.2.2.2.1 _ fRX2_20) (fun _ h => h) rfl hin rfl (tyX2_ok 2 (by decide)) rfl rfl (Nat.le_of_ble_eq_true rfl) dX2_init_25 (fun H locs hP hD hS => ?_)
  have hP : va_P D vwCl [(q, .inr (2, [.ref ao, .ref a1, .ref a2])), (ao, eA cy 3 (fun i => if i < 3 then some (r i) else none)), (r 0, eD cy 3 (fun _ => 0)), (r 1, eD cy 3 (fun _ => 0)), (r 2, eD cy 3 (fun _ => 0)), (a1, eD cy 3 (fun _ => 0)), (a2, eD cy 3 (fun _ => 0))] H := hP
  have hD : va_D A [(q, .inr (2, [.ref ao, .ref a1, .ref a2])), (ao, eA cy 3 (fun i => if i < 3 then some (r i) else none)), (r 0, eD cy 3 (fun _ => 0)), (r 1, eD cy 3 (fun _ => 0)), (r 2, eD cy 3 (fun _ => 0)), (a1, eD cy 3 (fun _ => 0)), (a2, eD cy 3 (fun _ => 0))] := hD
  exact W.vret hx hb hr (fun t ht hW => ⟨⟨_, rfl, ⟨ao, _, _, r, rfl⟩, by rw [ht]; exact hP, hD⟩, hS.F ht⟩) hS.2.2 dX2_init_28

set_option maxHeartbeats 4000000 in
set_option maxRecDepth 100000 in
theorem c_X3_init {l : Launch} {D : va_G} {cy : Nat → ClassId} {q : Nat} : kC l yX3_init (.code yX3_init cX3_init 1 none) (rmK 1 2 32 20) D cy [.ref q] [(q, .inr (3, [.null, .null, .int 0, .int 0]))] (fun ws => ∃ (a b : Nat), ws = refL cy q a b) := by
  refine start_C (by decide +kernel) (Nat.le_of_ble_eq_true rfl) ?_
  intro p e s m below meth c A am hx hb hr hin hlk hA hP hD hS0 ls hl
  have hown := am.2.2.2.1
  have hK := am.2.2.2.2.2.1
  generalize hH0 : s.heap = H at hP ⊢
  have hS : va_S A s.heap H [] := by rw [← hH0]; exact va_S.rf
  have hl : lv_has ls 1 [(0, .ref q)] := hl
  refine lv_aload_n hx hb dX3_init_0 rfl (lv_at hl 0 rfl) ?_
  refine W.objInit hx hb hown (am.2.2.2.2.1 _ ol_RX3) (am.2.2.2.2.1 _ oi_1) (am.2.2.2.2.1 _ oi_2) rfl (by rw [am.2.2.1]; exact hl.1) rfl dX3_init_1 (Nat.le_of_ble_eq_true rfl) (Nat.le_of_ble_eq_true rfl) ?_
  refine W.eq (g2 := F0 m 4 ls []) rfl ?_
  refine lv_aload_n hx hb dX3_init_4 rfl (lv_at hl 0 rfl) ?_
  refine lv_bipush (v := 16) hx hb dX3_init_5 (by decide) ?_
  refine va_newa hx hb (atype := .int) (am.2.2.2.2.1 _ ac_int) (ty := .int) rfl hK hP hD hS hA (n := 16) (N' := 16) (a0 := (16, .inl (fun _ => 0))) (fun cA => rfl) (by decide) rfl (Nat.le_of_ble_eq_true rfl) (Nat.le_of_ble_eq_true rfl) (Nat.le_of_ble_eq_true rfl) dX3_init_7 (fun a1 cA H hK2 hP hD hS => ?_)
  obtain rfl : cA = cy 1 := cyEq hK2 (k := 1) rfl
  have hP : va_P D vwCl [(q, .inr (3, [.null, .null, .int 0, .int 0])), (a1, eI cy 16 (fun _ => 0))] H := hP
  have hD : va_D A [(q, .inr (3, [.null, .null, .int 0, .int 0])), (a1, eI cy 16 (fun _ => 0))] := hD
  refine va_putF (ref := (TX3 0).1) hx hb am.2.2.2.2.1 inT3 tyX3 tyX3_ok nmX3 hown hK hP hD hS 0 rfl rfl 0 (by decide) (am.2.2.2.2.1 _ fRX3_9) (fun _ h => h) rfl hin rfl (tyX3_ok 0 (by decide)) rfl rfl (Nat.le_of_ble_eq_true rfl) dX3_init_9 (fun H locs hP hD hS => ?_)
  have hP : va_P D vwCl [(q, .inr (3, [.ref a1, .null, .int 0, .int 0])), (a1, eI cy 16 (fun _ => 0))] H := hP
  have hD : va_D A [(q, .inr (3, [.ref a1, .null, .int 0, .int 0])), (a1, eI cy 16 (fun _ => 0))] := hD
  refine lv_aload_n hx hb dX3_init_12 rfl (lv_at hl 0 rfl) ?_
  refine lv_bipush (v := 16) hx hb dX3_init_13 (by decide) ?_
  refine va_newa hx hb (atype := .double) (am.2.2.2.2.1 _ ac_double) (ty := .double) rfl hK hP hD hS hA (n := 16) (N' := 16) (a0 := (16, .inr (.inr (.inr (.inl (fun _ => 0)))))) (fun cA => rfl) (by decide) rfl (Nat.le_of_ble_eq_true rfl) (Nat.le_of_ble_eq_true rfl) (Nat.le_of_ble_eq_true rfl) dX3_init_15 (fun a2 cA H hK2 hP hD hS => ?_)
  obtain rfl : cA = cy 0 := cyEq hK2 (k := 0) rfl
  have hP : va_P D vwCl [(q, .inr (3, [.ref a1, .null, .int 0, .int 0])), (a1, eI cy 16 (fun _ => 0)), (a2, eD cy 16 (fun _ => 0))] H := hP
  have hD : va_D A [(q, .inr (3, [.ref a1, .null, .int 0, .int 0])), (a1, eI cy 16 (fun _ => 0)), (a2, eD cy 16 (fun _ => 0))] := hD
  refine va_putF (ref := (TX3 1).1) hx hb am.2.2.2.2.1 inT3 tyX3 tyX3_ok nmX3 hown hK hP hD hS 0 rfl rfl 1 (by decide) (am.2.2.2.2.1 _ fRX3_15) (fun _ h => h) rfl hin rfl (tyX3_ok 1 (by decide)) rfl rfl (Nat.le_of_ble_eq_true rfl) dX3_init_17 (fun H locs hP hD hS => ?_)
  have hP : va_P D vwCl [(q, .inr (3, [.ref a1, .ref a2, .int 0, .int 0])), (a1, eI cy 16 (fun _ => 0)), (a2, eD cy 16 (fun _ => 0))] H := hP
  have hD : va_D A [(q, .inr (3, [.ref a1, .ref a2, .int 0, .int 0])), (a1, eI cy 16 (fun _ => 0)), (a2, eD cy 16 (fun _ => 0))] := hD
  refine lv_aload_n hx hb dX3_init_20 rfl (lv_at hl 0 rfl) ?_
  refine lv_iconst (v := (-1)) hx hb dX3_init_21 (by decide) ?_
  refine va_put (ref := (TX3 3).1) hx hb am.2.2.2.2.1 inT3 tyX3 tyX3_ok nmX3 hown hK hP hD hS 0 rfl rfl 3 (by decide) (am.2.2.2.2.1 _ fRX3_19) (fun _ h => h) rfl (tyX3_ok 3 (by decide)) rfl rfl (Nat.le_of_ble_eq_true rfl) dX3_init_22 (fun H locs hP hD hS => ?_)
  have hP : va_P D vwCl [(q, .inr (3, [.ref a1, .ref a2, .int 0, .int (-1)])), (a1, eI cy 16 (fun _ => 0)), (a2, eD cy 16 (fun _ => 0))] H := hP
  have hD : va_D A [(q, .inr (3, [.ref a1, .ref a2, .int 0, .int (-1)])), (a1, eI cy 16 (fun _ => 0)), (a2, eD cy 16 (fun _ => 0))] := hD
  exact W.vret hx hb hr (fun t ht hW => ⟨⟨_, rfl, ⟨_, _, rfl⟩, by rw [ht]; exact hP, hD⟩, hS.F ht⟩) hS.2.2 dX3_init_25

def l16 : Nat → UInt64 := vf_upd (vf_upd (vf_upd (vf_upd (fun _ => 0) (0 : Int32).toNatClampNeg 4625196817309499392) (1 : Int32).toNatClampNeg 4625196817309499392) (2 : Int32).toNatClampNeg 4625196817309499392) (3 : Int32).toNatClampNeg 4625196817309499392
set_option maxHeartbeats 4000000 in
set_option maxRecDepth 100000 in
theorem c_X5_init {l : Launch} {D : va_G} {cy : Nat → ClassId} {q : Nat} {sd : Int32} : kC l yX5_init (.code yX5_init cX5_init 2 none) (rmK 1 16 8697 20) D cy [.ref q, .int sd] [(q, .inr (5, [.int 0, .long 0, .int 0, .null, .null, .null, .null, .null, .null, .null, .null, .null, .null, .null, .null, .null, .int 0, .int 0, .int 0, .int 0, .null, .int 0, .null, .null]))] (fun ws => ∃ a : Nat → Nat, ws = [(q, .inr (5, [.int 0, .long sd.toInt64, .int 0, .ref (a 54), .ref (a 55), .ref (a 56), .ref (a 57), .ref (a 58), .ref (a 59), .ref (a 60), .ref (a 61), .ref (a 62), .ref (a 63), .ref (a 64), .ref (a 65), .ref (a 66), .int 10, .int 1, .int 0, .int 0, .ref (a 67), .int 0, .ref (a 68), .ref (a 69)])), (a 54, eD cy 256 (fun _ => 0)), (a 55, eI cy 32 (fun _ => 0)), (a 56, eD cy 32 (fun _ => 0)), (a 57, eD cy 32 (fun _ => 0)), (a 58, eD cy 32 (fun _ => 0)), (a 59, eZ cy 32 (fun _ => 0)), (a 60, eZ cy 32 (fun _ => 0)), (a 61, eD cy 9 (fun _ => 0)), (a 62, eD cy 3 (fun _ => 0)), (a 63, eZ cy 3 (fun _ => 0)), (a 64, eD cy 3 (fun _ => 0)), (a 65, eD cy 3 (fun _ => 0)), (a 66, eD cy 4 l16), (a 67, eZ cy 8192 (fun _ => 0)), (a 68, eI cy 16 (fun _ => 0)), (a 69, eD cy 16 (fun _ => 0))]) := by
  refine start_C (by decide +kernel) (Nat.le_of_ble_eq_true rfl) ?_
  intro p e s m below meth c A am hx hb hr hin hlk hA hP hD hS0 ls hl
  have hown := am.2.2.2.1
  have hK := am.2.2.2.2.2.1
  generalize hH0 : s.heap = H at hP ⊢
  have hS : va_S A s.heap H [] := by rw [← hH0]; exact va_S.rf
  have hl : lv_has ls 2 [(0, .ref q), (1, .int sd)] := hl
  refine lv_aload_n hx hb dX5_init_0 rfl (lv_at hl 0 rfl) ?_
  refine W.objInit hx hb hown (am.2.2.2.2.1 _ ol_RX5) (am.2.2.2.2.1 _ oi_1) (am.2.2.2.2.1 _ oi_2) rfl (by rw [am.2.2.1]; exact hl.1) rfl dX5_init_1 (Nat.le_of_ble_eq_true rfl) (Nat.le_of_ble_eq_true rfl) ?_
  refine W.eq (g2 := F0 m 4 ls []) rfl ?_
  refine lv_aload_n hx hb dX5_init_4 rfl (lv_at hl 0 rfl) ?_
  refine lv_sipush (v := 256) hx hb dX5_init_5 (by decide) ?_
  refine va_newa hx hb (atype := .double) (am.2.2.2.2.1 _ ac_double) (ty := .double) rfl hK hP hD hS hA (n := 256) (N' := 256) (a0 := (256, .inr (.inr (.inr (.inl (fun _ => 0)))))) (fun cA => rfl) (by decide) rfl (Nat.le_of_ble_eq_true rfl) (Nat.le_of_ble_eq_true rfl) (Nat.le_of_ble_eq_true rfl) dX5_init_8 (fun a1 cA H hK2 hP hD hS => ?_)
  obtain rfl : cA = cy 0 := cyEq hK2 (k := 0) rfl
  have hP : va_P D vwCl [(q, .inr (5, [.int 0, .long 0, .int 0, .null, .null, .null, .null, .null, .null, .null, .null, .null, .null, .null, .null, .null, .int 0, .int 0, .int 0, .int 0, .null, .int 0, .null, .null])), (a1, eD cy 256 (fun _ => 0))] H := hP
  have hD : va_D A [(q, .inr (5, [.int 0, .long 0, .int 0, .null, .null, .null, .null, .null, .null, .null, .null, .null, .null, .null, .null, .null, .int 0, .int 0, .int 0, .int 0, .null, .int 0, .null, .null])), (a1, eD cy 256 (fun _ => 0))] := hD
  refine va_putF (ref := (TX5 3).1) hx hb am.2.2.2.2.1 inT5 tyX5 tyX5_ok nmX5 hown hK hP hD hS 0 rfl rfl 3 (by decide) (am.2.2.2.2.1 _ fRX5_7) (fun _ h => h) rfl hin rfl (tyX5_ok 3 (by decide)) rfl rfl (Nat.le_of_ble_eq_true rfl) dX5_init_10 (fun H locs hP hD hS => ?_)
  have hP : va_P D vwCl [(q, .inr (5, [.int 0, .long 0, .int 0, .ref a1, .null, .null, .null, .null, .null, .null, .null, .null, .null, .null, .null, .null, .int 0, .int 0, .int 0, .int 0, .null, .int 0, .null, .null])), (a1, eD cy 256 (fun _ => 0))] H := hP
  have hD : va_D A [(q, .inr (5, [.int 0, .long 0, .int 0, .ref a1, .null, .null, .null, .null, .null, .null, .null, .null, .null, .null, .null, .null, .int 0, .int 0, .int 0, .int 0, .null, .int 0, .null, .null])), (a1, eD cy 256 (fun _ => 0))] := hD
  refine lv_aload_n hx hb dX5_init_13 rfl (lv_at hl 0 rfl) ?_
  refine lv_bipush (v := 32) hx hb dX5_init_14 (by decide) ?_
  refine va_newa hx hb (atype := .int) (am.2.2.2.2.1 _ ac_int) (ty := .int) rfl hK hP hD hS hA (n := 32) (N' := 32) (a0 := (32, .inl (fun _ => 0))) (fun cA => rfl) (by decide) rfl (Nat.le_of_ble_eq_true rfl) (Nat.le_of_ble_eq_true rfl) (Nat.le_of_ble_eq_true rfl) dX5_init_16 (fun a2 cA H hK2 hP hD hS => ?_)
  obtain rfl : cA = cy 1 := cyEq hK2 (k := 1) rfl
  have hP : va_P D vwCl [(q, .inr (5, [.int 0, .long 0, .int 0, .ref a1, .null, .null, .null, .null, .null, .null, .null, .null, .null, .null, .null, .null, .int 0, .int 0, .int 0, .int 0, .null, .int 0, .null, .null])), (a1, eD cy 256 (fun _ => 0)), (a2, eI cy 32 (fun _ => 0))] H := hP
  have hD : va_D A [(q, .inr (5, [.int 0, .long 0, .int 0, .ref a1, .null, .null, .null, .null, .null, .null, .null, .null, .null, .null, .null, .null, .int 0, .int 0, .int 0, .int 0, .null, .int 0, .null, .null])), (a1, eD cy 256 (fun _ => 0)), (a2, eI cy 32 (fun _ => 0))] := hD
  refine va_putF (ref := (TX5 4).1) hx hb am.2.2.2.2.1 inT5 tyX5 tyX5_ok nmX5 hown hK hP hD hS 0 rfl rfl 4 (by decide) (am.2.2.2.2.1 _ fRX5_13) (fun _ h => h) rfl hin rfl (tyX5_ok 4 (by decide)) rfl rfl (Nat.le_of_ble_eq_true rfl) dX5_init_18 (fun H locs hP hD hS => ?_)
  have hP : va_P D vwCl [(q, .inr (5, [.int 0, .long 0, .int 0, .ref a1, .ref a2, .null, .null, .null, .null, .null, .null, .null, .null, .null, .null, .null, .int 0, .int 0, .int 0, .int 0, .null, .int 0, .null, .null])), (a1, eD cy 256 (fun _ => 0)), (a2, eI cy 32 (fun _ => 0))] H := hP
  have hD : va_D A [(q, .inr (5, [.int 0, .long 0, .int 0, .ref a1, .ref a2, .null, .null, .null, .null, .null, .null, .null, .null, .null, .null, .null, .int 0, .int 0, .int 0, .int 0, .null, .int 0, .null, .null])), (a1, eD cy 256 (fun _ => 0)), (a2, eI cy 32 (fun _ => 0))] := hD
  refine lv_aload_n hx hb dX5_init_21 rfl (lv_at hl 0 rfl) ?_
  refine lv_bipush (v := 32) hx hb dX5_init_22 (by decide) ?_
  refine va_newa hx hb (atype := .double) (am.2.2.2.2.1 _ ac_double) (ty := .double) rfl hK hP hD hS hA (n := 32) (N' := 32) (a0 := (32, .inr (.inr (.inr (.inl (fun _ => 0)))))) (fun cA => rfl) (by decide) rfl (Nat.le_of_ble_eq_true rfl) (Nat.le_of_ble_eq_true rfl) (Nat.le_of_ble_eq_true rfl) dX5_init_24 (fun a3 cA H hK2 hP hD hS => ?_)
  obtain rfl : cA = cy 0 := cyEq hK2 (k := 0) rfl
  have hP : va_P D vwCl [(q, .inr (5, [.int 0, .long 0, .int 0, .ref a1, .ref a2, .null, .null, .null, .null, .null, .null, .null, .null, .null, .null, .null, .int 0, .int 0, .int 0, .int 0, .null, .int 0, .null, .null])), (a1, eD cy 256 (fun _ => 0)), (a2, eI cy 32 (fun _ => 0)), (a3, eD cy 32 (fun _ => 0))] H := hP
  have hD : va_D A [(q, .inr (5, [.int 0, .long 0, .int 0, .ref a1, .ref a2, .null, .null, .null, .null, .null, .null, .null, .null, .null, .null, .null, .int 0, .int 0, .int 0, .int 0, .null, .int 0, .null, .null])), (a1, eD cy 256 (fun _ => 0)), (a2, eI cy 32 (fun _ => 0)), (a3, eD cy 32 (fun _ => 0))] := hD
  refine va_putF (ref := (TX5 5).1) hx hb am.2.2.2.2.1 inT5 tyX5 tyX5_ok nmX5 hown hK hP hD hS 0 rfl rfl 5 (by decide) (am.2.2.2.2.1 _ fRX5_17) (fun _ h => h) rfl hin rfl (tyX5_ok 5 (by decide)) rfl rfl (Nat.le_of_ble_eq_true rfl) dX5_init_26 (fun H locs hP hD hS => ?_)
  have hP : va_P D vwCl [(q, .inr (5, [.int 0, .long 0, .int 0, .ref a1, .ref a2, .ref a3, .null, .null, .null, .null, .null, .null, .null, .null, .null, .null, .int 0, .int 0, .int 0, .int 0, .null, .int 0, .null, .null])), (a1, eD cy 256 (fun _ => 0)), (a2, eI cy 32 (fun _ => 0)), (a3, eD cy 32 (fun _ => 0))] H := hP
  have hD : va_D A [(q, .inr (5, [.int 0, .long 0, .int 0, .ref a1, .ref a2, .ref a3, .null, .null, .null, .null, .null, .null, .null, .null, .null, .null, .int 0, .int 0, .int 0, .int 0, .null, .int 0, .null, .null])), (a1, eD cy 256 (fun _ => 0)), (a2, eI cy 32 (fun _ => 0)), (a3, eD cy 32 (fun _ => 0))] := hD
  refine lv_aload_n hx hb dX5_init_29 rfl (lv_at hl 0 rfl) ?_
  refine lv_bipush (v := 32) hx hb dX5_init_30 (by decide) ?_
  refine va_newa hx hb (atype := .double) (am.2.2.2.2.1 _ ac_double) (ty := .double) rfl hK hP hD hS hA (n := 32) (N' := 32) (a0 := (32, .inr (.inr (.inr (.inl (fun _ => 0)))))) (fun cA => rfl) (by decide) rfl (Nat.le_of_ble_eq_true rfl) (Nat.le_of_ble_eq_true rfl) (Nat.le_of_ble_eq_true rfl) dX5_init_32 (fun a4 cA H hK2 hP hD hS => ?_)
  obtain rfl : cA = cy 0 := cyEq hK2 (k := 0) rfl
  have hP : va_P D vwCl [(q, .inr (5, [.int 0, .long 0, .int 0, .ref a1, .ref a2, .ref a3, .null, .null, .null, .null, .null, .null, .null, .null, .null, .null, .int 0, .int 0, .int 0, .int 0, .null, .int 0, .null, .null])), (a1, eD cy 256 (fun _ => 0)), (a2, eI cy 32 (fun _ => 0)), (a3, eD cy 32 (fun _ => 0)), (a4, eD cy 32 (fun _ => 0))] H := hP
  have hD : va_D A [(q, .inr (5, [.int 0, .long 0, .int 0, .ref a1, .ref a2, .ref a3, .null, .null, .null, .null, .null, .null, .null, .null, .null, .null, .int 0, .int 0, .int 0, .int 0, .null, .int 0, .null, .null])), (a1, eD cy 256 (fun _ => 0)), (a2, eI cy 32 (fun _ => 0)), (a3, eD cy 32 (fun _ => 0)), (a4, eD cy 32 (fun _ => 0))] := hD
  refine va_putF (ref := (TX5 6).1) hx hb am.2.2.2.2.1 inT5 tyX5 tyX5_ok nmX5 hown hK hP hD hS 0 rfl rfl 6 (by decide) (am.2.2.2.2.1 _ fRX5_20) (fun _ h => h) rfl hin rfl (tyX5_ok 6 (by decide)) rfl rfl (Nat.le_of_ble_eq_true rfl) dX5_init_34 (fun H locs hP hD hS => ?_)
  have hP : va_P D vwCl [(q, .inr (5, [.int 0, .long 0, .int 0, .ref a1, .ref a2, .ref a3, .ref a4, .null, .null, .null, .null, .null, .null, .null, .null, .null, .int 0, .int 0, .int 0, .int 0, .null, .int 0, .null, .null])), (a1, eD cy 256 (fun _ => 0)), (a2, eI cy 32 (fun _ => 0)), (a3, eD cy 32 (fun _ => 0)), (a4, eD cy 32 (fun _ => 0))] H := hP
  have hD : va_D A [(q, .inr (5, [.int 0, .long 0, .int 0, .ref a1, .ref a2, .ref a3, .ref a4, .null, .null, .null, .null, .null, .null, .null, .null, .null, .int 0, .int 0, .int 0, .int 0, .null, .int 0, .null, .null])), (a1, eD cy 256 (fun _ => 0)), (a2, eI cy 32 (fun _ => 0)), (a3, eD cy 32 (fun _ => 0)), (a4, eD cy 32 (fun _ => 0))] := hD
  refine lv_aload_n hx hb dX5_init_37 rfl (lv_at hl 0 rfl) ?_
  refine lv_bipush (v := 32) hx hb dX5_init_38 (by decide) ?_
  refine va_newa hx hb (atype := .double) (am.2.2.2.2.1 _ ac_double) (ty := .double) rfl hK hP hD hS hA (n := 32) (N' := 32) (a0 := (32, .inr (.inr (.inr (.inl (fun _ => 0)))))) (fun cA => rfl) (by decide) rfl (Nat.le_of_ble_eq_true rfl) (Nat.le_of_ble_eq_true rfl) (Nat.le_of_ble_eq_true rfl) dX5_init_40 (fun a5 cA H hK2 hP hD hS => ?_)
  obtain rfl : cA = cy 0 := cyEq hK2 (k := 0) rfl
  have hP : va_P D vwCl [(q, .inr (5, [.int 0, .long 0, .int 0, .ref a1, .ref a2, .ref a3, .ref a4, .null, .null, .null, .null, .null, .null, .null, .null, .null, .int 0, .int 0, .int 0, .int 0, .null, .int 0, .null, .null])), (a1, eD cy 256 (fun _ => 0)), (a2, eI cy 32 (fun _ => 0)), (a3, eD cy 32 (fun _ => 0)), (a4, eD cy 32 (fun _ => 0)), (a5, eD cy 32 (fun _ => 0))] H := hP
  have hD : va_D A [(q, .inr (5, [.int 0, .long 0, .int 0, .ref a1, .ref a2, .ref a3, .ref a4, .null, .null, .null, .null, .null, .null, .null, .null, .null, .int 0, .int 0, .int 0, .int 0, .null, .int 0, .null, .null])), (a1, eD cy 256 (fun _ => 0)), (a2, eI cy 32 (fun _ => 0)), (a3, eD cy 32 (fun _ => 0)), (a4, eD cy 32 (fun _ => 0)), (a5, eD cy 32 (fun _ => 0))] := hD
  refine va_putF (ref := (TX5 7).1) hx hb am.2.2.2.2.1 inT5 tyX5 tyX5_ok nmX5 hown hK hP hD hS 0 rfl rfl 7 (by decide) (am.2.2.2.2.1 _ fRX5_23) (fun _ h => h) rfl hin rfl (tyX5_ok 7 (by decide)) rfl rfl (Nat.le_of_ble_eq_true rfl) dX5_init_42 (fun H locs hP hD hS => ?_)
  have hP : va_P D vwCl [(q, .inr (5, [.int 0, .long 0, .int 0, .ref a1, .ref a2, .ref a3, .ref a4, .ref a5, .null, .null, .null, .null, .null, .null, .null, .null, .int 0, .int 0, .int 0, .int 0, .null, .int 0, .null, .null])), (a1, eD cy 256 (fun _ => 0)), (a2, eI cy 32 (fun _ => 0)), (a3, eD cy 32 (fun _ => 0)), (a4, eD cy 32 (fun _ => 0)), (a5, eD cy 32 (fun _ => 0))] H := hP
  have hD : va_D A [(q, .inr (5, [.int 0, .long 0, .int 0, .ref a1, .ref a2, .ref a3, .ref a4, .ref a5, .null, .null, .null, .null, .null, .null, .null, .null, .int 0, .int 0, .int 0, .int 0, .null, .int 0, .null, .null])), (a1, eD cy 256 (fun _ => 0)), (a2, eI cy 32 (fun _ => 0)), (a3, eD cy 32 (fun _ => 0)), (a4, eD cy 32 (fun _ => 0)), (a5, eD cy 32 (fun _ => 0))] := hD
  refine lv_aload_n hx hb dX5_init_45 rfl (lv_at hl 0 rfl) ?_
  refine lv_bipush (v := 32) hx hb dX5_init_46 (by decide) ?_
  refine va_newa hx hb (atype := .boolean) (am.2.2.2.2.1 _ ac_boolean) (ty := .boolean) rfl hK hP hD hS hA (n := 32) (N' := 32) (a0 := (32, .inl (fun _ => 0))) (fun cA => rfl) (by decide) rfl (Nat.le_of_ble_eq_true rfl) (Nat.le_of_ble_eq_true rfl) (Nat.le_of_ble_eq_true rfl) dX5_init_48 (fun a6 cA H hK2 hP hD hS => ?_)
  obtain rfl : cA = cy 2 := cyEq hK2 (k := 2) rfl
  have hP : va_P D vwCl [(q, .inr (5, [.int 0, .long 0, .int 0, .ref a1, .ref a2, .ref a3, .ref a4, .ref a5, .null, .null, .null, .null, .null, .null, .null, .null, .int 0, .int 0, .int 0, .int 0, .null, .int 0, .null, .null])), (a1, eD cy 256 (fun _ => 0)), (a2, eI cy 32 (fun _ => 0)), (a3, eD cy 32 (fun _ => 0)), (a4, eD cy 32 (fun _ => 0)), (a5, eD cy 32 (fun _ => 0)), (a6, eZ cy 32 (fun _ => 0))] H := hP
  have hD : va_D A [(q, .inr (5, [.int 0, .long 0, .int 0, .ref a1, .ref a2, .ref a3, .ref a4, .ref a5, .null, .null, .null, .null, .null, .null, .null, .null, .int 0, .int 0, .int 0, .int 0, .null, .int 0, .null, .null])), (a1, eD cy 256 (fun _ => 0)), (a2, eI cy 32 (fun _ => 0)), (a3, eD cy 32 (fun _ => 0)), (a4, eD cy 32 (fun _ => 0)), (a5, eD cy 32 (fun _ => 0)), (a6, eZ cy 32 (fun _ => 0))] := hD
  refine va_putF (ref := (TX5 8).1) hx hb am.2.2.2.2.1 inT5 tyX5 tyX5_ok nmX5 hown hK hP hD hS 0 rfl rfl 8 (by decide) (am.2.2.2.2.1 _ fRX5_26) (fun _ h => h) rfl hin rfl (tyX5_ok 8 (by decide)) rfl rfl (Nat.le_of_ble_eq_true rfl) dX5_init_50 (fun H locs hP hD hS => ?_)
  have hP : va_P D vwCl [(q, .inr (5, [.int 0, .long 0, .int 0, .ref a1, .ref a2, .ref a3, .ref a4, .ref a5, .ref a6, .null, .null, .null, .null, .null, .null, .null, .int 0, .int 0, .int 0, .int 0, .null, .int 0, .null, .null])), (a1, eD cy 256 (fun _ => 0)), (a2, eI cy 32 (fun _ => 0)), (a3, eD cy 32 (fun _ => 0)), (a4, eD cy 32 (fun _ => 0)), (a5, eD cy 32 (fun _ => 0)), (a6, eZ cy 32 (fun _ => 0))] H := hP
  have hD : va_D A [(q, .inr (5, [.int 0, .long 0, .int 0, .ref a1, .ref a2, .ref a3, .ref a4, .ref a5, .ref a6, .null, .null, .null, .null, .null, .null, .null, .int 0, .int 0, .int 0, .int 0, .null, .int 0, .null, .null])), (a1, eD cy 256 (fun _ => 0)), (a2, eI cy 32 (fun _ => 0)), (a3, eD cy 32 (fun _ => 0)), (a4, eD cy 32 (fun _ => 0)), (a5, eD cy 32 (fun _ => 0)), (a6, eZ cy 32 (fun _ => 0))] := hD
  refine lv_aload_n hx hb dX5_init_53 rfl (lv_at hl 0 rfl) ?_
  refine lv_bipush (v := 32) hx hb dX5_init_54 (by decide) ?_
  refine va_newa hx hb (atype := .boolean) (am.2.2.2.2.1 _ ac_boolean) (ty := .boolean) rfl hK hP hD hS hA (n := 32) (N' := 32) (a0 := (32, .inl (fun _ => 0))) (fun cA => rfl) (by decide) rfl (Nat.le_of_ble_eq_true rfl) (Nat.le_of_ble_eq_true rfl) (Nat.le_of_ble_eq_true rfl) dX5_init_56 (fun a7 cA H hK2 hP hD hS => ?_)
  obtain rfl : cA = cy 2 := cyEq hK2 (k := 2) rfl
  have hP : va_P D vwCl [(q, .inr (5, [.int 0, .long 0, .int 0, .ref a1, .ref a2, .ref a3, .ref a4, .ref a5, .ref a6, .null, .null, .null, .null, .null, .null, .null, .int 0, .int 0, .int 0, .int 0, .null, .int 0, .null, .null])), (a1, eD cy 256 (fun _ => 0)), (a2, eI cy 32 (fun _ => 0)), (a3, eD cy 32 (fun _ => 0)), (a4, eD cy 32 (fun _ => 0)), (a5, eD cy 32 (fun _ => 0)), (a6, eZ cy 32 (fun _ => 0)), (a7, eZ cy 32 (fun _ => 0))] H := hP
  have hD : va_D A [(q, .inr (5, [.int 0, .long 0, .int 0, .ref a1, .ref a2, .ref a3, .ref a4, .ref a5, .ref a6, .null, .null, .null, .null, .null, .null, .null, .int 0, .int 0, .int 0, .int 0, .null, .int 0, .null, .null])), (a1, eD cy 256 (fun _ => 0)), (a2, eI cy 32 (fun _ => 0)), (a3, eD cy 32 (fun _ => 0)), (a4, eD cy 32 (fun _ => 0)), (a5, eD cy 32 (fun _ => 0)), (a6, eZ cy 32 (fun _ => 0)), (a7, eZ cy 32 (fun _ => 0))] := hD
  refine va_putF (ref := (TX5 9).1) hx hb am.2.2.2.2.1 inT5 tyX5 tyX5_ok nmX5 hown hK hP hD hS 0 rfl rfl 9 (by decide) (am.2.2.2.2.1 _ fRX5_30) (fun _ h => h) rfl hin rfl (tyX5_ok 9 (by decide)) rfl rfl (Nat.le_of_ble_eq_true rfl) dX5_init_58 (fun H locs hP hD hS => ?_)
  have hP : va_P D vwCl [(q, .inr (5, [.int 0, .long 0, .int 0, .ref a1, .ref a2, .ref a3, .ref a4, .ref a5, .ref a6, .ref a7, .null, .null, .null, .null, .null, .null, .int 0, .int 0, .int 0, .int 0, .null, .int 0, .null, .null])), (a1, eD cy 256 (fun _ => 0)), (a2, eI cy 32 (fun _ => 0)), (a3, eD cy 32 (fun _ => 0)), (a4, eD cy 32 (fun _ => 0)), (a5, eD cy 32 (fun _ => 0)), (a6, eZ cy 32 (fun _ => 0)), (a7, eZ cy 32 (fun _ => 0))] H := hP
  have hD : va_D A [(q, .inr (5, [.int 0, .long 0, .int 0, .ref a1, .ref a2, .ref a3, .ref a4, .ref a5, .ref a6, .ref a7, .null, .null, .null, .null, .null, .null, .int 0, .int 0, .int 0, .int 0, .null, .int 0, .null, .null])), (a1, eD cy 256 (fun _ => 0)), (a2, eI cy 32 (fun _ => 0)), (a3, eD cy 32 (fun _ => 0)), (a4, eD cy 32 (fun _ => 0)), (a5, eD cy 32 (fun _ => 0)), (a6, eZ cy 32 (fun _ => 0)), (a7, eZ cy 32 (fun _ => 0))] := hD
  refine lv_aload_n hx hb dX5_init_61 rfl (lv_at hl 0 rfl) ?_
  refine lv_bipush (v := 9) hx hb dX5_init_62 (by decide) ?_
  refine va_newa hx hb (atype := .double) (am.2.2.2.2.1 _ ac_double) (ty := .double) rfl hK hP hD hS hA (n := 9) (N' := 9) (a0 := (9, .inr (.inr (.inr (.inl (fun _ => 0)))))) (fun cA => rfl) (by decide) rfl (Nat.le_of_ble_eq_true rfl) (Nat.le_of_ble_eq_true rfl) (Nat.le_of_ble_eq_true rfl) dX5_init_64 (fun a8 cA H hK2 hP hD hS => ?_)
  obtain rfl : cA = cy 0 := cyEq hK2 (k := 0) rfl
  have hP : va_P D vwCl [(q, .inr (5, [.int 0, .long 0, .int 0, .ref a1, .ref a2, .ref a3, .ref a4, .ref a5, .ref a6, .ref a7, .null, .null, .null, .null, .null, .null, .int 0, .int 0, .int 0, .int 0, .null, .int 0, .null, .null])), (a1, eD cy 256 (fun _ => 0)), (a2, eI cy 32 (fun _ => 0)), (a3, eD cy 32 (fun _ => 0)), (a4, eD cy 32 (fun _ => 0)), (a5, eD cy 32 (fun _ => 0)), (a6, eZ cy 32 (fun _ => 0)), (a7, eZ cy 32 (fun _ => 0)), (a8, eD cy 9 (fun _ => 0))] H := hP
  have hD : va_D A [(q, .inr (5, [.int 0, .long 0, .int 0, .ref a1, .ref a2, .ref a3, .ref a4, .ref a5, .ref a6, .ref a7, .null, .null, .null, .null, .null, .null, .int 0, .int 0, .int 0, .int 0, .null, .int 0, .null, .null])), (a1, eD cy 256 (fun _ => 0)), (a2, eI cy 32 (fun _ => 0)), (a3, eD cy 32 (fun _ => 0)), (a4, eD cy 32 (fun _ => 0)), (a5, eD cy 32 (fun _ => 0)), (a6, eZ cy 32 (fun _ => 0)), (a7, eZ cy 32 (fun _ => 0)), (a8, eD cy 9 (fun _ => 0))] := hD
  refine va_putF (ref := (TX5 10).1) hx hb am.2.2.2.2.1 inT5 tyX5 tyX5_ok nmX5 hown hK hP hD hS 0 rfl rfl 10 (by decide) (am.2.2.2.2.1 _ fRX5_33) (fun _ h => h) rfl hin rfl (tyX5_ok 10 (by decide)) rfl rfl (Nat.le_of_ble_eq_true rfl) dX5_init_66 (fun H locs hP hD hS => ?_)
  have hP : va_P D vwCl [(q, .inr (5, [.int 0, .long 0, .int 0, .ref a1, .ref a2, .ref a3, .ref a4, .ref a5, .ref a6, .ref a7, .ref a8, .null, .null, .null, .null, .null, .int 0, .int 0, .int 0, .int 0, .null, .int 0, .null, .null])), (a1, eD cy 256 (fun _ => 0)), (a2, eI cy 32 (fun _ => 0)), (a3, eD cy 32 (fun _ => 0)), (a4, eD cy 32 (fun _ => 0)), (a5, eD cy 32 (fun _ => 0)), (a6, eZ cy 32 (fun _ => 0)), (a7, eZ cy 32 (fun _ => 0)), (a8, eD cy 9 (fun _ => 0))] H := hP
  have hD : va_D A [(q, .inr (5, [.int 0, .long 0, .int 0, .ref a1, .ref a2, .ref a3, .ref a4, .ref a5, .ref a6, .ref a7, .ref a8, .null, .null, .null, .null, .null, .int 0, .int 0, .int 0, .int 0, .null, .int 0, .null, .null])), (a1, eD cy 256 (fun _ => 0)), (a2, eI cy 32 (fun _ => 0)), (a3, eD cy 32 (fun _ => 0)), (a4, eD cy 32 (fun _ => 0)), (a5, eD cy 32 (fun _ => 0)), (a6, eZ cy 32 (fun _ => 0)), (a7, eZ cy 32 (fun _ => 0)), (a8, eD cy 9 (fun _ => 0))] := hD
  refine lv_aload_n hx hb dX5_init_69 rfl (lv_at hl 0 rfl) ?_
  refine lv_iconst (v := 3) hx hb dX5_init_70 (by decide) ?_
  refine va_newa hx hb (atype := .double) (am.2.2.2.2.1 _ ac_double) (ty := .double) rfl hK hP hD hS hA (n := 3) (N' := 3) (a0 := (3, .inr (.inr (.inr (.inl (fun _ => 0)))))) (fun cA => rfl) (by decide) rfl (Nat.le_of_ble_eq_true rfl) (Nat.le_of_ble_eq_true rfl) (Nat.le_of_ble_eq_true rfl) dX5_init_71 (fun a9 cA H hK2 hP hD hS => ?_)
  obtain rfl : cA = cy 0 := cyEq hK2 (k := 0) rfl
  have hP : va_P D vwCl [(q, .inr (5, [.int 0, .long 0, .int 0, .ref a1, .ref a2, .ref a3, .ref a4, .ref a5, .ref a6, .ref a7, .ref a8, .null, .null, .null, .null, .null, .int 0, .int 0, .int 0, .int 0, .null, .int 0, .null, .null])), (a1, eD cy 256 (fun _ => 0)), (a2, eI cy 32 (fun _ => 0)), (a3, eD cy 32 (fun _ => 0)), (a4, eD cy 32 (fun _ => 0)), (a5, eD cy 32 (fun _ => 0)), (a6, eZ cy 32 (fun _ => 0)), (a7, eZ cy 32 (fun _ => 0)), (a8, eD cy 9 (fun _ => 0)), (a9, eD cy 3 (fun _ => 0))] H := hP
  have hD : va_D A [(q, .inr (5, [.int 0, .long 0, .int 0, .ref a1, .ref a2, .ref a3, .ref a4, .ref a5, .ref a6, .ref a7, .ref a8, .null, .null, .null, .null, .null, .int 0, .int 0, .int 0, .int 0, .null, .int 0, .null, .null])), (a1, eD cy 256 (fun _ => 0)), (a2, eI cy 32 (fun _ => 0)), (a3, eD cy 32 (fun _ => 0)), (a4, eD cy 32 (fun _ => 0)), (a5, eD cy 32 (fun _ => 0)), (a6, eZ cy 32 (fun _ => 0)), (a7, eZ cy 32 (fun _ => 0)), (a8, eD cy 9 (fun _ => 0)), (a9, eD cy 3 (fun _ => 0))] := hD
  refine va_putF (ref := (TX5 11).1) hx hb am.2.2.2.2.1 inT5 tyX5 tyX5_ok nmX5 hown hK hP hD hS 0 rfl rfl 11 (by decide) (am.2.2.2.2.1 _ fRX5_36) (fun _ h => h) rfl hin rfl (tyX5_ok 11 (by decide)) rfl rfl (Nat.le_of_ble_eq_true rfl) dX5_init_73 (fun H locs hP hD hS => ?_)
  have hP : va_P D vwCl [(q, .inr (5, [.int 0, .long 0, .int 0, .ref a1, .ref a2, .ref a3, .ref a4, .ref a5, .ref a6, .ref a7, .ref a8, .ref a9, .null, .null, .null, .null, .int 0, .int 0, .int 0, .int 0, .null, .int 0, .null, .null])), (a1, eD cy 256 (fun _ => 0)), (a2, eI cy 32 (fun _ => 0)), (a3, eD cy 32 (fun _ => 0)), (a4, eD cy 32 (fun _ => 0)), (a5, eD cy 32 (fun _ => 0)), (a6, eZ cy 32 (fun _ => 0)), (a7, eZ cy 32 (fun _ => 0)), (a8, eD cy 9 (fun _ => 0)), (a9, eD cy 3 (fun _ => 0))] H := hP
  have hD : va_D A [(q, .inr (5, [.int 0, .long 0, .int 0, .ref a1, .ref a2, .ref a3, .ref a4, .ref a5, .ref a6, .ref a7, .ref a8, .ref a9, .null, .null, .null, .null, .int 0, .int 0, .int 0, .int 0, .null, .int 0, .null, .null])), (a1, eD cy 256 (fun _ => 0)), (a2, eI cy 32 (fun _ => 0)), (a3, eD cy 32 (fun _ => 0)), (a4, eD cy 32 (fun _ => 0)), (a5, eD cy 32 (fun _ => 0)), (a6, eZ cy 32 (fun _ => 0)), (a7, eZ cy 32 (fun _ => 0)), (a8, eD cy 9 (fun _ => 0)), (a9, eD cy 3 (fun _ => 0))] := hD
  refine lv_aload_n hx hb dX5_init_76 rfl (lv_at hl 0 rfl) ?_
  refine lv_iconst (v := 3) hx hb dX5_init_77 (by decide) ?_
  refine va_newa hx hb (atype := .boolean) (am.2.2.2.2.1 _ ac_boolean) (ty := .boolean) rfl hK hP hD hS hA (n := 3) (N' := 3) (a0 := (3, .inl (fun _ => 0))) (fun cA => rfl) (by decide) rfl (Nat.le_of_ble_eq_true rfl) (Nat.le_of_ble_eq_true rfl) (Nat.le_of_ble_eq_true rfl) dX5_init_78 (fun a10 cA H hK2 hP hD hS => ?_)
  obtain rfl : cA = cy 2 := cyEq hK2 (k := 2) rfl
  have hP : va_P D vwCl [(q, .inr (5, [.int 0, .long 0, .int 0, .ref a1, .ref a2, .ref a3, .ref a4, .ref a5, .ref a6, .ref a7, .ref a8, .ref a9, .null, .null, .null, .null, .int 0, .int 0, .int 0, .int 0, .null, .int 0, .null, .null])), (a1, eD cy 256 (fun _ => 0)), (a2, eI cy 32 (fun _ => 0)), (a3, eD cy 32 (fun _ => 0)), (a4, eD cy 32 (fun _ => 0)), (a5, eD cy 32 (fun _ => 0)), (a6, eZ cy 32 (fun _ => 0)), (a7, eZ cy 32 (fun _ => 0)), (a8, eD cy 9 (fun _ => 0)), (a9, eD cy 3 (fun _ => 0)), (a10, eZ cy 3 (fun _ => 0))] H := hP
  have hD : va_D A [(q, .inr (5, [.int 0, .long 0, .int 0, .ref a1, .ref a2, .ref a3, .ref a4, .ref a5, .ref a6, .ref a7, .ref a8, .ref a9, .null, .null, .null, .null, .int 0, .int 0, .int 0, .int 0, .null, .int 0, .null, .null])), (a1, eD cy 256 (fun _ => 0)), (a2, eI cy 32 (fun _ => 0)), (a3, eD cy 32 (fun _ => 0)), (a4, eD cy 32 (fun _ => 0)), (a5, eD cy 32 (fun _ => 0)), (a6, eZ cy 32 (fun _ => 0)), (a7, eZ cy 32 (fun _ => 0)), (a8, eD cy 9 (fun _ => 0)), (a9, eD cy 3 (fun _ => 0)), (a10, eZ cy 3 (fun _ => 0))] := hD
  refine va_putF (ref := (TX5 12).1) hx hb am.2.2.2.2.1 inT5 tyX5 tyX5_ok nmX5 hown hK hP hD hS 0 rfl rfl 12 (by decide) (am.2.2.2.2.1 _ fRX5_39) (fun _ h => h) rfl hin rfl (tyX5_ok 12 (by decide)) rfl rfl (Nat.le_of_ble_eq_true rfl) dX5_init_80 (fun H locs hP hD hS => ?_)
  have hP : va_P D vwCl [(q, .inr (5, [.int 0, .long 0, .int 0, .ref a1, .ref a2, .ref a3, .ref a4, .ref a5, .ref a6, .ref a7, .ref a8, .ref a9, .ref a10, .null, .null, .null, .int 0, .int 0, .int 0, .int 0, .null, .int 0, .null, .null])), (a1, eD cy 256 (fun _ => 0)), (a2, eI cy 32 (fun _ => 0)), (a3, eD cy 32 (fun _ => 0)), (a4, eD cy 32 (fun _ => 0)), (a5, eD cy 32 (fun _ => 0)), (a6, eZ cy 32 (fun _ => 0)), (a7, eZ cy 32 (fun _ => 0)), (a8, eD cy 9 (fun _ => 0)), (a9, eD cy 3 (fun _ => 0)), (a10, eZ cy 3 (fun _ => 0))] H := hP
  have hD : va_D A [(q, .inr (5, [.int 0, .long 0, .int 0, .ref a1, .ref a2, .ref a3, .ref a4, .ref a5, .ref a6, .ref a7, .ref a8, .ref a9, .ref a10, .null, .null, .null, .int 0, .int 0, .int 0, .int 0, .null, .int 0, .null, .null])), (a1, eD cy 256 (fun _ => 0)), (a2, eI cy 32 (fun _ => 0)), (a3, eD cy 32 (fun _ => 0)), (a4, eD cy 32 (fun _ => 0)), (a5, eD cy 32 (fun _ => 0)), (a6, eZ cy 32 (fun _ => 0)), (a7, eZ cy 32 (fun _ => 0)), (a8, eD cy 9 (fun _ => 0)), (a9, eD cy 3 (fun _ => 0)), (a10, eZ cy 3 (fun _ => 0))] := hD
  refine lv_aload_n hx hb dX5_init_83 rfl (lv_at hl 0 rfl) ?_
  refine lv_iconst (v := 3) hx hb dX5_init_84 (by decide) ?_
  refine va_newa hx hb (atype := .double) (am.2.2.2.2.1 _ ac_double) (ty := .double) rfl hK hP hD hS hA (n := 3) (N' := 3) (a0 := (3, .inr (.inr (.inr (.inl (fun _ => 0)))))) (fun cA => rfl) (by decide) rfl (Nat.le_of_ble_eq_true rfl) (Nat.le_of_ble_eq_true rfl) (Nat.le_of_ble_eq_true rfl) dX5_init_85 (fun a11 cA H hK2 hP hD hS => ?_)
  obtain rfl : cA = cy 0 := cyEq hK2 (k := 0) rfl
  have hP : va_P D vwCl [(q, .inr (5, [.int 0, .long 0, .int 0, .ref a1, .ref a2, .ref a3, .ref a4, .ref a5, .ref a6, .ref a7, .ref a8, .ref a9, .ref a10, .null, .null, .null, .int 0, .int 0, .int 0, .int 0, .null, .int 0, .null, .null])), (a1, eD cy 256 (fun _ => 0)), (a2, eI cy 32 (fun _ => 0)), (a3, eD cy 32 (fun _ => 0)), (a4, eD cy 32 (fun _ => 0)), (a5, eD cy 32 (fun _ => 0)), (a6, eZ cy 32 (fun _ => 0)), (a7, eZ cy 32 (fun _ => 0)), (a8, eD cy 9 (fun _ => 0)), (a9, eD cy 3 (fun _ => 0)), (a10, eZ cy 3 (fun _ => 0)), (a11, eD cy 3 (fun _ => 0))] H := hP
  have hD : va_D A [(q, .inr (5, [.int 0, .long 0, .int 0, .ref a1, .ref a2, .ref a3, .ref a4, .ref a5, .ref a6, .ref a7, .ref a8, .ref a9, .ref a10, .null, .null, .null, .int 0, .int 0, .int 0, .int 0, .null, .int 0, .null, .null])), (a1, eD cy 256 (fun _ => 0)), (a2, eI cy 32 (fun _ => 0)), (a3, eD cy 32 (fun _ => 0)), (a4, eD cy 32 (fun _ => 0)), (a5, eD cy 32 (fun _ => 0)), (a6, eZ cy 32 (fun _ => 0)), (a7, eZ cy 32 (fun _ => 0)), (a8, eD cy 9 (fun _ => 0)), (a9, eD cy 3 (fun _ => 0)), (a10, eZ cy 3 (fun _ => 0)), (a11, eD cy 3 (fun _ => 0))] := hD
  refine va_putF (ref := (TX5 13).1) hx hb am.2.2.2.2.1 inT5 tyX5 tyX5_ok nmX5 hown hK hP hD hS 0 rfl rfl 13 (by decide) (am.2.2.2.2.1 _ fRX5_42) (fun _ h => h) rfl hin rfl (tyX5_ok 13 (by decide)) rfl rfl (Nat.le_of_ble_eq_true rfl) dX5_init_87 (fun H locs hP hD hS => ?_)
  have hP : va_P D vwCl [(q, .inr (5, [.int 0, .long 0, .int 0, .ref a1, .ref a2, .ref a3, .ref a4, .ref a5, .ref a6, .ref a7, .ref a8, .ref a9, .ref a10, .ref a11, .null, .null, .int 0, .int 0, .int 0, .int 0, .null, .int 0, .null, .null])), (a1, eD cy 256 (fun _ => 0)), (a2, eI cy 32 (fun _ => 0)), (a3, eD cy 32 (fun _ => 0)), (a4, eD cy 32 (fun _ => 0)), (a5, eD cy 32 (fun _ => 0)), (a6, eZ cy 32 (fun _ => 0)), (a7, eZ cy 32 (fun _ => 0)), (a8, eD cy 9 (fun _ => 0)), (a9, eD cy 3 (fun _ => 0)), (a10, eZ cy 3 (fun _ => 0)), (a11, eD cy 3 (fun _ => 0))] H := hP
  have hD : va_D A [(q, .inr (5, [.int 0, .long 0, .int 0, .ref a1, .ref a2, .ref a3, .ref a4, .ref a5, .ref a6, .ref a7, .ref a8, .ref a9, .ref a10, .ref a11, .null, .null, .int 0, .int 0, .int 0, .int 0, .null, .int 0, .null, .null])), (a1, eD cy 256 (fun _ => 0)), (a2, eI cy 32 (fun _ => 0)), (a3, eD cy 32 (fun _ => 0)), (a4, eD cy 32 (fun _ => 0)), (a5, eD cy 32 (fun _ => 0)), (a6, eZ cy 32 (fun _ => 0)), (a7, eZ cy 32 (fun _ => 0)), (a8, eD cy 9 (fun _ => 0)), (a9, eD cy 3 (fun _ => 0)), (a10, eZ cy 3 (fun _ => 0)), (a11, eD cy 3 (fun _ => 0))] := hD
  refine lv_aload_n hx hb dX5_init_90 rfl (lv_at hl 0 rfl) ?_
  refine lv_iconst (v := 3) hx hb dX5_init_91 (by decide) ?_
  refine va_newa hx hb (atype := .double) (am.2.2.2.2.1 _ ac_double) (ty := .double) rfl hK hP hD hS hA (n := 3) (N' := 3) (a0 := (3, .inr (.inr (.inr (.inl (fun _ => 0)))))) (fun cA => rfl) (by decide) rfl (Nat.le_of_ble_eq_true rfl) (Nat.le_of_ble_eq_true rfl) (Nat.le_of_ble_eq_true rfl) dX5_init_92 (fun a12 cA H hK2 hP hD hS => ?_)
  obtain rfl : cA = cy 0 := cyEq hK2 (k := 0) rfl
  have hP : va_P D vwCl [(q, .inr (5, [.int 0, .long 0, .int 0, .ref a1, .ref a2, .ref a3, .ref a4, .ref a5, .ref a6, .ref a7, .ref a8, .ref a9, .ref a10, .ref a11, .null, .null, .int 0, .int 0, .int 0, .int 0, .null, .int 0, .null, .null])), (a1, eD cy 256 (fun _ => 0)), (a2, eI cy 32 (fun _ => 0)), (a3, eD cy 32 (fun _ => 0)), (a4, eD cy 32 (fun _ => 0)), (a5, eD cy 32 (fun _ => 0)), (a6, eZ cy 32 (fun _ => 0)), (a7, eZ cy 32 (fun _ => 0)), (a8, eD cy 9 (fun _ => 0)), (a9, eD cy 3 (fun _ => 0)), (a10, eZ cy 3 (fun _ => 0)), (a11, eD cy 3 (fun _ => 0)), (a12, eD cy 3 (fun _ => 0))] H := hP
  have hD : va_D A [(q, .inr (5, [.int 0, .long 0, .int 0, .ref a1, .ref a2, .ref a3, .ref a4, .ref a5, .ref a6, .ref a7, .ref a8, .ref a9, .ref a10, .ref a11, .null, .null, .int 0, .int 0, .int 0, .int 0, .null, .int 0, .null, .null])), (a1, eD cy 256 (fun _ => 0)), (a2, eI cy 32 (fun _ => 0)), (a3, eD cy 32 (fun _ => 0)), (a4, eD cy 32 (fun _ => 0)), (a5, eD cy 32 (fun _ => 0)), (a6, eZ cy 32 (fun _ => 0)), (a7, eZ cy 32 (fun _ => 0)), (a8, eD cy 9 (fun _ => 0)), (a9, eD cy 3 (fun _ => 0)), (a10, eZ cy 3 (fun _ => 0)), (a11, eD cy 3 (fun _ => 0)), (a12, eD cy 3 (fun _ => 0))] := hD
  refine va_putF (ref := (TX5 14).1) hx hb am.2.2.2.2.1 inT5 tyX5 tyX5_ok nmX5 hown hK hP hD hS 0 rfl rfl 14 (by decide) (am.2.2.2.2.1 _ fRX5_45) (fun _ h => h) rfl hin rfl (tyX5_ok 14 (by decide)) rfl rfl (Nat.le_of_ble_eq_true rfl) dX5_init_94 (fun H locs hP hD hS => ?_)
  have hP : va_P D vwCl [(q, .inr (5, [.int 0, .long 0, .int 0, .ref a1, .ref a2, .ref a3, .ref a4, .ref a5, .ref a6, .ref a7, .ref a8, .ref a9, .ref a10, .ref a11, .ref a12, .null, .int 0, .int 0, .int 0, .int 0, .null, .int 0, .null, .null])), (a1, eD cy 256 (fun _ => 0)), (a2, eI cy 32 (fun _ => 0)), (a3, eD cy 32 (fun _ => 0)), (a4, eD cy 32 (fun _ => 0)), (a5, eD cy 32 (fun _ => 0)), (a6, eZ cy 32 (fun _ => 0)), (a7, eZ cy 32 (fun _ => 0)), (a8, eD cy 9 (fun _ => 0)), (a9, eD cy 3 (fun _ => 0)), (a10, eZ cy 3 (fun _ => 0)), (a11, eD cy 3 (fun _ => 0)), (a12, eD cy 3 (fun _ => 0))] H := hP
  have hD : va_D A [(q, .inr (5, [.int 0, .long 0, .int 0, .ref a1, .ref a2, .ref a3, .ref a4, .ref a5, .ref a6, .ref a7, .ref a8, .ref a9, .ref a10, .ref a11, .ref a12, .null, .int 0, .int 0, .int 0, .int 0, .null, .int 0, .null, .null])), (a1, eD cy 256 (fun _ => 0)), (a2, eI cy 32 (fun _ => 0)), (a3, eD cy 32 (fun _ => 0)), (a4, eD cy 32 (fun _ => 0)), (a5, eD cy 32 (fun _ => 0)), (a6, eZ cy 32 (fun _ => 0)), (a7, eZ cy 32 (fun _ => 0)), (a8, eD cy 9 (fun _ => 0)), (a9, eD cy 3 (fun _ => 0)), (a10, eZ cy 3 (fun _ => 0)), (a11, eD cy 3 (fun _ => 0)), (a12, eD cy 3 (fun _ => 0))] := hD
  refine lv_aload_n hx hb dX5_init_97 rfl (lv_at hl 0 rfl) ?_
  refine lv_iconst (v := 4) hx hb dX5_init_98 (by decide) ?_
  refine va_newa hx hb (atype := .double) (am.2.2.2.2.1 _ ac_double) (ty := .double) rfl hK hP hD hS hA (n := 4) (N' := 4) (a0 := (4, .inr (.inr (.inr (.inl (fun _ => 0)))))) (fun cA => rfl) (by decide) rfl (Nat.le_of_ble_eq_true rfl) (Nat.le_of_ble_eq_true rfl) (Nat.le_of_ble_eq_true rfl) dX5_init_99 (fun a13 cA H hK2 hP hD hS => ?_)
  obtain rfl : cA = cy 0 := cyEq hK2 (k := 0) rfl
  have hP : va_P D vwCl [(q, .inr (5, [.int 0, .long 0, .int 0, .ref a1, .ref a2, .ref a3, .ref a4, .ref a5, .ref a6, .ref a7, .ref a8, .ref a9, .ref a10, .ref a11, .ref a12, .null, .int 0, .int 0, .int 0, .int 0, .null, .int 0, .null, .null])), (a1, eD cy 256 (fun _ => 0)), (a2, eI cy 32 (fun _ => 0)), (a3, eD cy 32 (fun _ => 0)), (a4, eD cy 32 (fun _ => 0)), (a5, eD cy 32 (fun _ => 0)), (a6, eZ cy 32 (fun _ => 0)), (a7, eZ cy 32 (fun _ => 0)), (a8, eD cy 9 (fun _ => 0)), (a9, eD cy 3 (fun _ => 0)), (a10, eZ cy 3 (fun _ => 0)), (a11, eD cy 3 (fun _ => 0)), (a12, eD cy 3 (fun _ => 0)), (a13, eD cy 4 (fun _ => 0))] H := hP
  have hD : va_D A [(q, .inr (5, [.int 0, .long 0, .int 0, .ref a1, .ref a2, .ref a3, .ref a4, .ref a5, .ref a6, .ref a7, .ref a8, .ref a9, .ref a10, .ref a11, .ref a12, .null, .int 0, .int 0, .int 0, .int 0, .null, .int 0, .null, .null])), (a1, eD cy 256 (fun _ => 0)), (a2, eI cy 32 (fun _ => 0)), (a3, eD cy 32 (fun _ => 0)), (a4, eD cy 32 (fun _ => 0)), (a5, eD cy 32 (fun _ => 0)), (a6, eZ cy 32 (fun _ => 0)), (a7, eZ cy 32 (fun _ => 0)), (a8, eD cy 9 (fun _ => 0)), (a9, eD cy 3 (fun _ => 0)), (a10, eZ cy 3 (fun _ => 0)), (a11, eD cy 3 (fun _ => 0)), (a12, eD cy 3 (fun _ => 0)), (a13, eD cy 4 (fun _ => 0))] := hD
  refine lv_dup hx hb dX5_init_101 rfl ?_
  refine lv_iconst (v := 0) hx hb dX5_init_102 (by decide) ?_
  refine lv_ldc2d hx hb hown (am.2.2.2.2.1 _ wRX5_48) dX5_init_103 ?_
  refine va_dast hx hb hK hP hD hS 13 0 rfl rfl (vinL (by decide)) dX5_init_106 (fun H locs hP hD hS => ?_)
  have hP : va_P D vwCl [(q, .inr (5, [.int 0, .long 0, .int 0, .ref a1, .ref a2, .ref a3, .ref a4, .ref a5, .ref a6, .ref a7, .ref a8, .ref a9, .ref a10, .ref a11, .ref a12, .null, .int 0, .int 0, .int 0, .int 0, .null, .int 0, .null, .null])), (a1, eD cy 256 (fun _ => 0)), (a2, eI cy 32 (fun _ => 0)), (a3, eD cy 32 (fun _ => 0)), (a4, eD cy 32 (fun _ => 0)), (a5, eD cy 32 (fun _ => 0)), (a6, eZ cy 32 (fun _ => 0)), (a7, eZ cy 32 (fun _ => 0)), (a8, eD cy 9 (fun _ => 0)), (a9, eD cy 3 (fun _ => 0)), (a10, eZ cy 3 (fun _ => 0)), (a11, eD cy 3 (fun _ => 0)), (a12, eD cy 3 (fun _ => 0)), (a13, eD cy 4 (vf_upd (fun _ => 0) (0 : Int32).toNatClampNeg 4625196817309499392))] H := hP
  have hD : va_D A [(q, .inr (5, [.int 0, .long 0, .int 0, .ref a1, .ref a2, .ref a3, .ref a4, .ref a5, .ref a6, .ref a7, .ref a8, .ref a9, .ref a10, .ref a11, .ref a12, .null, .int 0, .int 0, .int 0, .int 0, .null, .int 0, .null, .null])), (a1, eD cy 256 (fun _ => 0)), (a2, eI cy 32 (fun _ => 0)), (a3, eD cy 32 (fun _ => 0)), (a4, eD cy 32 (fun _ => 0)), (a5, eD cy 32 (fun _ => 0)), (a6, eZ cy 32 (fun _ => 0)), (a7, eZ cy 32 (fun _ => 0)), (a8, eD cy 9 (fun _ => 0)), (a9, eD cy 3 (fun _ => 0)), (a10, eZ cy 3 (fun _ => 0)), (a11, eD cy 3 (fun _ => 0)), (a12, eD cy 3 (fun _ => 0)), (a13, eD cy 4 (vf_upd (fun _ => 0) (0 : Int32).toNatClampNeg 4625196817309499392))] := hD
  refine lv_dup hx hb dX5_init_107 rfl ?_
  refine lv_iconst (v := 1) hx hb dX5_init_108 (by decide) ?_
  refine lv_ldc2d hx hb hown (am.2.2.2.2.1 _ wRX5_48) dX5_init_109 ?_
  refine va_dast hx hb hK hP hD hS 13 0 rfl rfl (vinL (by decide)) dX5_init_112 (fun H locs hP hD hS => ?_)
  have hP : va_P D vwCl [(q, .inr (5, [.int 0, .long 0, .int 0, .ref a1, .ref a2, .ref a3, .ref a4, .ref a5, .ref a6, .ref a7, .ref a8, .ref a9, .ref a10, .ref a11, .ref a12, .null, .int 0, .int 0, .int 0, .int 0, .null, .int 0, .null, .null])), (a1, eD cy 256 (fun _ => 0)), (a2, eI cy 32 (fun _ => 0)), (a3, eD cy 32 (fun _ => 0)), (a4, eD cy 32 (fun _ => 0)), (a5, eD cy 32 (fun _ => 0)), (a6, eZ cy 32 (fun _ => 0)), (a7, eZ cy 32 (fun _ => 0)), (a8, eD cy 9 (fun _ => 0)), (a9, eD cy 3 (fun _ => 0)), (a10, eZ cy 3 (fun _ => 0)), (a11, eD cy 3 (fun _ => 0)), (a12, eD cy 3 (fun _ => 0)), (a13, eD cy 4 (vf_upd (vf_upd (fun _ => 0) (0 : Int32).toNatClampNeg 4625196817309499392) (1 : Int32).toNatClampNeg 4625196817309499392))] H := hP
  have hD : va_D A [(q, .inr (5, [.int 0, .long 0, .int 0, .ref a1, .ref a2, .ref a3, .ref a4, .ref a5, .ref a6, .ref a7, .ref a8, .ref a9, .ref a10, .ref a11, .ref a12, .null, .int 0, .int 0, .int 0, .int 0, .null, .int 0, .null, .null])), (a1, eD cy 256 (fun _ => 0)), (a2, eI cy 32 (fun _ => 0)), (a3, eD cy 32 (fun _ => 0)), (a4, eD cy 32 (fun _ => 0)), (a5, eD cy 32 (fun _ => 0)), (a6, eZ cy 32 (fun _ => 0)), (a7, eZ cy 32 (fun _ => 0)), (a8, eD cy 9 (fun _ => 0)), (a9, eD cy 3 (fun _ => 0)), (a10, eZ cy 3 (fun _ => 0)), (a11, eD cy 3 (fun _ => 0)), (a12, eD cy 3 (fun _ => 0)), (a13, eD cy 4 (vf_upd (vf_upd (fun _ => 0) (0 : Int32).toNatClampNeg 4625196817309499392) (1 : Int32).toNatClampNeg 4625196817309499392))] := hD
  refine lv_dup hx hb dX5_init_113 rfl ?_
  refine lv_iconst (v := 2) hx hb dX5_init_114 (by decide) ?_
  refine lv_ldc2d hx hb hown (am.2.2.2.2.1 _ wRX5_48) dX5_init_115 ?_
  refine va_dast hx hb hK hP hD hS 13 0 rfl rfl (vinL (by decide)) dX5_init_118 (fun H locs hP hD hS => ?_)
  have hP : va_P D vwCl [(q, .inr (5, [.int 0, .long 0, .int 0, .ref a1, .ref a2, .ref a3, .ref a4, .ref a5, .ref a6, .ref a7, .ref a8, .ref a9, .ref a10, .ref a11, .ref a12, .null, .int 0, .int 0, .int 0, .int 0, .null, .int 0, .null, .null])), (a1, eD cy 256 (fun _ => 0)), (a2, eI cy 32 (fun _ => 0)), (a3, eD cy 32 (fun _ => 0)), (a4, eD cy 32 (fun _ => 0)), (a5, eD cy 32 (fun _ => 0)), (a6, eZ cy 32 (fun _ => 0)), (a7, eZ cy 32 (fun _ => 0)), (a8, eD cy 9 (fun _ => 0)), (a9, eD cy 3 (fun _ => 0)), (a10, eZ cy 3 (fun _ => 0)), (a11, eD cy 3 (fun _ => 0)), (a12, eD cy 3 (fun _ => 0)), (a13, eD cy 4 (vf_upd (vf_upd (vf_upd (fun _ => 0) (0 : Int32).toNatClampNeg 4625196817309499392) (1 : Int32).toNatClampNeg 4625196817309499392) (2 : Int32).toNatClampNeg 4625196817309499392))] H := hP
  have hD : va_D A [(q, .inr (5, [.int 0, .long 0, .int 0, .ref a1, .ref a2, .ref a3, .ref a4, .ref a5, .ref a6, .ref a7, .ref a8, .ref a9, .ref a10, .ref a11, .ref a12, .null, .int 0, .int 0, .int 0, .int 0, .null, .int 0, .null, .null])), (a1, eD cy 256 (fun _ => 0)), (a2, eI cy 32 (fun _ => 0)), (a3, eD cy 32 (fun _ => 0)), (a4, eD cy 32 (fun _ => 0)), (a5, eD cy 32 (fun _ => 0)), (a6, eZ cy 32 (fun _ => 0)), (a7, eZ cy 32 (fun _ => 0)), (a8, eD cy 9 (fun _ => 0)), (a9, eD cy 3 (fun _ => 0)), (a10, eZ cy 3 (fun _ => 0)), (a11, eD cy 3 (fun _ => 0)), (a12, eD cy 3 (fun _ => 0)), (a13, eD cy 4 (vf_upd (vf_upd (vf_upd (fun _ => 0) (0 : Int32).toNatClampNeg 4625196817309499392) (1 : Int32).toNatClampNeg 4625196817309499392) (2 : Int32).toNatClampNeg 4625196817309499392))] := hD
  refine lv_dup hx hb dX5_init_119 rfl ?_
  refine lv_iconst (v := 3) hx hb dX5_init_120 (by decide) ?_
  refine lv_ldc2d hx hb hown (am.2.2.2.2.1 _ wRX5_48) dX5_init_121 ?_
  refine va_dast hx hb hK hP hD hS 13 0 rfl rfl (vinL (by decide)) dX5_init_124 (fun H locs hP hD hS => ?_)
  have hP : va_P D vwCl [(q, .inr (5, [.int 0, .long 0, .int 0, .ref a1, .ref a2, .ref a3, .ref a4, .ref a5, .ref a6, .ref a7, .ref a8, .ref a9, .ref a10, .ref a11, .ref a12, .null, .int 0, .int 0, .int 0, .int 0, .null, .int 0, .null, .null])), (a1, eD cy 256 (fun _ => 0)), (a2, eI cy 32 (fun _ => 0)), (a3, eD cy 32 (fun _ => 0)), (a4, eD cy 32 (fun _ => 0)), (a5, eD cy 32 (fun _ => 0)), (a6, eZ cy 32 (fun _ => 0)), (a7, eZ cy 32 (fun _ => 0)), (a8, eD cy 9 (fun _ => 0)), (a9, eD cy 3 (fun _ => 0)), (a10, eZ cy 3 (fun _ => 0)), (a11, eD cy 3 (fun _ => 0)), (a12, eD cy 3 (fun _ => 0)), (a13, eD cy 4 (vf_upd (vf_upd (vf_upd (vf_upd (fun _ => 0) (0 : Int32).toNatClampNeg 4625196817309499392) (1 : Int32).toNatClampNeg 4625196817309499392) (2 : Int32).toNatClampNeg 4625196817309499392) (3 : Int32).toNatClampNeg 4625196817309499392))] H := hP
  have hD : va_D A [(q, .inr (5, [.int 0, .long 0, .int 0, .ref a1, .ref a2, .ref a3, .ref a4, .ref a5, .ref a6, .ref a7, .ref a8, .ref a9, .ref a10, .ref a11, .ref a12, .null, .int 0, .int 0, .int 0, .int 0, .null, .int 0, .null, .null])), (a1, eD cy 256 (fun _ => 0)), (a2, eI cy 32 (fun _ => 0)), (a3, eD cy 32 (fun _ => 0)), (a4, eD cy 32 (fun _ => 0)), (a5, eD cy 32 (fun _ => 0)), (a6, eZ cy 32 (fun _ => 0)), (a7, eZ cy 32 (fun _ => 0)), (a8, eD cy 9 (fun _ => 0)), (a9, eD cy 3 (fun _ => 0)), (a10, eZ cy 3 (fun _ => 0)), (a11, eD cy 3 (fun _ => 0)), (a12, eD cy 3 (fun _ => 0)), (a13, eD cy 4 (vf_upd (vf_upd (vf_upd (vf_upd (fun _ => 0) (0 : Int32).toNatClampNeg 4625196817309499392) (1 : Int32).toNatClampNeg 4625196817309499392) (2 : Int32).toNatClampNeg 4625196817309499392) (3 : Int32).toNatClampNeg 4625196817309499392))] := hD
  refine va_putF (ref := (TX5 15).1) hx hb am.2.2.2.2.1 inT5 tyX5 tyX5_ok nmX5 hown hK hP hD hS 0 rfl rfl 15 (by decide) (am.2.2.2.2.1 _ fRX5_50) (fun _ h => h) rfl hin rfl (tyX5_ok 15 (by decide)) rfl rfl (Nat.le_of_ble_eq_true rfl) dX5_init_125 (fun H locs hP hD hS => ?_)
  have hP : va_P D vwCl [(q, .inr (5, [.int 0, .long 0, .int 0, .ref a1, .ref a2, .ref a3, .ref a4, .ref a5, .ref a6, .ref a7, .ref a8, .ref a9, .ref a10, .ref a11, .ref a12, .ref a13, .int 0, .int 0, .int 0, .int 0, .null, .int 0, .null, .null])), (a1, eD cy 256 (fun _ => 0)), (a2, eI cy 32 (fun _ => 0)), (a3, eD cy 32 (fun _ => 0)), (a4, eD cy 32 (fun _ => 0)), (a5, eD cy 32 (fun _ => 0)), (a6, eZ cy 32 (fun _ => 0)), (a7, eZ cy 32 (fun _ => 0)), (a8, eD cy 9 (fun _ => 0)), (a9, eD cy 3 (fun _ => 0)), (a10, eZ cy 3 (fun _ => 0)), (a11, eD cy 3 (fun _ => 0)), (a12, eD cy 3 (fun _ => 0)), (a13, eD cy 4 (vf_upd (vf_upd (vf_upd (vf_upd (fun _ => 0) (0 : Int32).toNatClampNeg 4625196817309499392) (1 : Int32).toNatClampNeg 4625196817309499392) (2 : Int32).toNatClampNeg 4625196817309499392) (3 : Int32).toNatClampNeg 4625196817309499392))] H := hP
  have hD : va_D A [(q, .inr (5, [.int 0, .long 0, .int 0, .ref a1, .ref a2, .ref a3, .ref a4, .ref a5, .ref a6, .ref a7, .ref a8, .ref a9, .ref a10, .ref a11, .ref a12, .ref a13, .int 0, .int 0, .int 0, .int 0, .null, .int 0, .null, .null])), (a1, eD cy 256 (fun _ => 0)), (a2, eI cy 32 (fun _ => 0)), (a3, eD cy 32 (fun _ => 0)), (a4, eD cy 32 (fun _ => 0)), (a5, eD cy 32 (fun _ => 0)), (a6, eZ cy 32 (fun _ => 0)), (a7, eZ cy 32 (fun _ => 0)), (a8, eD cy 9 (fun _ => 0)), (a9, eD cy 3 (fun _ => 0)), (a10, eZ cy 3 (fun _ => 0)), (a11, eD cy 3 (fun _ => 0)), (a12, eD cy 3 (fun _ => 0)), (a13, eD cy 4 (vf_upd (vf_upd (vf_upd (vf_upd (fun _ => 0) (0 : Int32).toNatClampNeg 4625196817309499392) (1 : Int32).toNatClampNeg 4625196817309499392) (2 : Int32).toNatClampNeg 4625196817309499392) (3 : Int32).toNatClampNeg 4625196817309499392))] := hD
  refine lv_aload_n hx hb dX5_init_128 rfl (lv_at hl 0 rfl) ?_
  refine lv_bipush (v := 10) hx hb dX5_init_129 (by decide) ?_
  refine va_put (ref := (TX5 16).1) hx hb am.2.2.2.2.1 inT5 tyX5 tyX5_ok nmX5 hown hK hP hD hS 0 rfl rfl 16 (by decide) (am.2.2.2.2.1 _ fRX5_53) (fun _ h => h) rfl (tyX5_ok 16 (by decide)) rfl rfl (Nat.le_of_ble_eq_true rfl) dX5_init_131 (fun H locs hP hD hS => ?_)
  have hP : va_P D vwCl [(q, .inr (5, [.int 0, .long 0, .int 0, .ref a1, .ref a2, .ref a3, .ref a4, .ref a5, .ref a6, .ref a7, .ref a8, .ref a9, .ref a10, .ref a11, .ref a12, .ref a13, .int 10, .int 0, .int 0, .int 0, .null, .int 0, .null, .null])), (a1, eD cy 256 (fun _ => 0)), (a2, eI cy 32 (fun _ => 0)), (a3, eD cy 32 (fun _ => 0)), (a4, eD cy 32 (fun _ => 0)), (a5, eD cy 32 (fun _ => 0)), (a6, eZ cy 32 (fun _ => 0)), (a7, eZ cy 32 (fun _ => 0)), (a8, eD cy 9 (fun _ => 0)), (a9, eD cy 3 (fun _ => 0)), (a10, eZ cy 3 (fun _ => 0)), (a11, eD cy 3 (fun _ => 0)), (a12, eD cy 3 (fun _ => 0)), (a13, eD cy 4 (vf_upd (vf_upd (vf_upd (vf_upd (fun _ => 0) (0 : Int32).toNatClampNeg 4625196817309499392) (1 : Int32).toNatClampNeg 4625196817309499392) (2 : Int32).toNatClampNeg 4625196817309499392) (3 : Int32).toNatClampNeg 4625196817309499392))] H := hP
  have hD : va_D A [(q, .inr (5, [.int 0, .long 0, .int 0, .ref a1, .ref a2, .ref a3, .ref a4, .ref a5, .ref a6, .ref a7, .ref a8, .ref a9, .ref a10, .ref a11, .ref a12, .ref a13, .int 10, .int 0, .int 0, .int 0, .null, .int 0, .null, .null])), (a1, eD cy 256 (fun _ => 0)), (a2, eI cy 32 (fun _ => 0)), (a3, eD cy 32 (fun _ => 0)), (a4, eD cy 32 (fun _ => 0)), (a5, eD cy 32 (fun _ => 0)), (a6, eZ cy 32 (fun _ => 0)), (a7, eZ cy 32 (fun _ => 0)), (a8, eD cy 9 (fun _ => 0)), (a9, eD cy 3 (fun _ => 0)), (a10, eZ cy 3 (fun _ => 0)), (a11, eD cy 3 (fun _ => 0)), (a12, eD cy 3 (fun _ => 0)), (a13, eD cy 4 (vf_upd (vf_upd (vf_upd (vf_upd (fun _ => 0) (0 : Int32).toNatClampNeg 4625196817309499392) (1 : Int32).toNatClampNeg 4625196817309499392) (2 : Int32).toNatClampNeg 4625196817309499392) (3 : Int32).toNatClampNeg 4625196817309499392))] := hD
  refine lv_aload_n hx hb dX5_init_134 rfl (lv_at hl 0 rfl) ?_
  refine lv_iconst (v := 1) hx hb dX5_init_135 (by decide) ?_
  refine va_put (ref := (TX5 17).1) hx hb am.2.2.2.2.1 inT5 tyX5 tyX5_ok nmX5 hown hK hP hD hS 0 rfl rfl 17 (by decide) (am.2.2.2.2.1 _ fRX5_57) (fun _ h => h) rfl (tyX5_ok 17 (by decide)) rfl rfl (Nat.le_of_ble_eq_true rfl) dX5_init_136 (fun H locs hP hD hS => ?_)
  have hP : va_P D vwCl [(q, .inr (5, [.int 0, .long 0, .int 0, .ref a1, .ref a2, .ref a3, .ref a4, .ref a5, .ref a6, .ref a7, .ref a8, .ref a9, .ref a10, .ref a11, .ref a12, .ref a13, .int 10, .int 1, .int 0, .int 0, .null, .int 0, .null, .null])), (a1, eD cy 256 (fun _ => 0)), (a2, eI cy 32 (fun _ => 0)), (a3, eD cy 32 (fun _ => 0)), (a4, eD cy 32 (fun _ => 0)), (a5, eD cy 32 (fun _ => 0)), (a6, eZ cy 32 (fun _ => 0)), (a7, eZ cy 32 (fun _ => 0)), (a8, eD cy 9 (fun _ => 0)), (a9, eD cy 3 (fun _ => 0)), (a10, eZ cy 3 (fun _ => 0)), (a11, eD cy 3 (fun _ => 0)), (a12, eD cy 3 (fun _ => 0)), (a13, eD cy 4 (vf_upd (vf_upd (vf_upd (vf_upd (fun _ => 0) (0 : Int32).toNatClampNeg 4625196817309499392) (1 : Int32).toNatClampNeg 4625196817309499392) (2 : Int32).toNatClampNeg 4625196817309499392) (3 : Int32).toNatClampNeg 4625196817309499392))] H := hP
  have hD : va_D A [(q, .inr (5, [.int 0, .long 0, .int 0, .ref a1, .ref a2, .ref a3, .ref a4, .ref a5, .ref a6, .ref a7, .ref a8, .ref a9, .ref a10, .ref a11, .ref a12, .ref a13, .int 10, .int 1, .int 0, .int 0, .null, .int 0, .null, .null])), (a1, eD cy 256 (fun _ => 0)), (a2, eI cy 32 (fun _ => 0)), (a3, eD cy 32 (fun _ => 0)), (a4, eD cy 32 (fun _ => 0)), (a5, eD cy 32 (fun _ => 0)), (a6, eZ cy 32 (fun _ => 0)), (a7, eZ cy 32 (fun _ => 0)), (a8, eD cy 9 (fun _ => 0)), (a9, eD cy 3 (fun _ => 0)), (a10, eZ cy 3 (fun _ => 0)), (a11, eD cy 3 (fun _ => 0)), (a12, eD cy 3 (fun _ => 0)), (a13, eD cy 4 (vf_upd (vf_upd (vf_upd (vf_upd (fun _ => 0) (0 : Int32).toNatClampNeg 4625196817309499392) (1 : Int32).toNatClampNeg 4625196817309499392) (2 : Int32).toNatClampNeg 4625196817309499392) (3 : Int32).toNatClampNeg 4625196817309499392))] := hD
  refine lv_aload_n hx hb dX5_init_139 rfl (lv_at hl 0 rfl) ?_
  refine lv_sipush (v := 8192) hx hb dX5_init_140 (by decide) ?_
  refine va_newa hx hb (atype := .boolean) (am.2.2.2.2.1 _ ac_boolean) (ty := .boolean) rfl hK hP hD hS hA (n := 8192) (N' := 8192) (a0 := (8192, .inl (fun _ => 0))) (fun cA => rfl) (by decide) rfl (Nat.le_of_ble_eq_true rfl) (Nat.le_of_ble_eq_true rfl) (Nat.le_of_ble_eq_true rfl) dX5_init_143 (fun a14 cA H hK2 hP hD hS => ?_)
  obtain rfl : cA = cy 2 := cyEq hK2 (k := 2) rfl
  have hP : va_P D vwCl [(q, .inr (5, [.int 0, .long 0, .int 0, .ref a1, .ref a2, .ref a3, .ref a4, .ref a5, .ref a6, .ref a7, .ref a8, .ref a9, .ref a10, .ref a11, .ref a12, .ref a13, .int 10, .int 1, .int 0, .int 0, .null, .int 0, .null, .null])), (a1, eD cy 256 (fun _ => 0)), (a2, eI cy 32 (fun _ => 0)), (a3, eD cy 32 (fun _ => 0)), (a4, eD cy 32 (fun _ => 0)), (a5, eD cy 32 (fun _ => 0)), (a6, eZ cy 32 (fun _ => 0)), (a7, eZ cy 32 (fun _ => 0)), (a8, eD cy 9 (fun _ => 0)), (a9, eD cy 3 (fun _ => 0)), (a10, eZ cy 3 (fun _ => 0)), (a11, eD cy 3 (fun _ => 0)), (a12, eD cy 3 (fun _ => 0)), (a13, eD cy 4 (vf_upd (vf_upd (vf_upd (vf_upd (fun _ => 0) (0 : Int32).toNatClampNeg 4625196817309499392) (1 : Int32).toNatClampNeg 4625196817309499392) (2 : Int32).toNatClampNeg 4625196817309499392) (3 : Int32).toNatClampNeg 4625196817309499392)), (a14, eZ cy 8192 (fun _ => 0))] H := hP
  have hD : va_D A [(q, .inr (5, [.int 0, .long 0, .int 0, .ref a1, .ref a2, .ref a3, .ref a4, .ref a5, .ref a6, .ref a7, .ref a8, .ref a9, .ref a10, .ref a11, .ref a12, .ref a13, .int 10, .int 1, .int 0, .int 0, .null, .int 0, .null, .null])), (a1, eD cy 256 (fun _ => 0)), (a2, eI cy 32 (fun _ => 0)), (a3, eD cy 32 (fun _ => 0)), (a4, eD cy 32 (fun _ => 0)), (a5, eD cy 32 (fun _ => 0)), (a6, eZ cy 32 (fun _ => 0)), (a7, eZ cy 32 (fun _ => 0)), (a8, eD cy 9 (fun _ => 0)), (a9, eD cy 3 (fun _ => 0)), (a10, eZ cy 3 (fun _ => 0)), (a11, eD cy 3 (fun _ => 0)), (a12, eD cy 3 (fun _ => 0)), (a13, eD cy 4 (vf_upd (vf_upd (vf_upd (vf_upd (fun _ => 0) (0 : Int32).toNatClampNeg 4625196817309499392) (1 : Int32).toNatClampNeg 4625196817309499392) (2 : Int32).toNatClampNeg 4625196817309499392) (3 : Int32).toNatClampNeg 4625196817309499392)), (a14, eZ cy 8192 (fun _ => 0))] := hD
  refine va_putF (ref := (TX5 20).1) hx hb am.2.2.2.2.1 inT5 tyX5 tyX5_ok nmX5 hown hK hP hD hS 0 rfl rfl 20 (by decide) (am.2.2.2.2.1 _ fRX5_60) (fun _ h => h) rfl hin rfl (tyX5_ok 20 (by decide)) rfl rfl (Nat.le_of_ble_eq_true rfl) dX5_init_145 (fun H locs hP hD hS => ?_)
  have hP : va_P D vwCl [(q, .inr (5, [.int 0, .long 0, .int 0, .ref a1, .ref a2, .ref a3, .ref a4, .ref a5, .ref a6, .ref a7, .ref a8, .ref a9, .ref a10, .ref a11, .ref a12, .ref a13, .int 10, .int 1, .int 0, .int 0, .ref a14, .int 0, .null, .null])), (a1, eD cy 256 (fun _ => 0)), (a2, eI cy 32 (fun _ => 0)), (a3, eD cy 32 (fun _ => 0)), (a4, eD cy 32 (fun _ => 0)), (a5, eD cy 32 (fun _ => 0)), (a6, eZ cy 32 (fun _ => 0)), (a7, eZ cy 32 (fun _ => 0)), (a8, eD cy 9 (fun _ => 0)), (a9, eD cy 3 (fun _ => 0)), (a10, eZ cy 3 (fun _ => 0)), (a11, eD cy 3 (fun _ => 0)), (a12, eD cy 3 (fun _ => 0)), (a13, eD cy 4 (vf_upd (vf_upd (vf_upd (vf_upd (fun _ => 0) (0 : Int32).toNatClampNeg 4625196817309499392) (1 : Int32).toNatClampNeg 4625196817309499392) (2 : Int32).toNatClampNeg 4625196817309499392) (3 : Int32).toNatClampNeg 4625196817309499392)), (a14, eZ cy 8192 (fun _ => 0))] H := hP
  have hD : va_D A [(q, .inr (5, [.int 0, .long 0, .int 0, .ref a1, .ref a2, .ref a3, .ref a4, .ref a5, .ref a6, .ref a7, .ref a8, .ref a9, .ref a10, .ref a11, .ref a12, .ref a13, .int 10, .int 1, .int 0, .int 0, .ref a14, .int 0, .null, .null])), (a1, eD cy 256 (fun _ => 0)), (a2, eI cy 32 (fun _ => 0)), (a3, eD cy 32 (fun _ => 0)), (a4, eD cy 32 (fun _ => 0)), (a5, eD cy 32 (fun _ => 0)), (a6, eZ cy 32 (fun _ => 0)), (a7, eZ cy 32 (fun _ => 0)), (a8, eD cy 9 (fun _ => 0)), (a9, eD cy 3 (fun _ => 0)), (a10, eZ cy 3 (fun _ => 0)), (a11, eD cy 3 (fun _ => 0)), (a12, eD cy 3 (fun _ => 0)), (a13, eD cy 4 (vf_upd (vf_upd (vf_upd (vf_upd (fun _ => 0) (0 : Int32).toNatClampNeg 4625196817309499392) (1 : Int32).toNatClampNeg 4625196817309499392) (2 : Int32).toNatClampNeg 4625196817309499392) (3 : Int32).toNatClampNeg 4625196817309499392)), (a14, eZ cy 8192 (fun _ => 0))] := hD
  refine lv_aload_n hx hb dX5_init_148 rfl (lv_at hl 0 rfl) ?_
  refine lv_bipush (v := 16) hx hb dX5_init_149 (by decide) ?_
  refine va_newa hx hb (atype := .int) (am.2.2.2.2.1 _ ac_int) (ty := .int) rfl hK hP hD hS hA (n := 16) (N' := 16) (a0 := (16, .inl (fun _ => 0))) (fun cA => rfl) (by decide) rfl (Nat.le_of_ble_eq_true rfl) (Nat.le_of_ble_eq_true rfl) (Nat.le_of_ble_eq_true rfl) dX5_init_151 (fun a15 cA H hK2 hP hD hS => ?_)
  obtain rfl : cA = cy 1 := cyEq hK2 (k := 1) rfl
  have hP : va_P D vwCl [(q, .inr (5, [.int 0, .long 0, .int 0, .ref a1, .ref a2, .ref a3, .ref a4, .ref a5, .ref a6, .ref a7, .ref a8, .ref a9, .ref a10, .ref a11, .ref a12, .ref a13, .int 10, .int 1, .int 0, .int 0, .ref a14, .int 0, .null, .null])), (a1, eD cy 256 (fun _ => 0)), (a2, eI cy 32 (fun _ => 0)), (a3, eD cy 32 (fun _ => 0)), (a4, eD cy 32 (fun _ => 0)), (a5, eD cy 32 (fun _ => 0)), (a6, eZ cy 32 (fun _ => 0)), (a7, eZ cy 32 (fun _ => 0)), (a8, eD cy 9 (fun _ => 0)), (a9, eD cy 3 (fun _ => 0)), (a10, eZ cy 3 (fun _ => 0)), (a11, eD cy 3 (fun _ => 0)), (a12, eD cy 3 (fun _ => 0)), (a13, eD cy 4 (vf_upd (vf_upd (vf_upd (vf_upd (fun _ => 0) (0 : Int32).toNatClampNeg 4625196817309499392) (1 : Int32).toNatClampNeg 4625196817309499392) (2 : Int32).toNatClampNeg 4625196817309499392) (3 : Int32).toNatClampNeg 4625196817309499392)), (a14, eZ cy 8192 (fun _ => 0)), (a15, eI cy 16 (fun _ => 0))] H := hP
  have hD : va_D A [(q, .inr (5, [.int 0, .long 0, .int 0, .ref a1, .ref a2, .ref a3, .ref a4, .ref a5, .ref a6, .ref a7, .ref a8, .ref a9, .ref a10, .ref a11, .ref a12, .ref a13, .int 10, .int 1, .int 0, .int 0, .ref a14, .int 0, .null, .null])), (a1, eD cy 256 (fun _ => 0)), (a2, eI cy 32 (fun _ => 0)), (a3, eD cy 32 (fun _ => 0)), (a4, eD cy 32 (fun _ => 0)), (a5, eD cy 32 (fun _ => 0)), (a6, eZ cy 32 (fun _ => 0)), (a7, eZ cy 32 (fun _ => 0)), (a8, eD cy 9 (fun _ => 0)), (a9, eD cy 3 (fun _ => 0)), (a10, eZ cy 3 (fun _ => 0)), (a11, eD cy 3 (fun _ => 0)), (a12, eD cy 3 (fun _ => 0)), (a13, eD cy 4 (vf_upd (vf_upd (vf_upd (vf_upd (fun _ => 0) (0 : Int32).toNatClampNeg 4625196817309499392) (1 : Int32).toNatClampNeg 4625196817309499392) (2 : Int32).toNatClampNeg 4625196817309499392) (3 : Int32).toNatClampNeg 4625196817309499392)), (a14, eZ cy 8192 (fun _ => 0)), (a15, eI cy 16 (fun _ => 0))] := hD
  refine va_putF (ref := (TX5 22).1) hx hb am.2.2.2.2.1 inT5 tyX5 tyX5_ok nmX5 hown hK hP hD hS 0 rfl rfl 22 (by decide) (am.2.2.2.2.1 _ fRX5_63) (fun _ h => h) rfl hin rfl (tyX5_ok 22 (by decide)) rfl rfl (Nat.le_of_ble_eq_true rfl) dX5_init_153 (fun H locs hP hD hS => ?_)
  have hP : va_P D vwCl [(q, .inr (5, [.int 0, .long 0, .int 0, .ref a1, .ref a2, .ref a3, .ref a4, .ref a5, .ref a6, .ref a7, .ref a8, .ref a9, .ref a10, .ref a11, .ref a12, .ref a13, .int 10, .int 1, .int 0, .int 0, .ref a14, .int 0, .ref a15, .null])), (a1, eD cy 256 (fun _ => 0)), (a2, eI cy 32 (fun _ => 0)), (a3, eD cy 32 (fun _ => 0)), (a4, eD cy 32 (fun _ => 0)), (a5, eD cy 32 (fun _ => 0)), (a6, eZ cy 32 (fun _ => 0)), (a7, eZ cy 32 (fun _ => 0)), (a8, eD cy 9 (fun _ => 0)), (a9, eD cy 3 (fun _ => 0)), (a10, eZ cy 3 (fun _ => 0)), (a11, eD cy 3 (fun _ => 0)), (a12, eD cy 3 (fun _ => 0)), (a13, eD cy 4 (vf_upd (vf_upd (vf_upd (vf_upd (fun _ => 0) (0 : Int32).toNatClampNeg 4625196817309499392) (1 : Int32).toNatClampNeg 4625196817309499392) (2 : Int32).toNatClampNeg 4625196817309499392) (3 : Int32).toNatClampNeg 4625196817309499392)), (a14, eZ cy 8192 (fun _ => 0)), (a15, eI cy 16 (fun _ => 0))] H := hP
  have hD : va_D A [(q, .inr (5, [.int 0, .long 0, .int 0, .ref a1, .ref a2, .ref a3, .ref a4, .ref a5, .ref a6, .ref a7, .ref a8, .ref a9, .ref a10, .ref a11, .ref a12, .ref a13, .int 10, .int 1, .int 0, .int 0, .ref a14, .int 0, .ref a15, .null])), (a1, eD cy 256 (fun _ => 0)), (a2, eI cy 32 (fun _ => 0)), (a3, eD cy 32 (fun _ => 0)), (a4, eD cy 32 (fun _ => 0)), (a5, eD cy 32 (fun _ => 0)), (a6, eZ cy 32 (fun _ => 0)), (a7, eZ cy 32 (fun _ => 0)), (a8, eD cy 9 (fun _ => 0)), (a9, eD cy 3 (fun _ => 0)), (a10, eZ cy 3 (fun _ => 0)), (a11, eD cy 3 (fun _ => 0)), (a12, eD cy 3 (fun _ => 0)), (a13, eD cy 4 (vf_upd (vf_upd (vf_upd (vf_upd (fun _ => 0) (0 : Int32).toNatClampNeg 4625196817309499392) (1 : Int32).toNatClampNeg 4625196817309499392) (2 : Int32).toNatClampNeg 4625196817309499392) (3 : Int32).toNatClampNeg 4625196817309499392)), (a14, eZ cy 8192 (fun _ => 0)), (a15, eI cy 16 (fun _ => 0))] := hD
  refine lv_aload_n hx hb dX5_init_156 rfl (lv_at hl 0 rfl) ?_
  refine lv_bipush (v := 16) hx hb dX5_init_157 (by decide) ?_
  refine va_newa hx hb (atype := .double) (am.2.2.2.2.1 _ ac_double) (ty := .double) rfl hK hP hD hS hA (n := 16) (N' := 16) (a0 := (16, .inr (.inr (.inr (.inl (fun _ => 0)))))) (fun cA => rfl) (by decide) rfl (Nat.le_of_ble_eq_true rfl) (Nat.le_of_ble_eq_true rfl) (Nat.le_of_ble_eq_true rfl) dX5_init_159 (fun a16 cA H hK2 hP hD hS => ?_)
  obtain rfl : cA = cy 0 := cyEq hK2 (k := 0) rfl
  have hP : va_P D vwCl [(q, .inr (5, [.int 0, .long 0, .int 0, .ref a1, .ref a2, .ref a3, .ref a4, .ref a5, .ref a6, .ref a7, .ref a8, .ref a9, .ref a10, .ref a11, .ref a12, .ref a13, .int 10, .int 1, .int 0, .int 0, .ref a14, .int 0, .ref a15, .null])), (a1, eD cy 256 (fun _ => 0)), (a2, eI cy 32 (fun _ => 0)), (a3, eD cy 32 (fun _ => 0)), (a4, eD cy 32 (fun _ => 0)), (a5, eD cy 32 (fun _ => 0)), (a6, eZ cy 32 (fun _ => 0)), (a7, eZ cy 32 (fun _ => 0)), (a8, eD cy 9 (fun _ => 0)), (a9, eD cy 3 (fun _ => 0)), (a10, eZ cy 3 (fun _ => 0)), (a11, eD cy 3 (fun _ => 0)), (a12, eD cy 3 (fun _ => 0)), (a13, eD cy 4 (vf_upd (vf_upd (vf_upd (vf_upd (fun _ => 0) (0 : Int32).toNatClampNeg 4625196817309499392) (1 : Int32).toNatClampNeg 4625196817309499392) (2 : Int32).toNatClampNeg 4625196817309499392) (3 : Int32).toNatClampNeg 4625196817309499392)), (a14, eZ cy 8192 (fun _ => 0)), (a15, eI cy 16 (fun _ => 0)), (a16, eD cy 16 (fun _ => 0))] H := hP
  have hD : va_D A [(q, .inr (5, [.int 0, .long 0, .int 0, .ref a1, .ref a2, .ref a3, .ref a4, .ref a5, .ref a6, .ref a7, .ref a8, .ref a9, .ref a10, .ref a11, .ref a12, .ref a13, .int 10, .int 1, .int 0, .int 0, .ref a14, .int 0, .ref a15, .null])), (a1, eD cy 256 (fun _ => 0)), (a2, eI cy 32 (fun _ => 0)), (a3, eD cy 32 (fun _ => 0)), (a4, eD cy 32 (fun _ => 0)), (a5, eD cy 32 (fun _ => 0)), (a6, eZ cy 32 (fun _ => 0)), (a7, eZ cy 32 (fun _ => 0)), (a8, eD cy 9 (fun _ => 0)), (a9, eD cy 3 (fun _ => 0)), (a10, eZ cy 3 (fun _ => 0)), (a11, eD cy 3 (fun _ => 0)), (a12, eD cy 3 (fun _ => 0)), (a13, eD cy 4 (vf_upd (vf_upd (vf_upd (vf_upd (fun _ => 0) (0 : Int32).toNatClampNeg 4625196817309499392) (1 : Int32).toNatClampNeg 4625196817309499392) (2 : Int32).toNatClampNeg 4625196817309499392) (3 : Int32).toNatClampNeg 4625196817309499392)), (a14, eZ cy 8192 (fun _ => 0)), (a15, eI cy 16 (fun _ => 0)), (a16, eD cy 16 (fun _ => 0))] := hD
  refine va_putF (ref := (TX5 23).1) hx hb am.2.2.2.2.1 inT5 tyX5 tyX5_ok nmX5 hown hK hP hD hS 0 rfl rfl 23 (by decide) (am.2.2.2.2.1 _ fRX5_66) (fun _ h => h) rfl hin rfl (tyX5_ok 23 (by decide)) rfl rfl (Nat.le_of_ble_eq_true rfl) dX5_init_161 (fun H locs hP hD hS => ?_)
  have hP : va_P D vwCl [(q, .inr (5, [.int 0, .long 0, .int 0, .ref a1, .ref a2, .ref a3, .ref a4, .ref a5, .ref a6, .ref a7, .ref a8, .ref a9, .ref a10, .ref a11, .ref a12, .ref a13, .int 10, .int 1, .int 0, .int 0, .ref a14, .int 0, .ref a15, .ref a16])), (a1, eD cy 256 (fun _ => 0)), (a2, eI cy 32 (fun _ => 0)), (a3, eD cy 32 (fun _ => 0)), (a4, eD cy 32 (fun _ => 0)), (a5, eD cy 32 (fun _ => 0)), (a6, eZ cy 32 (fun _ => 0)), (a7, eZ cy 32 (fun _ => 0)), (a8, eD cy 9 (fun _ => 0)), (a9, eD cy 3 (fun _ => 0)), (a10, eZ cy 3 (fun _ => 0)), (a11, eD cy 3 (fun _ => 0)), (a12, eD cy 3 (fun _ => 0)), (a13, eD cy 4 (vf_upd (vf_upd (vf_upd (vf_upd (fun _ => 0) (0 : Int32).toNatClampNeg 4625196817309499392) (1 : Int32).toNatClampNeg 4625196817309499392) (2 : Int32).toNatClampNeg 4625196817309499392) (3 : Int32).toNatClampNeg 4625196817309499392)), (a14, eZ cy 8192 (fun _ => 0)), (a15, eI cy 16 (fun _ => 0)), (a16, eD cy 16 (fun _ => 0))] H := hP
  have hD : va_D A [(q, .inr (5, [.int 0, .long 0, .int 0, .ref a1, .ref a2, .ref a3, .ref a4, .ref a5, .ref a6, .ref a7, .ref a8, .ref a9, .ref a10, .ref a11, .ref a12, .ref a13, .int 10, .int 1, .int 0, .int 0, .ref a14, .int 0, .ref a15, .ref a16])), (a1, eD cy 256 (fun _ => 0)), (a2, eI cy 32 (fun _ => 0)), (a3, eD cy 32 (fun _ => 0)), (a4, eD cy 32 (fun _ => 0)), (a5, eD cy 32 (fun _ => 0)), (a6, eZ cy 32 (fun _ => 0)), (a7, eZ cy 32 (fun _ => 0)), (a8, eD cy 9 (fun _ => 0)), (a9, eD cy 3 (fun _ => 0)), (a10, eZ cy 3 (fun _ => 0)), (a11, eD cy 3 (fun _ => 0)), (a12, eD cy 3 (fun _ => 0)), (a13, eD cy 4 (vf_upd (vf_upd (vf_upd (vf_upd (fun _ => 0) (0 : Int32).toNatClampNeg 4625196817309499392) (1 : Int32).toNatClampNeg 4625196817309499392) (2 : Int32).toNatClampNeg 4625196817309499392) (3 : Int32).toNatClampNeg 4625196817309499392)), (a14, eZ cy 8192 (fun _ => 0)), (a15, eI cy 16 (fun _ => 0)), (a16, eD cy 16 (fun _ => 0))] := hD
  refine lv_aload_n hx hb dX5_init_164 rfl (lv_at hl 0 rfl) ?_
  refine lv_iload_n hx hb dX5_init_165 rfl (lv_at hl 1 rfl) ?_
  refine lv_i2l hx hb dX5_init_166 rfl ?_
  refine va_put (ref := (TX5 1).1) hx hb am.2.2.2.2.1 inT5 tyX5 tyX5_ok nmX5 hown hK hP hD hS 0 rfl rfl 1 (by decide) (am.2.2.2.2.1 _ fRX5_69) (fun _ h => h) rfl (tyX5_ok 1 (by decide)) rfl rfl (Nat.le_of_ble_eq_true rfl) dX5_init_167 (fun H locs hP hD hS => ?_)
  have hP : va_P D vwCl [(q, .inr (5, [.int 0, .long (sd).toInt64, .int 0, .ref a1, .ref a2, .ref a3, .ref a4, .ref a5, .ref a6, .ref a7, .ref a8, .ref a9, .ref a10, .ref a11, .ref a12, .ref a13, .int 10, .int 1, .int 0, .int 0, .ref a14, .int 0, .ref a15, .ref a16])), (a1, eD cy 256 (fun _ => 0)), (a2, eI cy 32 (fun _ => 0)), (a3, eD cy 32 (fun _ => 0)), (a4, eD cy 32 (fun _ => 0)), (a5, eD cy 32 (fun _ => 0)), (a6, eZ cy 32 (fun _ => 0)), (a7, eZ cy 32 (fun _ => 0)), (a8, eD cy 9 (fun _ => 0)), (a9, eD cy 3 (fun _ => 0)), (a10, eZ cy 3 (fun _ => 0)), (a11, eD cy 3 (fun _ => 0)), (a12, eD cy 3 (fun _ => 0)), (a13, eD cy 4 (vf_upd (vf_upd (vf_upd (vf_upd (fun _ => 0) (0 : Int32).toNatClampNeg 4625196817309499392) (1 : Int32).toNatClampNeg 4625196817309499392) (2 : Int32).toNatClampNeg 4625196817309499392) (3 : Int32).toNatClampNeg 4625196817309499392)), (a14, eZ cy 8192 (fun _ => 0)), (a15, eI cy 16 (fun _ => 0)), (a16, eD cy 16 (fun _ => 0))] H := hP
  have hD : va_D A [(q, .inr (5, [.int 0, .long (sd).toInt64, .int 0, .ref a1, .ref a2, .ref a3, .ref a4, .ref a5, .ref a6, .ref a7, .ref a8, .ref a9, .ref a10, .ref a11, .ref a12, .ref a13, .int 10, .int 1, .int 0, .int 0, .ref a14, .int 0, .ref a15, .ref a16])), (a1, eD cy 256 (fun _ => 0)), (a2, eI cy 32 (fun _ => 0)), (a3, eD cy 32 (fun _ => 0)), (a4, eD cy 32 (fun _ => 0)), (a5, eD cy 32 (fun _ => 0)), (a6, eZ cy 32 (fun _ => 0)), (a7, eZ cy 32 (fun _ => 0)), (a8, eD cy 9 (fun _ => 0)), (a9, eD cy 3 (fun _ => 0)), (a10, eZ cy 3 (fun _ => 0)), (a11, eD cy 3 (fun _ => 0)), (a12, eD cy 3 (fun _ => 0)), (a13, eD cy 4 (vf_upd (vf_upd (vf_upd (vf_upd (fun _ => 0) (0 : Int32).toNatClampNeg 4625196817309499392) (1 : Int32).toNatClampNeg 4625196817309499392) (2 : Int32).toNatClampNeg 4625196817309499392) (3 : Int32).toNatClampNeg 4625196817309499392)), (a14, eZ cy 8192 (fun _ => 0)), (a15, eI cy 16 (fun _ => 0)), (a16, eD cy 16 (fun _ => 0))] := hD
  exact W.vret hx hb hr (fun t ht hW => ⟨⟨_, rfl, ⟨fun k => match k with | 54 => a1 | 55 => a2 | 56 => a3 | 57 => a4 | 58 => a5 | 59 => a6 | 60 => a7 | 61 => a8 | 62 => a9 | 63 => a10 | 64 => a11 | 65 => a12 | 66 => a13 | 67 => a14 | 68 => a15 | _ => a16, rfl⟩, by rw [ht]; exact hP, hD⟩, hS.F ht⟩) hS.2.2 dX5_init_170

section
variable {p : Program} {l : Launch} {e : Env} {R : Room} {s : State} {m : MethodId} {args : Array Value} {below : List Frame} {meth : Method} {c : Code} {H : Heap} {locs : List Loc} {cells slots : Nat} {Q : State → Prop}
variable {cc : ByteArray} {nL : Nat} {own : String} {D : va_G} {cy : Nat → ClassId} {pc : Nat} {ls : Array Slot} {rest st0 : List Value} {A : Nat → Prop}
variable {y : MethodName} {bytes : ByteArray} {maxL n index b : Nat} {rm : Room} {host : String} {As : List Value}
theorem fixC (am : AmC p s m args c cc nL own D cy) : CallFix p m c cc nL s args tT own := ⟨am.1, am.2.1, am.2.2.1, am.2.2.2.1, am.2.2.2.2.1⟩
theorem wsC {w : Cond} (am : AmC p s m args c cc nL own D cy) (hw : w ∈ tT) : ∀ w' ∈ [w], ∀ (a' : Array Value) (U : State), s.WarmedH U.vm → w'.before a' U = true := by
  intro w' h a' U hW
  rw [List.mem_singleton.mp h]
  exact okW_at hW (List.mem_filter.mp hw).2 (am.2.2.2.2.1 w hw)
theorem callBC (am : AmC p s m args c cc nL own D cy) (kw : cwK (.code y bytes maxL none) own index y n) (hR : rm.frames + 1 ≤ R.frames ∧ 8 + (maxL + 11) + rm.locals ≤ R.locals) : CallB R s args own index y bytes maxL none [.code y bytes maxL none] rm rm.cells rm.slots n :=
  ⟨rfl, rfl, hR.1, hR.2, wsC am kw.1, List.mem_cons_self, am.2.2.2.2.1 _ kw.1, am.2.2.2.2.1 _ kw.2.2.1, kw.2.2.2.1, lenK kw.2.2.2.2, am.2.2.2.2.1 _ kw.2.1⟩
theorem callNC (am : AmC p s m args c cc nL own D cy) (kw : cwN (.code y bytes maxL none) own index y host n) (hR : rm.frames + 1 ≤ R.frames ∧ 8 + (maxL + 11) + rm.locals ≤ R.locals) : va_CN R s args own index y host bytes maxL none [.code y bytes maxL none] rm rm.cells rm.slots n :=
  ⟨⟨rfl, rfl, hR.1, hR.2, wsC am kw.1, List.mem_cons_self⟩, am.2.2.2.2.1 _ kw.1, am.2.2.2.2.1 _ kw.2.2.1, kw.2.2.2.1, lenK kw.2.2.2.2, am.2.2.2.2.1 _ kw.2.1⟩
theorem preS_C (am : AmC p s m args c cc nL own D cy) {wr wc : va_W} (hP : va_P D vwCl (wr ++ wc) H) (hD : va_D A (wr ++ wc)) : PreS s H (va_Pc As (preC D cy H.size wc)) As := by
  refine ⟨fb_preC, fun U hU hW => ⟨rfl, by rw [hU], ?_, va_K.moved hW.alike am.2.2.2.2.2.1, tT_at hW am.2.2.2.2.1, am.2.2.2.2.2.2.1.moved hW.alike, am.2.2.2.2.2.2.2.moved hW.alike, ?_⟩⟩
  · rw [hU]
    exact fun k x hx => hP (wr.length + k) x (by rw [List.getElem?_append_right (by omega)]; simpa using hx)
  · refine ⟨fun i j a b ha hb hab => ?_, fun _ _ _ => trivial⟩
    have := hD.1 (wr.length + i) (wr.length + j) a b (by rw [List.getElem?_append_right (by omega)]; simpa using ha) (by rw [List.getElem?_append_right (by omega)]; simpa using hb) hab
    omega
theorem inA {wr wc : va_W} (hD : va_D A (wr ++ wc)) (hS : va_S A s.heap H locs) (hA : ∀ q, s.heap.size ≤ q → A q) : ∀ q, va_A wc H.size q → A q := by
  rintro q (⟨k, e, hk⟩ | h)
  · exact hD.2 (wr.length + k) (q, e) (by rw [List.getElem?_append_right (by omega)]; simpa using hk)
  · exact hA q (Nat.le_trans hS.1 h)
/-- a constructor's call on what was made last -/
theorem c_ini {good : va_W → Prop} (am : AmC p s m args c cc nL own D cy) (wr : va_W) {wc : va_W} (hP : va_P D vwCl (wr ++ wc) H) (hD : va_D A (wr ++ wc)) (hS : va_S A s.heap H locs) (hA : ∀ q, s.heap.size ≤ q → A q) (hM : kC l y (.code y bytes maxL none) rm D cy (.ref b :: As) wc good) (kw : cwK (.code y bytes maxL none) own index y n) (hi : y.name = "<init>") (ki : Cond.instanceMethod y ∈ tT) (hR : rm.frames + 1 ≤ R.frames ∧ 8 + (maxL + 11) + rm.locals ≤ R.locals)
    {lvv : List (Nat × Value)} (hl : lv_has ls nL lvv) (hn : As.length = n) (hstack : st0 = As.reverse ++ .ref b :: rest) (hW : (rest.map fun v => v.category).sum ≤ 8) (hdg : decode cc pc = .ok (.invokespecial index, 3)) (hf : cells + rm.cells ≤ R.cells ∧ slots + rm.slots ≤ R.slots)
    (kk : ∀ (w1 : va_W) (H1 : Heap) (locs1 : List Loc), good w1 → va_P D vwCl (wr ++ w1) H1 → va_D A (wr ++ w1) → va_S A s.heap H1 locs1 → W p l e R s m args below meth c H1 locs1 (cells + rm.cells) (slots + rm.slots) Q (F0 m (pc + 3) ls rest)) :
    W p l e R s m args below meth c H locs cells slots Q (F0 m pc ls st0) :=
  va_callv (va_runI (fixC am) (hM H.size) ⟨callBC am kw hR, hi, am.2.2.2.2.1 _ ki⟩ (preS_C am hP hD) rfl hn hl.1 hstack (lv_room hW) hdg hf) hS (fun q _ h => inA hD hS hA q h) (fun q h => inA hD hS hA q h)
    (fun w1 t H1 locs1 ht _ hg hB _ hk hS1 => by subst ht; exact kk w1 _ locs1 hg (va_joinA hP hD hk (inA hD hS hA) hB.1 hB.2).1 (va_joinA hP hD hk (inA hD hS hA) hB.1 hB.2).2 hS1)
theorem c_iniN {good : va_W → Prop} (am : AmC p s m args c cc nL own D cy) (wr : va_W) {wc : va_W} (hP : va_P D vwCl (wr ++ wc) H) (hD : va_D A (wr ++ wc)) (hS : va_S A s.heap H locs) (hA : ∀ q, s.heap.size ≤ q → A q) (hM : kC l y (.code y bytes maxL none) rm D cy (.ref b :: As) wc good) (kw : cwN (.code y bytes maxL none) own index y host n) (hi : y.name = "<init>") (ki : Cond.instanceMethod y ∈ tT) (hR : rm.frames + 1 ≤ R.frames ∧ 8 + (maxL + 11) + rm.locals ≤ R.locals)
    {lvv : List (Nat × Value)} (hl : lv_has ls nL lvv) (hn : As.length = n) (hstack : st0 = As.reverse ++ .ref b :: rest) (hW : (rest.map fun v => v.category).sum ≤ 8) (hdg : decode cc pc = .ok (.invokespecial index, 3)) (hf : cells + rm.cells ≤ R.cells ∧ slots + rm.slots ≤ R.slots)
    (kk : ∀ (w1 : va_W) (H1 : Heap) (locs1 : List Loc), good w1 → va_P D vwCl (wr ++ w1) H1 → va_D A (wr ++ w1) → va_S A s.heap H1 locs1 → W p l e R s m args below meth c H1 locs1 (cells + rm.cells) (slots + rm.slots) Q (F0 m (pc + 3) ls rest)) :
    W p l e R s m args below meth c H locs cells slots Q (F0 m pc ls st0) :=
  va_callv (va_runIN (fixC am) (hM H.size) ⟨callNC am kw hR, hi, am.2.2.2.2.1 _ ki⟩ (preS_C am hP hD) rfl hn hl.1 hstack (lv_room hW) hdg hf) hS (fun q _ h => inA hD hS hA q h) (fun q h => inA hD hS hA q h)
    (fun w1 t H1 locs1 ht _ hg hB _ hk hS1 => by subst ht; exact kk w1 _ locs1 hg (va_joinA hP hD hk (inA hD hS hA) hB.1 hB.2).1 (va_joinA hP hD hk (inA hD hS hA) hB.1 hB.2).2 hS1)
end
abbrev fB0 : List Value := fB (fun _ => 0) (fun _ => 0) (fun _ => 0)
def bW (r : Nat → Nat) (i : Nat) : va_W := (List.range i).map (fun k => (r k, .inr (0, fB0)))
theorem bW_s (r : Nat → Nat) (i b : Nat) : bW r i ++ [(b, .inr (0, fB0))] = bW (va_up r i b) (i + 1) := by
  unfold bW
  rw [List.range_succ, List.map_append]
  congr 1
  · apply List.map_congr_left
    intro k hk
    rw [va_up_ne r b (Nat.ne_of_lt (List.mem_range.mp hk))]
  · show _ = [(va_up r i b i, _)]
    rw [va_up_self]
theorem bW_len (r : Nat → Nat) (i : Nat) : (bW r i).length = i := by simp [bW]
theorem bW_f (r : Nat → Nat) (i b : Nat) (hi : i < 32) : va_up (fun k => if k < i then some (r k) else none) i (some b) = fun k => if k < i + 1 then some (va_up r i b k) else none := by
  funext k
  unfold va_up
  by_cases h : k = i
  · subst h; simp
  · simp only [h, if_false]
    by_cases h2 : k < i
    · rw [if_pos h2, if_pos (by omega)]
    · rw [if_neg h2, if_neg (by omega)]
theorem bW_f0 (r : Nat → Nat) : (fun _ : Nat => (none : Option Nat)) = fun k => if k < 0 then some (r k) else none := by
  funext k
  rw [if_neg (Nat.not_lt_zero k)]

def gS (cy : Nat → ClassId) (q : Nat) (sd : Int32) : va_W → Prop := fun ws => ∃ (bA f1 o1 t1 n1 f2 o2 t2 n2 al ac ar ae av : Nat) (r r1 r2 : Nat → Nat), ws = ((((((q, .inr (4, [.int sd, .ref bA, .int 0, .ref f1, .ref f2, .ref al, .ref ac, .ref ar])) :: (bA, eR cy 32 (fun k => if k < 32 then some (r k) else none)) :: bW r 32) ++ fitL cy f1 o1 t1 n1 r1) ++ fitL cy f2 o2 t2 n2 r2) ++ [(al, eD cy 4 l16)]) ++ [(ac, .inr (1, [.int 10, .int 1, .int 0, .int 0]))]) ++ refL cy ar ae av
theorem at_last {X : va_W} {x : Nat × va_E} : (X ++ [x])[X.length]? = some x := by simp
theorem at_bW (r : Nat → Nat) (i : Nat) (x : Nat × va_E) : (bW r i ++ [x])[i]? = some x := by rw [List.getElem?_append_right (by rw [bW_len]; exact Nat.le_refl _), bW_len, Nat.sub_self]; rfl
theorem set_last {X : va_W} {x y : Nat × va_E} : (X ++ [x]).set X.length y = X ++ [y] := by simp
theorem im_X0_init : Cond.instanceMethod yX0_init ∈ tT := tT_in (k := 56) (by decide +kernel) rfl
theorem im_X1_init : Cond.instanceMethod yX1_init ∈ tT := tT_in (k := 114) (by decide +kernel) rfl
theorem im_X2_init : Cond.instanceMethod yX2_init ∈ tT := tT_in (k := 93) (by decide +kernel) rfl
theorem im_X3_init : Cond.instanceMethod yX3_init ∈ tT := tT_in (k := 133) (by decide +kernel) rfl
theorem im_X4_init : Cond.instanceMethod yX4_init ∈ tT := tT_in (k := 47) (by decide +kernel) rfl
theorem im_X5_init : Cond.instanceMethod yX5_init ∈ tT := tT_in (k := 550) (by decide +kernel) rfl
set_option maxHeartbeats 4000000 in
set_option maxRecDepth 100000 in
theorem c_X4_init {l : Launch} {D : va_G} {cy : Nat → ClassId} {q : Nat} {sd : Int32} : kC l yX4_init (.code yX4_init cX4_init 3 none) (rmK 2 52 374 60) D cy [.ref q, .int sd] [(q, .inr (4, [.int 0, .null, .int 0, .null, .null, .null, .null, .null]))] (gS cy q sd) := by
  refine start_C (by decide +kernel) (Nat.le_of_ble_eq_true rfl) ?_
  intro p e s m below meth c A am hx hb hr hin hlk hA hP hD hS0 ls hl
  have hown := am.2.2.2.1
  have hK := am.2.2.2.2.2.1
  generalize hH0 : s.heap = H at hP ⊢
  have hS : va_S A s.heap H [] := by rw [← hH0]; exact va_S.rf
  have hl : lv_has ls 3 [(0, .ref q), (1, .int sd)] := hl
  refine lv_aload_n hx hb dX4_init_0 rfl (lv_at hl 0 rfl) ?_
  refine W.objInit hx hb hown (am.2.2.2.2.1 _ ol_RX4) (am.2.2.2.2.1 _ oi_1) (am.2.2.2.2.1 _ oi_2) rfl (by rw [am.2.2.1]; exact hl.1) rfl dX4_init_1 (Nat.le_of_ble_eq_true rfl) (Nat.le_of_ble_eq_true rfl) ?_
  refine W.eq (g2 := F0 m 4 ls []) rfl ?_
  refine lv_aload_n hx hb dX4_init_4 rfl (lv_at hl 0 rfl) ?_
  refine lv_iload_n hx hb dX4_init_5 rfl (lv_at hl 1 rfl) ?_
  refine va_putF (ref := (TX4 0).1) hx hb am.2.2.2.2.1 inT4 tyX4 tyX4_ok nmX4 hown hK hP hD hS 0 rfl rfl 0 (by decide) (am.2.2.2.2.1 _ fRX4_7) (fun _ h => h) rfl hin rfl (tyX4_ok 0 (by decide)) rfl rfl (Nat.le_of_ble_eq_true rfl) dX4_init_6 (fun H locs hP hD hS => ?_)
  have hP : va_P D vwCl ([(q, .inr (4, [.int sd, .null, .int 0, .null, .null, .null, .null, .null]))]) H := hP
  have hD : va_D A ([(q, .inr (4, [.int sd, .null, .int 0, .null, .null, .null, .null, .null]))]) := hD
  refine lv_aload_n hx hb dX4_init_9 rfl (lv_at hl 0 rfl) ?_
  refine lv_bipush (v := 32) hx hb dX4_init_10 (by decide) ?_
  refine va_newq hx hb hown (am.2.2.2.2.1 _ cl_RX4_13) am.2.2.2.2.2.2.1 hK hP hD hS hA (n := 32) (N' := 32) (by decide) rfl (Nat.le_of_ble_eq_true rfl) (Nat.le_of_ble_eq_true rfl) (Nat.le_of_ble_eq_true rfl) dX4_init_12 (fun bA cA H hK2 hP hD hS => ?_)
  obtain rfl : cA = cy 3 := cyEq hK2 (k := 3) rfl
  refine va_putF (ref := (TX4 1).1) hx hb am.2.2.2.2.1 inT4 tyX4 tyX4_ok nmX4 hown hK hP hD hS 0 rfl rfl 1 (by decide) (am.2.2.2.2.1 _ fRX4_15) (fun _ h => h) rfl hin rfl (tyX4_ok 1 (by decide)) rfl rfl (Nat.le_of_ble_eq_true rfl) dX4_init_15 (fun H locs hP hD hS => ?_)
  have hP : va_P D vwCl ([(q, .inr (4, [.int sd, .ref bA, .int 0, .null, .null, .null, .null, .null])), (bA, eR cy 32 (fun _ => none))]) H := hP
  have hD : va_D A ([(q, .inr (4, [.int sd, .ref bA, .int 0, .null, .null, .null, .null, .null])), (bA, eR cy 32 (fun _ => none))]) := hD
  refine lv_iconst (v := 0) hx hb dX4_init_18 (by decide) ?_
  refine lv_istore_n (lv' := [(2, .int 0), (0, .ref q), (1, .int sd)]) hx hb dX4_init_19 rfl hl (by decide) rfl (fun ls hl => ?_)
  have lp : ∀ (n i : Nat), n + i = 32 → ∀ (r : Nat → Nat) (H : Heap) (locs : List Loc), va_P D vwCl ((q, .inr (4, [.int sd, .ref bA, .int 0, .null, .null, .null, .null, .null])) :: (bA, eR cy 32 (fun k => if k < i then some (r k) else none)) :: bW r i) H → va_D A ((q, .inr (4, [.int sd, .ref bA, .int 0, .null, .null, .null, .null, .null])) :: (bA, eR cy 32 (fun k => if k < i then some (r k) else none)) :: bW r i) → va_S A s.heap H locs → ∀ ls, lv_has ls 3 [(2, .int (nI i)), (0, .ref q), (1, .int sd)] → W p l e (rmK 2 52 374 60) s m [.ref q, .int sd].toArray below meth c H locs (1 + i) (32 + 8 * i) (MQ below (va_Qv (gS cy q sd) (fun ws' t => va_P D vwCl ws' t.heap ∧ va_D A ws') A) [.ref q, .int sd].toArray s 52 374 A) (F0 m 20 ls []) := by
    intro n
    induction n with
    | zero =>
      intro i hi r H locs hP hD hS ls hl
      obtain rfl : i = 32 := by omega
      refine lv_iload_n hx hb dX4_init_20 rfl (lv_at hl 0 rfl) ?_
      refine lv_bipush (v := 32) hx hb dX4_init_21 (by decide) ?_
      refine lv_icmp_ge (tgt := 45) hx hb dX4_init_23 (by decide) (fun _ => ?_) (fun h => absurd (show (32 : Int32) ≤ nI 32 by decide) h)
      generalize hrr : (bA, eR cy 32 (fun k => if k < 32 then some (r k) else none)) :: bW r 32 = X at hP hD
      refine lv_aload_n hx hb dX4_init_45 rfl (lv_at hl 1 rfl) ?_
      refine va_new hx hb am.2.2.2.2.1 inT2 tyX2 tyX2_ok hown (am.2.2.2.2.1 _ cl_RX4_20) (am.2.2.2.2.1 _ in_RX2) (am.2.2.2.2.1 _ it_RX2) hK hP hD hS hA (ci := 2) rfl (fs := [.null, .null, .null]) (by decide) (Nat.le_of_ble_eq_true rfl) (Nat.le_of_ble_eq_true rfl) dX4_init_46 (fun f1 H hP hD hS => ?_)
      refine lv_dup hx hb dX4_init_49 rfl ?_
      refine c_iniN am ((q, .inr (4, [.int sd, .ref bA, .int 0, .null, .null, .null, .null, .null])) :: X) hP hD hS hA (As := []) (rest := [.ref f1, .ref q]) c_X2_init kRX4_22 rfl im_X2_init ⟨(Nat.le_of_ble_eq_true rfl), (Nat.le_of_ble_eq_true rfl)⟩ hl rfl rfl (Nat.le_of_ble_eq_true rfl) dX4_init_50 ⟨(Nat.le_of_ble_eq_true rfl), (Nat.le_of_ble_eq_true rfl)⟩ (fun w1 H locs hg hP hD hS => ?_)
      obtain ⟨o1, t1, n1, r1, rfl⟩ := hg
      have hP : va_P D vwCl ((q, .inr (4, [.int sd, .ref bA, .int 0, .null, .null, .null, .null, .null])) :: (X ++ fitL cy f1 o1 t1 n1 r1)) H := hP
      have hD : va_D A ((q, .inr (4, [.int sd, .ref bA, .int 0, .null, .null, .null, .null, .null])) :: (X ++ fitL cy f1 o1 t1 n1 r1)) := hD
      refine va_putF (ref := (TX4 3).1) hx hb am.2.2.2.2.1 inT4 tyX4 tyX4_ok nmX4 hown hK hP hD hS 0 rfl rfl 3 (by decide) (am.2.2.2.2.1 _ fRX4_23) (fun _ h => h) rfl hin rfl (tyX4_ok 3 (by decide)) rfl rfl (Nat.le_of_ble_eq_true rfl) dX4_init_53 (fun H locs hP hD hS => ?_)
      have hP : va_P D vwCl ((q, .inr (4, [.int sd, .ref bA, .int 0, .ref f1, .null, .null, .null, .null])) :: (X ++ fitL cy f1 o1 t1 n1 r1)) H := hP
      have hD : va_D A ((q, .inr (4, [.int sd, .ref bA, .int 0, .ref f1, .null, .null, .null, .null])) :: (X ++ fitL cy f1 o1 t1 n1 r1)) := hD
      refine lv_aload_n hx hb dX4_init_56 rfl (lv_at hl 1 rfl) ?_
      refine va_new hx hb am.2.2.2.2.1 inT2 tyX2 tyX2_ok hown (am.2.2.2.2.1 _ cl_RX4_20) (am.2.2.2.2.1 _ in_RX2) (am.2.2.2.2.1 _ it_RX2) hK hP hD hS hA (ci := 2) rfl (fs := [.null, .null, .null]) (by decide) (Nat.le_of_ble_eq_true rfl) (Nat.le_of_ble_eq_true rfl) dX4_init_57 (fun f2 H hP hD hS => ?_)
      refine lv_dup hx hb dX4_init_60 rfl ?_
      refine c_iniN am ((q, .inr (4, [.int sd, .ref bA, .int 0, .ref f1, .null, .null, .null, .null])) :: (X ++ fitL cy f1 o1 t1 n1 r1)) hP hD hS hA (As := []) (rest := [.ref f2, .ref q]) c_X2_init kRX4_22 rfl im_X2_init ⟨(Nat.le_of_ble_eq_true rfl), (Nat.le_of_ble_eq_true rfl)⟩ hl rfl rfl (Nat.le_of_ble_eq_true rfl) dX4_init_61 ⟨(Nat.le_of_ble_eq_true rfl), (Nat.le_of_ble_eq_true rfl)⟩ (fun w1 H locs hg hP hD hS => ?_)
      obtain ⟨o2, t2, n2, r2, rfl⟩ := hg
      have hP : va_P D vwCl ((q, .inr (4, [.int sd, .ref bA, .int 0, .ref f1, .null, .null, .null, .null])) :: ((X ++ fitL cy f1 o1 t1 n1 r1) ++ fitL cy f2 o2 t2 n2 r2)) H := hP
      have hD : va_D A ((q, .inr (4, [.int sd, .ref bA, .int 0, .ref f1, .null, .null, .null, .null])) :: ((X ++ fitL cy f1 o1 t1 n1 r1) ++ fitL cy f2 o2 t2 n2 r2)) := hD
      refine va_putF (ref := (TX4 4).1) hx hb am.2.2.2.2.1 inT4 tyX4 tyX4_ok nmX4 hown hK hP hD hS 0 rfl rfl 4 (by decide) (am.2.2.2.2.1 _ fRX4_27) (fun _ h => h) rfl hin rfl (tyX4_ok 4 (by decide)) rfl rfl (Nat.le_of_ble_eq_true rfl) dX4_init_64 (fun H locs hP hD hS => ?_)
      have hP : va_P D vwCl ((q, .inr (4, [.int sd, .ref bA, .int 0, .ref f1, .ref f2, .null, .null, .null])) :: ((X ++ fitL cy f1 o1 t1 n1 r1) ++ fitL cy f2 o2 t2 n2 r2)) H := hP
      have hD : va_D A ((q, .inr (4, [.int sd, .ref bA, .int 0, .ref f1, .ref f2, .null, .null, .null])) :: ((X ++ fitL cy f1 o1 t1 n1 r1) ++ fitL cy f2 o2 t2 n2 r2)) := hD
      refine lv_aload_n hx hb dX4_init_67 rfl (lv_at hl 1 rfl) ?_
      refine lv_iconst (v := 4) hx hb dX4_init_68 (by decide) ?_
      refine va_newa hx hb (atype := .double) (am.2.2.2.2.1 _ ac_double) (ty := .double) rfl hK hP hD hS hA (n := 4) (N' := 4) (a0 := (4, .inr (.inr (.inr (.inl (fun _ => 0)))))) (fun cA => rfl) (by decide) rfl (Nat.le_of_ble_eq_true rfl) (Nat.le_of_ble_eq_true rfl) (Nat.le_of_ble_eq_true rfl) dX4_init_69 (fun al cA H hK2 hP hD hS => ?_)
      obtain rfl : cA = cy 0 := cyEq hK2 (k := 0) rfl
      have hP : va_P D vwCl ((q, .inr (4, [.int sd, .ref bA, .int 0, .ref f1, .ref f2, .null, .null, .null])) :: (((X ++ fitL cy f1 o1 t1 n1 r1) ++ fitL cy f2 o2 t2 n2 r2) ++ [(al, eD cy 4 (fun _ => 0))])) H := hP
      have hD : va_D A ((q, .inr (4, [.int sd, .ref bA, .int 0, .ref f1, .ref f2, .null, .null, .null])) :: (((X ++ fitL cy f1 o1 t1 n1 r1) ++ fitL cy f2 o2 t2 n2 r2) ++ [(al, eD cy 4 (fun _ => 0))])) := hD
      refine va_putF (ref := (TX4 5).1) hx hb am.2.2.2.2.1 inT4 tyX4 tyX4_ok nmX4 hown hK hP hD hS 0 rfl rfl 5 (by decide) (am.2.2.2.2.1 _ fRX4_30) (fun _ h => h) rfl hin rfl (tyX4_ok 5 (by decide)) rfl rfl (Nat.le_of_ble_eq_true rfl) dX4_init_71 (fun H locs hP hD hS => ?_)
      have hP : va_P D vwCl (((q, .inr (4, [.int sd, .ref bA, .int 0, .ref f1, .ref f2, .ref al, .null, .null])) :: ((X ++ fitL cy f1 o1 t1 n1 r1) ++ fitL cy f2 o2 t2 n2 r2)) ++ [(al, eD cy 4 (fun _ => 0))]) H := hP
      have hD : va_D A (((q, .inr (4, [.int sd, .ref bA, .int 0, .ref f1, .ref f2, .ref al, .null, .null])) :: ((X ++ fitL cy f1 o1 t1 n1 r1) ++ fitL cy f2 o2 t2 n2 r2)) ++ [(al, eD cy 4 (fun _ => 0))]) := hD
      refine lv_iconst (v := 0) hx hb dX4_init_74 (by decide) ?_
      refine lv_istore_n (lv' := [(2, .int 0), (0, .ref q), (1, .int sd)]) hx hb dX4_init_75 rfl hl (by decide) rfl (fun ls hl => ?_)
      refine lv_iload_n hx hb dX4_init_76 rfl (lv_at hl 0 rfl) ?_
      refine lv_iconst (v := 4) hx hb dX4_init_77 (by decide) ?_
      refine lv_icmp_ge (tgt := 96) hx hb dX4_init_78 (by decide) (fun h => absurd h (show ¬ (4 : Int32) ≤ 0 by decide)) (fun _ => ?_)
      refine lv_aload_n hx hb dX4_init_81 rfl (lv_at hl 1 rfl) ?_
      refine va_get (ref := (TX4 5).1) hx hb am.2.2.2.2.1 inT4 hown hK hP 0 rfl rfl 5 (by decide) (am.2.2.2.2.1 _ fRX4_30) (fun _ h => h) (v := .ref al) rfl dX4_init_82 ?_
      refine lv_iload_n hx hb dX4_init_85 rfl (lv_at hl 0 rfl) ?_
      refine lv_ldc2d hx hb hown (am.2.2.2.2.1 _ wRX4_34) dX4_init_86 ?_
      refine va_dast hx hb hK hP hD hS ((q, .inr (4, [.int sd, .ref bA, .int 0, .ref f1, .ref f2, .ref al, .null, .null])) :: ((X ++ fitL cy f1 o1 t1 n1 r1) ++ fitL cy f2 o2 t2 n2 r2)).length 0 at_last rfl (vinL (by decide)) dX4_init_89 (fun H locs hP hD hS => ?_)
      rw [set_last] at hP hD
      have hP : va_P D vwCl (((q, .inr (4, [.int sd, .ref bA, .int 0, .ref f1, .ref f2, .ref al, .null, .null])) :: ((X ++ fitL cy f1 o1 t1 n1 r1) ++ fitL cy f2 o2 t2 n2 r2)) ++ [(al, eD cy 4 (vf_upd (fun _ => 0) (0 : Int32).toNatClampNeg 4625196817309499392))]) H := hP
      have hD : va_D A (((q, .inr (4, [.int sd, .ref bA, .int 0, .ref f1, .ref f2, .ref al, .null, .null])) :: ((X ++ fitL cy f1 o1 t1 n1 r1) ++ fitL cy f2 o2 t2 n2 r2)) ++ [(al, eD cy 4 (vf_upd (fun _ => 0) (0 : Int32).toNatClampNeg 4625196817309499392))]) := hD
      refine lv_iinc (v := 1) (lv' := [(2, .int 1), (0, .ref q), (1, .int sd)]) hx hb dX4_init_90 hl (k := 0) rfl (by decide) (by decide) rfl (fun ls hl => ?_)
      refine lv_goto (tgt := 76) hx hb dX4_init_93 (by decide) ?_
      refine lv_iload_n hx hb dX4_init_76 rfl (lv_at hl 0 rfl) ?_
      refine lv_iconst (v := 4) hx hb dX4_init_77 (by decide) ?_
      refine lv_icmp_ge (tgt := 96) hx hb dX4_init_78 (by decide) (fun h => absurd h (show ¬ (4 : Int32) ≤ 1 by decide)) (fun _ => ?_)
      refine lv_aload_n hx hb dX4_init_81 rfl (lv_at hl 1 rfl) ?_
      refine va_get (ref := (TX4 5).1) hx hb am.2.2.2.2.1 inT4 hown hK hP 0 rfl rfl 5 (by decide) (am.2.2.2.2.1 _ fRX4_30) (fun _ h => h) (v := .ref al) rfl dX4_init_82 ?_
      refine lv_iload_n hx hb dX4_init_85 rfl (lv_at hl 0 rfl) ?_
      refine lv_ldc2d hx hb hown (am.2.2.2.2.1 _ wRX4_34) dX4_init_86 ?_
      refine va_dast hx hb hK hP hD hS ((q, .inr (4, [.int sd, .ref bA, .int 0, .ref f1, .ref f2, .ref al, .null, .null])) :: ((X ++ fitL cy f1 o1 t1 n1 r1) ++ fitL cy f2 o2 t2 n2 r2)).length 0 at_last rfl (vinL (by decide)) dX4_init_89 (fun H locs hP hD hS => ?_)
      rw [set_last] at hP hD
      have hP : va_P D vwCl (((q, .inr (4, [.int sd, .ref bA, .int 0, .ref f1, .ref f2, .ref al, .null, .null])) :: ((X ++ fitL cy f1 o1 t1 n1 r1) ++ fitL cy f2 o2 t2 n2 r2)) ++ [(al, eD cy 4 (vf_upd (vf_upd (fun _ => 0) (0 : Int32).toNatClampNeg 4625196817309499392) (1 : Int32).toNatClampNeg 4625196817309499392))]) H := hP
      have hD : va_D A (((q, .inr (4, [.int sd, .ref bA, .int 0, .ref f1, .ref f2, .ref al, .null, .null])) :: ((X ++ fitL cy f1 o1 t1 n1 r1) ++ fitL cy f2 o2 t2 n2 r2)) ++ [(al, eD cy 4 (vf_upd (vf_upd (fun _ => 0) (0 : Int32).toNatClampNeg 4625196817309499392) (1 : Int32).toNatClampNeg 4625196817309499392))]) := hD
      refine lv_iinc (v := 2) (lv' := [(2, .int 2), (0, .ref q), (1, .int sd)]) hx hb dX4_init_90 hl (k := 0) rfl (by decide) (by decide) rfl (fun ls hl => ?_)
      refine lv_goto (tgt := 76) hx hb dX4_init_93 (by decide) ?_
      refine lv_iload_n hx hb dX4_init_76 rfl (lv_at hl 0 rfl) ?_
      refine lv_iconst (v := 4) hx hb dX4_init_77 (by decide) ?_
      refine lv_icmp_ge (tgt := 96) hx hb dX4_init_78 (by decide) (fun h => absurd h (show ¬ (4 : Int32) ≤ 2 by decide)) (fun _ => ?_)
      refine lv_aload_n hx hb dX4_init_81 rfl (lv_at hl 1 rfl) ?_
      refine va_get (ref := (TX4 5).1) hx hb am.2.2.2.2.1 inT4 hown hK hP 0 rfl rfl 5 (by decide) (am.2.2.2.2.1 _ fRX4_30) (fun _ h => h) (v := .ref al) rfl dX4_init_82 ?_
      refine lv_iload_n hx hb dX4_init_85 rfl (lv_at hl 0 rfl) ?_
      refine lv_ldc2d hx hb hown (am.2.2.2.2.1 _ wRX4_34) dX4_init_86 ?_
      refine va_dast hx hb hK hP hD hS ((q, .inr (4, [.int sd, .ref bA, .int 0, .ref f1, .ref f2, .ref al, .null, .null])) :: ((X ++ fitL cy f1 o1 t1 n1 r1) ++ fitL cy f2 o2 t2 n2 r2)).length 0 at_last rfl (vinL (by decide)) dX4_init_89 (fun H locs hP hD hS => ?_)
      rw [set_last] at hP hD
      have hP : va_P D vwCl (((q, .inr (4, [.int sd, .ref bA, .int 0, .ref f1, .ref f2, .ref al, .null, .null])) :: ((X ++ fitL cy f1 o1 t1 n1 r1) ++ fitL cy f2 o2 t2 n2 r2)) ++ [(al, eD cy 4 (vf_upd (vf_upd (vf_upd (fun _ => 0) (0 : Int32).toNatClampNeg 4625196817309499392) (1 : Int32).toNatClampNeg 4625196817309499392) (2 : Int32).toNatClampNeg 4625196817309499392))]) H := hP
      have hD : va_D A (((q, .inr (4, [.int sd, .ref bA, .int 0, .ref f1, .ref f2, .ref al, .null, .null])) :: ((X ++ fitL cy f1 o1 t1 n1 r1) ++ fitL cy f2 o2 t2 n2 r2)) ++ [(al, eD cy 4 (vf_upd (vf_upd (vf_upd (fun _ => 0) (0 : Int32).toNatClampNeg 4625196817309499392) (1 : Int32).toNatClampNeg 4625196817309499392) (2 : Int32).toNatClampNeg 4625196817309499392))]) := hD
      refine lv_iinc (v := 3) (lv' := [(2, .int 3), (0, .ref q), (1, .int sd)]) hx hb dX4_init_90 hl (k := 0) rfl (by decide) (by decide) rfl (fun ls hl => ?_)
      refine lv_goto (tgt := 76) hx hb dX4_init_93 (by decide) ?_
      refine lv_iload_n hx hb dX4_init_76 rfl (lv_at hl 0 rfl) ?_
      refine lv_iconst (v := 4) hx hb dX4_init_77 (by decide) ?_
      refine lv_icmp_ge (tgt := 96) hx hb dX4_init_78 (by decide) (fun h => absurd h (show ¬ (4 : Int32) ≤ 3 by decide)) (fun _ => ?_)
      refine lv_aload_n hx hb dX4_init_81 rfl (lv_at hl 1 rfl) ?_
      refine va_get (ref := (TX4 5).1) hx hb am.2.2.2.2.1 inT4 hown hK hP 0 rfl rfl 5 (by decide) (am.2.2.2.2.1 _ fRX4_30) (fun _ h => h) (v := .ref al) rfl dX4_init_82 ?_
      refine lv_iload_n hx hb dX4_init_85 rfl (lv_at hl 0 rfl) ?_
      refine lv_ldc2d hx hb hown (am.2.2.2.2.1 _ wRX4_34) dX4_init_86 ?_
      refine va_dast hx hb hK hP hD hS ((q, .inr (4, [.int sd, .ref bA, .int 0, .ref f1, .ref f2, .ref al, .null, .null])) :: ((X ++ fitL cy f1 o1 t1 n1 r1) ++ fitL cy f2 o2 t2 n2 r2)).length 0 at_last rfl (vinL (by decide)) dX4_init_89 (fun H locs hP hD hS => ?_)
      rw [set_last] at hP hD
      have hP : va_P D vwCl (((q, .inr (4, [.int sd, .ref bA, .int 0, .ref f1, .ref f2, .ref al, .null, .null])) :: ((X ++ fitL cy f1 o1 t1 n1 r1) ++ fitL cy f2 o2 t2 n2 r2)) ++ [(al, eD cy 4 (vf_upd (vf_upd (vf_upd (vf_upd (fun _ => 0) (0 : Int32).toNatClampNeg 4625196817309499392) (1 : Int32).toNatClampNeg 4625196817309499392) (2 : Int32).toNatClampNeg 4625196817309499392) (3 : Int32).toNatClampNeg 4625196817309499392))]) H := hP
      have hD : va_D A (((q, .inr (4, [.int sd, .ref bA, .int 0, .ref f1, .ref f2, .ref al, .null, .null])) :: ((X ++ fitL cy f1 o1 t1 n1 r1) ++ fitL cy f2 o2 t2 n2 r2)) ++ [(al, eD cy 4 (vf_upd (vf_upd (vf_upd (vf_upd (fun _ => 0) (0 : Int32).toNatClampNeg 4625196817309499392) (1 : Int32).toNatClampNeg 4625196817309499392) (2 : Int32).toNatClampNeg 4625196817309499392) (3 : Int32).toNatClampNeg 4625196817309499392))]) := hD
      refine lv_iinc (v := 4) (lv' := [(2, .int 4), (0, .ref q), (1, .int sd)]) hx hb dX4_init_90 hl (k := 0) rfl (by decide) (by decide) rfl (fun ls hl => ?_)
      refine lv_goto (tgt := 76) hx hb dX4_init_93 (by decide) ?_
      refine lv_iload_n hx hb dX4_init_76 rfl (lv_at hl 0 rfl) ?_
      refine lv_iconst (v := 4) hx hb dX4_init_77 (by decide) ?_
      refine lv_icmp_ge (tgt := 96) hx hb dX4_init_78 (by decide) (fun _ => ?_) (fun h => absurd (show (4 : Int32) ≤ 4 by decide) h)
      have hP : va_P D vwCl ((q, .inr (4, [.int sd, .ref bA, .int 0, .ref f1, .ref f2, .ref al, .null, .null])) :: (((X ++ fitL cy f1 o1 t1 n1 r1) ++ fitL cy f2 o2 t2 n2 r2) ++ [(al, eD cy 4 l16)])) H := hP
      have hD : va_D A ((q, .inr (4, [.int sd, .ref bA, .int 0, .ref f1, .ref f2, .ref al, .null, .null])) :: (((X ++ fitL cy f1 o1 t1 n1 r1) ++ fitL cy f2 o2 t2 n2 r2) ++ [(al, eD cy 4 l16)])) := hD
      refine lv_aload_n hx hb dX4_init_96 rfl (lv_at hl 1 rfl) ?_
      refine va_new hx hb am.2.2.2.2.1 inT1 tyX1 tyX1_ok hown (am.2.2.2.2.1 _ cl_RX4_36) (am.2.2.2.2.1 _ in_RX1) (am.2.2.2.2.1 _ it_RX1) hK hP hD hS hA (ci := 1) rfl (fs := [.int 0, .int 0, .int 0, .int 0]) (by decide) (Nat.le_of_ble_eq_true rfl) (Nat.le_of_ble_eq_true rfl) dX4_init_97 (fun ac H hP hD hS => ?_)
      refine lv_dup hx hb dX4_init_100 rfl ?_
      refine c_iniN am ((q, .inr (4, [.int sd, .ref bA, .int 0, .ref f1, .ref f2, .ref al, .null, .null])) :: (((X ++ fitL cy f1 o1 t1 n1 r1) ++ fitL cy f2 o2 t2 n2 r2) ++ [(al, eD cy 4 l16)])) hP hD hS hA (As := []) (rest := [.ref ac, .ref q]) c_X1_init kRX4_38 rfl im_X1_init ⟨(Nat.le_of_ble_eq_true rfl), (Nat.le_of_ble_eq_true rfl)⟩ hl rfl rfl (Nat.le_of_ble_eq_true rfl) dX4_init_101 ⟨(Nat.le_of_ble_eq_true rfl), (Nat.le_of_ble_eq_true rfl)⟩ (fun w1 H locs hg hP hD hS => ?_)
      obtain rfl := hg
      have hP : va_P D vwCl ((q, .inr (4, [.int sd, .ref bA, .int 0, .ref f1, .ref f2, .ref al, .null, .null])) :: ((((X ++ fitL cy f1 o1 t1 n1 r1) ++ fitL cy f2 o2 t2 n2 r2) ++ [(al, eD cy 4 l16)]) ++ [(ac, .inr (1, [.int 10, .int 1, .int 0, .int 0]))])) H := hP
      have hD : va_D A ((q, .inr (4, [.int sd, .ref bA, .int 0, .ref f1, .ref f2, .ref al, .null, .null])) :: ((((X ++ fitL cy f1 o1 t1 n1 r1) ++ fitL cy f2 o2 t2 n2 r2) ++ [(al, eD cy 4 l16)]) ++ [(ac, .inr (1, [.int 10, .int 1, .int 0, .int 0]))])) := hD
      refine va_putF (ref := (TX4 6).1) hx hb am.2.2.2.2.1 inT4 tyX4 tyX4_ok nmX4 hown hK hP hD hS 0 rfl rfl 6 (by decide) (am.2.2.2.2.1 _ fRX4_39) (fun _ h => h) rfl hin rfl (tyX4_ok 6 (by decide)) rfl rfl (Nat.le_of_ble_eq_true rfl) dX4_init_104 (fun H locs hP hD hS => ?_)
      have hP : va_P D vwCl ((q, .inr (4, [.int sd, .ref bA, .int 0, .ref f1, .ref f2, .ref al, .ref ac, .null])) :: ((((X ++ fitL cy f1 o1 t1 n1 r1) ++ fitL cy f2 o2 t2 n2 r2) ++ [(al, eD cy 4 l16)]) ++ [(ac, .inr (1, [.int 10, .int 1, .int 0, .int 0]))])) H := hP
      have hD : va_D A ((q, .inr (4, [.int sd, .ref bA, .int 0, .ref f1, .ref f2, .ref al, .ref ac, .null])) :: ((((X ++ fitL cy f1 o1 t1 n1 r1) ++ fitL cy f2 o2 t2 n2 r2) ++ [(al, eD cy 4 l16)]) ++ [(ac, .inr (1, [.int 10, .int 1, .int 0, .int 0]))])) := hD
      refine lv_aload_n hx hb dX4_init_107 rfl (lv_at hl 1 rfl) ?_
      refine va_new hx hb am.2.2.2.2.1 inT3 tyX3 tyX3_ok hown (am.2.2.2.2.1 _ cl_RX4_43) (am.2.2.2.2.1 _ in_RX3) (am.2.2.2.2.1 _ it_RX3) hK hP hD hS hA (ci := 3) rfl (fs := [.null, .null, .int 0, .int 0]) (by decide) (Nat.le_of_ble_eq_true rfl) (Nat.le_of_ble_eq_true rfl) dX4_init_108 (fun ar H hP hD hS => ?_)
      refine lv_dup hx hb dX4_init_111 rfl ?_
      refine c_iniN am ((q, .inr (4, [.int sd, .ref bA, .int 0, .ref f1, .ref f2, .ref al, .ref ac, .null])) :: ((((X ++ fitL cy f1 o1 t1 n1 r1) ++ fitL cy f2 o2 t2 n2 r2) ++ [(al, eD cy 4 l16)]) ++ [(ac, .inr (1, [.int 10, .int 1, .int 0, .int 0]))])) hP hD hS hA (As := []) (rest := [.ref ar, .ref q]) c_X3_init kRX4_45 rfl im_X3_init ⟨(Nat.le_of_ble_eq_true rfl), (Nat.le_of_ble_eq_true rfl)⟩ hl rfl rfl (Nat.le_of_ble_eq_true rfl) dX4_init_112 ⟨(Nat.le_of_ble_eq_true rfl), (Nat.le_of_ble_eq_true rfl)⟩ (fun w1 H locs hg hP hD hS => ?_)
      obtain ⟨ae, av, rfl⟩ := hg
      have hP : va_P D vwCl ((q, .inr (4, [.int sd, .ref bA, .int 0, .ref f1, .ref f2, .ref al, .ref ac, .null])) :: (((((X ++ fitL cy f1 o1 t1 n1 r1) ++ fitL cy f2 o2 t2 n2 r2) ++ [(al, eD cy 4 l16)]) ++ [(ac, .inr (1, [.int 10, .int 1, .int 0, .int 0]))]) ++ refL cy ar ae av)) H := hP
      have hD : va_D A ((q, .inr (4, [.int sd, .ref bA, .int 0, .ref f1, .ref f2, .ref al, .ref ac, .null])) :: (((((X ++ fitL cy f1 o1 t1 n1 r1) ++ fitL cy f2 o2 t2 n2 r2) ++ [(al, eD cy 4 l16)]) ++ [(ac, .inr (1, [.int 10, .int 1, .int 0, .int 0]))]) ++ refL cy ar ae av)) := hD
      refine va_putF (ref := (TX4 7).1) hx hb am.2.2.2.2.1 inT4 tyX4 tyX4_ok nmX4 hown hK hP hD hS 0 rfl rfl 7 (by decide) (am.2.2.2.2.1 _ fRX4_46) (fun _ h => h) rfl hin rfl (tyX4_ok 7 (by decide)) rfl rfl (Nat.le_of_ble_eq_true rfl) dX4_init_115 (fun H locs hP hD hS => ?_)
      have hP : va_P D vwCl ((q, .inr (4, [.int sd, .ref bA, .int 0, .ref f1, .ref f2, .ref al, .ref ac, .ref ar])) :: (((((X ++ fitL cy f1 o1 t1 n1 r1) ++ fitL cy f2 o2 t2 n2 r2) ++ [(al, eD cy 4 l16)]) ++ [(ac, .inr (1, [.int 10, .int 1, .int 0, .int 0]))]) ++ refL cy ar ae av)) H := hP
      have hD : va_D A ((q, .inr (4, [.int sd, .ref bA, .int 0, .ref f1, .ref f2, .ref al, .ref ac, .ref ar])) :: (((((X ++ fitL cy f1 o1 t1 n1 r1) ++ fitL cy f2 o2 t2 n2 r2) ++ [(al, eD cy 4 l16)]) ++ [(ac, .inr (1, [.int 10, .int 1, .int 0, .int 0]))]) ++ refL cy ar ae av)) := hD
      subst hrr
      exact W.vret hx hb hr (fun t ht hW => ⟨⟨_, rfl, ⟨bA, f1, o1, t1, n1, f2, o2, t2, n2, al, ac, ar, ae, av, r, r1, r2, rfl⟩, by rw [ht]; exact hP, hD⟩, hS.F ht⟩) hS.2.2 dX4_init_118
    | succ n ih =>
      intro i hi r H locs hP hD hS ls hl
      refine lv_iload_n hx hb dX4_init_20 rfl (lv_at hl 0 rfl) ?_
      refine lv_bipush (v := 32) hx hb dX4_init_21 (by decide) ?_
      refine lv_icmp_ge (tgt := 45) hx hb dX4_init_23 (by decide) (fun h => absurd h (nI_ge (b := 32) (by omega) (by decide))) (fun _ => ?_)
      refine lv_aload_n hx hb dX4_init_26 rfl (lv_at hl 1 rfl) ?_
      refine va_get (ref := (TX4 1).1) hx hb am.2.2.2.2.1 inT4 hown hK hP 0 rfl rfl 1 (by decide) (am.2.2.2.2.1 _ fRX4_15) (fun _ h => h) (v := .ref bA) rfl dX4_init_27 ?_
      refine lv_iload_n hx hb dX4_init_30 rfl (lv_at hl 0 rfl) ?_
      refine va_new hx hb am.2.2.2.2.1 inT0 tyX0 tyX0_ok hown (am.2.2.2.2.1 _ cl_RX4_13) (am.2.2.2.2.1 _ in_RX0) (am.2.2.2.2.1 _ it_RX0) hK hP hD hS hA (ci := 0) rfl (fs := fB0) (by decide) (by show 1 + i + 1 ≤ 52; omega) (by show 32 + 8 * i + 8 ≤ 374; omega) dX4_init_31 (fun b H hP hD hS => ?_)
      refine lv_dup hx hb dX4_init_34 rfl ?_
      refine c_iniN am ((q, .inr (4, [.int sd, .ref bA, .int 0, .null, .null, .null, .null, .null])) :: (bA, eR cy 32 (fun k => if k < i then some (r k) else none)) :: bW r i) hP hD hS hA (As := []) (rest := [.ref b, .int (nI i), .ref bA]) c_X0_init kRX4_19 rfl im_X0_init ⟨(Nat.le_of_ble_eq_true rfl), (Nat.le_of_ble_eq_true rfl)⟩ hl rfl rfl (Nat.le_of_ble_eq_true rfl) dX4_init_35 ⟨(by show 1 + i + 1 + 0 ≤ 52; omega), (by show 32 + 8 * i + 8 + 0 ≤ 374; omega)⟩ (fun w1 H locs hg hP hD hS => ?_)
      obtain rfl := hg
      have hP : va_P D vwCl ((q, .inr (4, [.int sd, .ref bA, .int 0, .null, .null, .null, .null, .null])) :: (bA, eR cy 32 (fun k => if k < i then some (r k) else none)) :: (bW r i ++ [(b, .inr (0, fB0))])) H := hP
      have hD : va_D A ((q, .inr (4, [.int sd, .ref bA, .int 0, .null, .null, .null, .null, .null])) :: (bA, eR cy 32 (fun k => if k < i then some (r k) else none)) :: (bW r i ++ [(b, .inr (0, fB0))])) := hD
      refine va_astq hx hb hK hP hD hS 1 3 (i + 2) 0 rfl rfl (at_bW r i (b, .inr (0, fB0))) rfl (vp_in_nI (N := 32) (by omega) (by decide)) dX4_init_38 (fun H locs hP hD hS => ?_)
      rw [nI_clamp (by omega)] at hP hD
      have hP : va_P D vwCl ((q, .inr (4, [.int sd, .ref bA, .int 0, .null, .null, .null, .null, .null])) :: (bA, eR cy 32 (va_up (fun k => if k < i then some (r k) else none) i (some b))) :: (bW r i ++ [(b, .inr (0, fB0))])) H := hP
      have hD : va_D A ((q, .inr (4, [.int sd, .ref bA, .int 0, .null, .null, .null, .null, .null])) :: (bA, eR cy 32 (va_up (fun k => if k < i then some (r k) else none) i (some b))) :: (bW r i ++ [(b, .inr (0, fB0))])) := hD
      rw [bW_s, bW_f r i b (by omega)] at hP hD
      refine lv_iinc (v := nI (i + 1)) (lv' := [(2, .int (nI (i + 1))), (0, .ref q), (1, .int sd)]) hx hb dX4_init_39 hl (k := 0) rfl (nI_1 i) (by decide) rfl (fun ls hl => ?_)
      refine lv_goto (tgt := 20) hx hb dX4_init_42 (by decide) ?_
      exact ih (i + 1) (by omega) (va_up r i b) H locs hP hD hS ls hl
  rw [bW_f0 (fun _ => 0)] at hP hD
  exact lp 32 0 rfl (fun _ => 0) H locs hP hD hS ls hl

