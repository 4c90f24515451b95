section
-- ===== PART A: goes FIRST, ahead of the names: the tables' words, and 'selects' of the private methods out of them =====
/-- a private method of a class that the tables say can be made, by its rows of tables_1 -/
def lw_okq (q : MethodName × Nat) : Prop := (q.1.cls ≠ "java/lang/invoke/MethodHandle" ∧ q.1.cls ≠ "java/lang/invoke/VarHandle") ∧ Cond.instantiable q.1.cls q.2 ∈ tables_1 ∧ Cond.privateMethod q.1 ∈ tables_1 ∧ Cond.instanceMethod q.1 ∈ tables_1
theorem lw_p0 : lw_okq (⟨"StrengthRows$Fit", "reckon", "([LStrengthRows$Board;LStrengthRows$Board;)I"⟩, 3) := ⟨⟨by decide +kernel, by decide +kernel⟩, List.mem_of_getElem? (i := 61) (by decide +kernel), List.mem_of_getElem? (i := 150) (by decide +kernel), List.mem_of_getElem? (i := 151) (by decide +kernel)⟩
theorem lw_p1 : lw_okq (⟨"StrengthRows$Fit", "clear", "()V"⟩, 3) := ⟨⟨by decide +kernel, by decide +kernel⟩, List.mem_of_getElem? (i := 61) (by decide +kernel), List.mem_of_getElem? (i := 154) (by decide +kernel), List.mem_of_getElem? (i := 155) (by decide +kernel)⟩
theorem lw_p2 : lw_okq (⟨"StrengthRows$Board", "isFitted", "()Z"⟩, 8) := ⟨⟨by decide +kernel, by decide +kernel⟩, List.mem_of_getElem? (i := 24) (by decide +kernel), List.mem_of_getElem? (i := 158) (by decide +kernel), List.mem_of_getElem? (i := 159) (by decide +kernel)⟩
theorem lw_p3 : lw_okq (⟨"StrengthRows$Board", "isComplete", "()Z"⟩, 8) := ⟨⟨by decide +kernel, by decide +kernel⟩, List.mem_of_getElem? (i := 24) (by decide +kernel), List.mem_of_getElem? (i := 162) (by decide +kernel), List.mem_of_getElem? (i := 163) (by decide +kernel)⟩
theorem lw_p4 : lw_okq (⟨"StrengthRows$Fit", "add", "(LStrengthRows$Board;)V"⟩, 3) := ⟨⟨by decide +kernel, by decide +kernel⟩, List.mem_of_getElem? (i := 61) (by decide +kernel), List.mem_of_getElem? (i := 166) (by decide +kernel), List.mem_of_getElem? (i := 167) (by decide +kernel)⟩
theorem lw_p5 : lw_okq (⟨"StrengthRows$Board", "term", "(I)D"⟩, 8) := ⟨⟨by decide +kernel, by decide +kernel⟩, List.mem_of_getElem? (i := 24) (by decide +kernel), List.mem_of_getElem? (i := 170) (by decide +kernel), List.mem_of_getElem? (i := 171) (by decide +kernel)⟩
theorem lw_p6 : lw_okq (⟨"StrengthRows$Board", "mean", "()D"⟩, 8) := ⟨⟨by decide +kernel, by decide +kernel⟩, List.mem_of_getElem? (i := 24) (by decide +kernel), List.mem_of_getElem? (i := 174) (by decide +kernel), List.mem_of_getElem? (i := 175) (by decide +kernel)⟩
theorem lw_p7 : lw_okq (⟨"StrengthRows$Fit", "eliminate", "()I"⟩, 3) := ⟨⟨by decide +kernel, by decide +kernel⟩, List.mem_of_getElem? (i := 61) (by decide +kernel), List.mem_of_getElem? (i := 179) (by decide +kernel), List.mem_of_getElem? (i := 180) (by decide +kernel)⟩
theorem lw_p8 : lw_okq (⟨"StrengthRows$Fit", "isPassedOver", "(I)Z"⟩, 3) := ⟨⟨by decide +kernel, by decide +kernel⟩, List.mem_of_getElem? (i := 61) (by decide +kernel), List.mem_of_getElem? (i := 183) (by decide +kernel), List.mem_of_getElem? (i := 184) (by decide +kernel)⟩
theorem lw_p9 : lw_okq (⟨"StrengthRows$Fit", "lessen", "(IID)V"⟩, 3) := ⟨⟨by decide +kernel, by decide +kernel⟩, List.mem_of_getElem? (i := 61) (by decide +kernel), List.mem_of_getElem? (i := 188) (by decide +kernel), List.mem_of_getElem? (i := 189) (by decide +kernel)⟩
theorem lw_p10 : lw_okq (⟨"StrengthRows$Fit", "substitute", "()V"⟩, 3) := ⟨⟨by decide +kernel, by decide +kernel⟩, List.mem_of_getElem? (i := 61) (by decide +kernel), List.mem_of_getElem? (i := 192) (by decide +kernel), List.mem_of_getElem? (i := 193) (by decide +kernel)⟩
theorem lw_p11 : lw_okq (⟨"StrengthRows$Chart", "actsAt", "(Z)Z"⟩, 4) := ⟨⟨by decide +kernel, by decide +kernel⟩, List.mem_of_getElem? (i := 82) (by decide +kernel), List.mem_of_getElem? (i := 200) (by decide +kernel), List.mem_of_getElem? (i := 201) (by decide +kernel)⟩
theorem lw_p12 : lw_okq (⟨"java/lang/Throwable", "fillInStackTrace", "(I)Ljava/lang/Throwable;"⟩, 6) := ⟨⟨by decide +kernel, by decide +kernel⟩, List.mem_of_getElem? (i := 259) (by decide +kernel), List.mem_of_getElem? (i := 257) (by decide +kernel), List.mem_of_getElem? (i := 258) (by decide +kernel)⟩
theorem lw_p13 : lw_okq (⟨"StrengthRows", "boardAt", "(I)LStrengthRows$Board;"⟩, 8) := ⟨⟨by decide +kernel, by decide +kernel⟩, List.mem_of_getElem? (i := 15) (by decide +kernel), List.mem_of_getElem? (i := 298) (by decide +kernel), List.mem_of_getElem? (i := 299) (by decide +kernel)⟩
theorem lw_p14 : lw_okq (⟨"StrengthRows", "completeBoardAt", "(I)LStrengthRows$Board;"⟩, 8) := ⟨⟨by decide +kernel, by decide +kernel⟩, List.mem_of_getElem? (i := 15) (by decide +kernel), List.mem_of_getElem? (i := 378) (by decide +kernel), List.mem_of_getElem? (i := 379) (by decide +kernel)⟩
theorem lw_p15 : lw_okq (⟨"StrengthRows$Fit", "foretell", "(LStrengthRows$Board;)D"⟩, 3) := ⟨⟨by decide +kernel, by decide +kernel⟩, List.mem_of_getElem? (i := 61) (by decide +kernel), List.mem_of_getElem? (i := 384) (by decide +kernel), List.mem_of_getElem? (i := 385) (by decide +kernel)⟩
def lw_privs_1 : List (MethodName × Nat) := [(⟨"StrengthRows$Fit", "reckon", "([LStrengthRows$Board;LStrengthRows$Board;)I"⟩, 3), (⟨"StrengthRows$Fit", "clear", "()V"⟩, 3), (⟨"StrengthRows$Board", "isFitted", "()Z"⟩, 8), (⟨"StrengthRows$Board", "isComplete", "()Z"⟩, 8), (⟨"StrengthRows$Fit", "add", "(LStrengthRows$Board;)V"⟩, 3), (⟨"StrengthRows$Board", "term", "(I)D"⟩, 8), (⟨"StrengthRows$Board", "mean", "()D"⟩, 8), (⟨"StrengthRows$Fit", "eliminate", "()I"⟩, 3), (⟨"StrengthRows$Fit", "isPassedOver", "(I)Z"⟩, 3), (⟨"StrengthRows$Fit", "lessen", "(IID)V"⟩, 3), (⟨"StrengthRows$Fit", "substitute", "()V"⟩, 3), (⟨"StrengthRows$Chart", "actsAt", "(Z)Z"⟩, 4), (⟨"java/lang/Throwable", "fillInStackTrace", "(I)Ljava/lang/Throwable;"⟩, 6), (⟨"StrengthRows", "boardAt", "(I)LStrengthRows$Board;"⟩, 8), (⟨"StrengthRows", "completeBoardAt", "(I)LStrengthRows$Board;"⟩, 8), (⟨"StrengthRows$Fit", "foretell", "(LStrengthRows$Board;)D"⟩, 3)]
theorem lw_r1 : ∀ q ∈ lw_privs_1, lw_okq q := List.forall_mem_cons.mpr ⟨lw_p0, List.forall_mem_cons.mpr ⟨lw_p1, List.forall_mem_cons.mpr ⟨lw_p2, List.forall_mem_cons.mpr ⟨lw_p3, List.forall_mem_cons.mpr ⟨lw_p4, List.forall_mem_cons.mpr ⟨lw_p5, List.forall_mem_cons.mpr ⟨lw_p6, List.forall_mem_cons.mpr ⟨lw_p7, List.forall_mem_cons.mpr ⟨lw_p8, List.forall_mem_cons.mpr ⟨lw_p9, List.forall_mem_cons.mpr ⟨lw_p10, List.forall_mem_cons.mpr ⟨lw_p11, List.forall_mem_cons.mpr ⟨lw_p12, List.forall_mem_cons.mpr ⟨lw_p13, List.forall_mem_cons.mpr ⟨lw_p14, List.forall_mem_cons.mpr ⟨lw_p15, fun _ h => absurd h List.not_mem_nil⟩⟩⟩⟩⟩⟩⟩⟩⟩⟩⟩⟩⟩⟩⟩⟩
theorem lw_p16 : lw_okq (⟨"StrengthRows", "keepForetold", "()V"⟩, 8) := ⟨⟨by decide +kernel, by decide +kernel⟩, List.mem_of_getElem? (i := 15) (by decide +kernel), List.mem_of_getElem? (i := 416) (by decide +kernel), List.mem_of_getElem? (i := 417) (by decide +kernel)⟩
theorem lw_p17 : lw_okq (⟨"StrengthRows", "isEnough", "(DDII)Z"⟩, 8) := ⟨⟨by decide +kernel, by decide +kernel⟩, List.mem_of_getElem? (i := 15) (by decide +kernel), List.mem_of_getElem? (i := 421) (by decide +kernel), List.mem_of_getElem? (i := 422) (by decide +kernel)⟩
theorem lw_p18 : lw_okq (⟨"StrengthRows$Chart", "begin", "(II)V"⟩, 4) := ⟨⟨by decide +kernel, by decide +kernel⟩, List.mem_of_getElem? (i := 82) (by decide +kernel), List.mem_of_getElem? (i := 450) (by decide +kernel), List.mem_of_getElem? (i := 451) (by decide +kernel)⟩
theorem lw_p19 : lw_okq (⟨"StrengthRows$References", "isBehindLast", "(I)Z"⟩, 4) := ⟨⟨by decide +kernel, by decide +kernel⟩, List.mem_of_getElem? (i := 101) (by decide +kernel), List.mem_of_getElem? (i := 479) (by decide +kernel), List.mem_of_getElem? (i := 480) (by decide +kernel)⟩
theorem lw_p20 : lw_okq (⟨"StrengthRows$References", "isFull", "()Z"⟩, 4) := ⟨⟨by decide +kernel, by decide +kernel⟩, List.mem_of_getElem? (i := 101) (by decide +kernel), List.mem_of_getElem? (i := 483) (by decide +kernel), List.mem_of_getElem? (i := 484) (by decide +kernel)⟩
theorem lw_p21 : lw_okq (⟨"StrengthRows$References", "append", "(ID)I"⟩, 4) := ⟨⟨by decide +kernel, by decide +kernel⟩, List.mem_of_getElem? (i := 101) (by decide +kernel), List.mem_of_getElem? (i := 488) (by decide +kernel), List.mem_of_getElem? (i := 489) (by decide +kernel)⟩
theorem lw_p22 : lw_okq (⟨"StrengthRows$References", "valueAt", "(I)D"⟩, 4) := ⟨⟨by decide +kernel, by decide +kernel⟩, List.mem_of_getElem? (i := 101) (by decide +kernel), List.mem_of_getElem? (i := 499) (by decide +kernel), List.mem_of_getElem? (i := 500) (by decide +kernel)⟩
theorem lw_p23 : lw_okq (⟨"StrengthRows$References", "between", "(III)D"⟩, 4) := ⟨⟨by decide +kernel, by decide +kernel⟩, List.mem_of_getElem? (i := 101) (by decide +kernel), List.mem_of_getElem? (i := 503) (by decide +kernel), List.mem_of_getElem? (i := 504) (by decide +kernel)⟩
theorem lw_p24 : lw_okq (⟨"StrengthRowsModel", "noBoard", "(I)Z"⟩, 24) := ⟨⟨by decide +kernel, by decide +kernel⟩, List.mem_of_getElem? (i := 518) (by decide +kernel), List.mem_of_getElem? (i := 611) (by decide +kernel), List.mem_of_getElem? (i := 612) (by decide +kernel)⟩
theorem lw_p25 : lw_okq (⟨"StrengthRowsModel", "solve", "(I)I"⟩, 24) := ⟨⟨by decide +kernel, by decide +kernel⟩, List.mem_of_getElem? (i := 518) (by decide +kernel), List.mem_of_getElem? (i := 637) (by decide +kernel), List.mem_of_getElem? (i := 638) (by decide +kernel)⟩
theorem lw_p26 : lw_okq (⟨"StrengthRowsModel", "isComplete", "(I)Z"⟩, 24) := ⟨⟨by decide +kernel, by decide +kernel⟩, List.mem_of_getElem? (i := 518) (by decide +kernel), List.mem_of_getElem? (i := 641) (by decide +kernel), List.mem_of_getElem? (i := 642) (by decide +kernel)⟩
theorem lw_p27 : lw_okq (⟨"StrengthRowsModel", "add", "(I)V"⟩, 24) := ⟨⟨by decide +kernel, by decide +kernel⟩, List.mem_of_getElem? (i := 518) (by decide +kernel), List.mem_of_getElem? (i := 645) (by decide +kernel), List.mem_of_getElem? (i := 646) (by decide +kernel)⟩
theorem lw_p28 : lw_okq (⟨"StrengthRowsModel", "x", "(II)D"⟩, 24) := ⟨⟨by decide +kernel, by decide +kernel⟩, List.mem_of_getElem? (i := 518) (by decide +kernel), List.mem_of_getElem? (i := 649) (by decide +kernel), List.mem_of_getElem? (i := 650) (by decide +kernel)⟩
theorem lw_p29 : lw_okq (⟨"StrengthRowsModel", "told", "(IDDD)D"⟩, 24) := ⟨⟨by decide +kernel, by decide +kernel⟩, List.mem_of_getElem? (i := 518) (by decide +kernel), List.mem_of_getElem? (i := 663) (by decide +kernel), List.mem_of_getElem? (i := 664) (by decide +kernel)⟩
def lw_privs_2 : List (MethodName × Nat) := [(⟨"StrengthRows", "keepForetold", "()V"⟩, 8), (⟨"StrengthRows", "isEnough", "(DDII)Z"⟩, 8), (⟨"StrengthRows$Chart", "begin", "(II)V"⟩, 4), (⟨"StrengthRows$References", "isBehindLast", "(I)Z"⟩, 4), (⟨"StrengthRows$References", "isFull", "()Z"⟩, 4), (⟨"StrengthRows$References", "append", "(ID)I"⟩, 4), (⟨"StrengthRows$References", "valueAt", "(I)D"⟩, 4), (⟨"StrengthRows$References", "between", "(III)D"⟩, 4), (⟨"StrengthRowsModel", "noBoard", "(I)Z"⟩, 24), (⟨"StrengthRowsModel", "solve", "(I)I"⟩, 24), (⟨"StrengthRowsModel", "isComplete", "(I)Z"⟩, 24), (⟨"StrengthRowsModel", "add", "(I)V"⟩, 24), (⟨"StrengthRowsModel", "x", "(II)D"⟩, 24), (⟨"StrengthRowsModel", "told", "(IDDD)D"⟩, 24)]
theorem lw_r2 : ∀ q ∈ lw_privs_2, lw_okq q := List.forall_mem_cons.mpr ⟨lw_p16, List.forall_mem_cons.mpr ⟨lw_p17, List.forall_mem_cons.mpr ⟨lw_p18, List.forall_mem_cons.mpr ⟨lw_p19, List.forall_mem_cons.mpr ⟨lw_p20, List.forall_mem_cons.mpr ⟨lw_p21, List.forall_mem_cons.mpr ⟨lw_p22, List.forall_mem_cons.mpr ⟨lw_p23, List.forall_mem_cons.mpr ⟨lw_p24, List.forall_mem_cons.mpr ⟨lw_p25, List.forall_mem_cons.mpr ⟨lw_p26, List.forall_mem_cons.mpr ⟨lw_p27, List.forall_mem_cons.mpr ⟨lw_p28, List.forall_mem_cons.mpr ⟨lw_p29, fun _ h => absurd h List.not_mem_nil⟩⟩⟩⟩⟩⟩⟩⟩⟩⟩⟩⟩⟩⟩
def lw_privs : List (MethodName × Nat) := lw_privs_1 ++ (lw_privs_2)
def lw_tbl : List Cond := k2_sels lw_privs ++ tables_1
theorem lw_privs_ok : ∀ q ∈ lw_privs, lw_okq q := by
  show ∀ q ∈ lw_privs_1 ++ (lw_privs_2), lw_okq q
  exact List.forall_mem_append.mpr ⟨lw_r1, lw_r2⟩
/-- the streams that the claim lets the run draw from -/
abbrev lw_cs : List Choice := [Jvm.Choice.named "NaN.bits"]
theorem lw_bits : nanBits ∈ lw_cs := by first | decide | exact List.mem_cons_self | simp [lw_cs, nanBits]

/-! ===== BEGIN words of one list among another's, by their places ===== -/
theorem goodIn_r {big : List Cond} (ws : List Cond) (ps : List Nat) (hp : ws = ps.filterMap (fun i => big[i]?)) (h : ws.all goodWord = true) : GoodIn big ws := by
  intro w hw
  have h1 := List.all_eq_true.mp h w hw
  rw [hp] at hw
  obtain ⟨i, -, hi⟩ := List.mem_filterMap.mp hw
  have hm : w ∈ big := by first | exact List.mem_of_getElem? hi | exact List.getElem?_mem hi
  exact ⟨hm, good_of_word h1⟩
theorem goodIn_app {big a b : List Cond} (ha : GoodIn big a) (hb : GoodIn big b) : GoodIn big (a ++ b) := fun w h => (List.mem_append.mp h).elim (ha w) (hb w)
theorem goodIn_ca {big a b : List Cond} {c : Cond} (ha : GoodIn big (c :: a)) (hb : GoodIn big b) : GoodIn big (c :: (a ++ b)) := fun w h => (List.mem_cons.mp h).elim (fun e => ha w (List.mem_cons.mpr (Or.inl e))) (fun h => (List.mem_append.mp h).elim (fun h => ha w (List.mem_cons.mpr (Or.inr h))) (hb w))
theorem goodIn_sub {big ws : List Cond} (hm : ∀ w ∈ ws, w ∈ big) (h : ws.all goodWord = true) : GoodIn big ws := fun w hw => ⟨hm w hw, good_of_word (List.all_eq_true.mp h w hw)⟩
/-! ===== END ===== -/

/-! ===== BEGIN new T[n][m]: the outer array a place, the inner ones among the pooled ===== -/
/-- the printed names speak of va_AOA, which this claim's kit lacks -/
def va_AOA (t : FieldType) (U : State) : Prop := (Cond.arrayOver (.array t)).before #[] U = true
theorem va_AOA.use {t : FieldType} {A : Array Value} {U : State} (h : va_AOA t U) : (Cond.arrayOver (.array t)).before A U = true := h
/-- f, but v at every address of l -/
def vr_up {α : Type} (f : Nat → α) (l : List Nat) (v : α) : Nat → α := fun a => if a ∈ l then v else f a
theorem vr_up_in {α : Type} {f : Nat → α} {l : List Nat} {v : α} {a : Nat} (h : a ∈ l) : vr_up f l v a = v := if_pos h
theorem vr_up_ne {α : Type} {f : Nat → α} {l : List Nat} {v : α} {a : Nat} (h : a ∉ l) : vr_up f l v a = f a := if_neg h
theorem vr_rows {L l : List Nat} {f : Nat → va_E} {e : va_E} (h : ∀ a, a ∈ l → a ∉ L) : va_pl L f ++ l.map (fun a => (a, e)) = va_pl (L ++ l) (vr_up f l e) := by
  unfold va_pl
  rw [List.map_append]
  congr 1
  · apply List.map_congr_left
    intro a ha
    rw [vr_up_ne (fun q => h a q ha)]
  · apply List.map_congr_left
    intro a ha
    rw [vr_up_in ha]
theorem vr_lay {X rows : va_W} {x : Nat × va_E} {pl : va_W} {D : va_G} {cl : List vw_C} {H : Heap} (hP : va_P D cl (((X ++ pl) ++ [x]) ++ rows) H) : va_P D cl ((X ++ [x]) ++ (pl ++ rows)) H := by
  rw [List.append_assoc (X ++ pl)] at hP
  have h := va_P.swap hP
  rw [← List.append_assoc X] at h
  have h2 := va_P.swap h
  rw [List.append_assoc (X ++ [x])] at h2
  exact h2
theorem vr_layD {X rows : va_W} {x : Nat × va_E} {pl : va_W} {A : Nat → Prop} (hD : va_D A (((X ++ pl) ++ [x]) ++ rows)) : va_D A ((X ++ [x]) ++ (pl ++ rows)) := by
  rw [List.append_assoc (X ++ pl)] at hD
  have h := va_D.swap hD
  rw [← List.append_assoc X] at h
  have h2 := va_D.swap h
  rw [List.append_assoc (X ++ [x])] at h2
  exact h2
theorem vr_outer (c : ClassId) (N h0 : Nat) : ∀ i : Nat, Jvm.Free.Multi.outerC c N h0 i = arrV c N (fun j => va_rf (if j < i then some (h0 + 1 + j) else none))
  | 0 => by
    show ({ cls := c, slots := Array.replicate N .null, vm := .none } : Cell) = _
    rw [arrV_new]
    refine congrArg (arrV c N) (funext fun j => ?_)
    simp [va_rf]
  | i + 1 => by
    show (Jvm.Free.Multi.outerC c N h0 i).setSlot i (.ref (h0 + 1 + i)) = _
    rw [vr_outer c N h0 i, arrV_store]
    refine congrArg (arrV c N) (funext fun j => ?_)
    by_cases e : j = i
    · subst e
      simp [updV, va_rf]
    · by_cases h : j < i
      · simp [updV, e, h, Nat.lt_succ_of_lt h]
      · simp [updV, e, h, show ¬ j < i + 1 by omega]
section VGM
variable {p : Program} {l : Launch} {e : Env} {R : Room} {s : State} {m : MethodId} {args : Array Value} {below : List Frame} {meth : Method} {c : Code} {H : Heap} {locs : List Loc} {cells slots : Nat} {Q : State → Prop}
variable {cc : ByteArray} {pc : Nat} {ls : Array Slot} {rest : List Value} {D : va_G} {cl : List vw_C} {A : Nat → Prop} {a : Nat} {tys : List (ClassId × FieldType)} {ws : va_W} {H0 : Heap}
theorem va_mna {X : va_W} {L : List Nat} {f : Nat → va_E} {cc : ByteArray} (hexec : p.tables.exec = Jvm.exec) (hb : c.code = cc) {own : String} {index : Nat} {ty : FieldType} {cy : ClassId} (hown : s.vm.findClass own = some m.cls) (hclink : (Cond.classLink own index ("[" ++ (FieldType.array ty).toString)).before args s = true) (hover : va_AOA ty s) (harr : (Cond.arrayClass ty).before args s = true) (hcy : s.vm.findClass (FieldType.array ty).toString = some cy)
    (hK : va_K D cl tys s) (hP : va_P D cl (X ++ va_pl L f) H) (hD : va_D A (X ++ va_pl L f)) (hS : va_S A H0 H locs) (hA : ∀ q, H0.size ≤ q → A q) {n k : Int32} {N' K' : Nat} {z : vp_A} (hn : ¬ n < 0) (hk : ¬ k < 0) (hN : n.toNatClampNeg = N') (hM : k.toNatClampNeg = K')
    (hb1 : N' * 4 ≤ 536870912) (hb2 : K' * componentBytes ty ≤ 536870912) (hb3 : K' ≤ 536870912) (hdf : fits ty (defaultValue ty) = true) (hdd : (defaultValue ty).isDefault = true) (hcells : cells + (1 + N') ≤ R.cells) (hslots : slots + (N' + N' * K') ≤ R.slots) (hz : ∀ c : ClassId, Jvm.Free.Multi.innerC c K' (defaultValue ty) = vp_cell c z) (hdg : decode cc pc = .ok (.multianewarray index 2, 4))
    (kk : ∀ (q : Nat) (r : Nat → Nat) (cA : ClassId) (H1 : Heap), (∀ i j : Nat, i < N' → j < N' → r i = r j → i = j) → (∀ i : Nat, i < N' → r i ∉ L) → va_K D cl (tys ++ [(cA, .array ty)]) s →
      va_P D cl ((X ++ [(q, .inl (cA, N', .inr (.inr (.inr (.inr (fun i => if i < N' then some (r i) else none))))))]) ++ va_pl (L ++ (List.range N').map r) (vr_up f ((List.range N').map r) (.inl (cy, z)))) H1 → va_D A ((X ++ [(q, .inl (cA, N', .inr (.inr (.inr (.inr (fun i => if i < N' then some (r i) else none))))))]) ++ va_pl (L ++ (List.range N').map r) (vr_up f ((List.range N').map r) (.inl (cy, z)))) → va_S A H0 H1 locs →
      W p l e R s m args below meth c H1 locs (cells + 1 + N') (slots + N' + N' * K') Q (F0 m (pc + 4) ls (.ref q :: rest))) : W p l e R s m args below meth c H locs cells slots Q (F0 m pc ls (.int k :: .int n :: rest)) := by
  subst hN
  subst hM
  intro T hT Xs
  obtain ⟨vm₁, cA, comp, -, fA, fC, hO, -, X', step⟩ := Xs.multianewarray2F hexec hown hclink (va_AOA.use hover) harr (g := F0 m pc ls (.int k :: .int n :: rest)) rfl (by rw [hb]; exact hdg) rfl hn hk hb1 hb2 hb3 hdf hdd hcells hslots
  have ec : some cy = some comp := hcy.symm.trans fC
  cases ec
  generalize hF : Jvm.Free.Multi.fill (T.setVm vm₁) cA cy n.toNatClampNeg k.toNatClampNeg (defaultValue ty) n.toNatClampNeg = F at X' step
  have hTh : (T.setVm vm₁).heap = H := hT
  obtain ⟨f1, f2, -, -⟩ := Jvm.Free.Multi.fill_facts (T.setVm vm₁) cA cy n.toNatClampNeg k.toNatClampNeg (defaultValue ty) n.toNatClampNeg
  rw [hF, hTh] at f1 f2
  have hold : ∀ x : Nat, x < H.size → F.heap[x]? = H[x]? := fun x hx => by
    have := Jvm.Free.Multi.fill_old (T.setVm vm₁) cA cy n.toNatClampNeg k.toNatClampNeg (defaultValue ty) (a := x) (by rw [hTh]; exact hx) n.toNatClampNeg
    rw [hF, hTh] at this
    exact this
  have hrow : ∀ j : Nat, j < n.toNatClampNeg → F.heap[H.size + 1 + j]? = some (vp_cell cy z) := fun j hj => by
    have := Jvm.Free.Multi.fill_inner (T.setVm vm₁) cA cy n.toNatClampNeg k.toNatClampNeg (defaultValue ty) n.toNatClampNeg j hj
    rw [hF, hTh, hz] at this
    exact this
  have hout : Jvm.Free.Multi.outerC cA n.toNatClampNeg H.size n.toNatClampNeg = vp_cell cA (n.toNatClampNeg, .inr (.inr (.inr (.inr (fun i => if i < n.toNatClampNeg then some (H.size + 1 + i) else none))))) := by
    rw [vp_cell_q]
    exact vr_outer cA n.toNatClampNeg H.size n.toNatClampNeg
  rw [hout] at f2
  have hlt : ∀ a, a ∈ L → a < H.size := fun a ha => by
    obtain ⟨k9, hk9⟩ := va_pl_get (X := X) (f := f) ha
    exact (hP k9 _ hk9).lt
  have hnl : ∀ i : Nat, i < n.toNatClampNeg → H.size + 1 + i ∉ L := fun i _ h => by
    have := hlt _ h
    omega
  have hnm : ∀ a, a ∈ (List.range n.toNatClampNeg).map (fun i => H.size + 1 + i) → a ∉ L := fun a ha h => by
    obtain ⟨i, -, rfl⟩ := List.mem_map.mp ha
    have := hlt _ h
    omega
  have hP0 : va_P D cl (X ++ va_pl L f) F.heap := hP.kept (fun k9 x hx => hold x.1 ((hP k9 x hx).lt))
  have hP1 : va_P D cl ((X ++ va_pl L f) ++ [(H.size, .inl (cA, n.toNatClampNeg, .inr (.inr (.inr (.inr (fun i => if i < n.toNatClampNeg then some (H.size + 1 + i) else none))))))]) F.heap := hP0.app (fun k9 x hx => by
    have h0 : k9 < 1 := (List.getElem?_eq_some_iff.mp hx).1
    rw [show k9 = 0 by omega] at hx
    cases hx
    exact f2)
  have hP2 : va_P D cl (((X ++ va_pl L f) ++ [(H.size, .inl (cA, n.toNatClampNeg, .inr (.inr (.inr (.inr (fun i => if i < n.toNatClampNeg then some (H.size + 1 + i) else none))))))]) ++ ((List.range n.toNatClampNeg).map (fun i => H.size + 1 + i)).map (fun a => (a, .inl (cy, z)))) F.heap := hP1.app (fun k9 x hx => by
    obtain ⟨a, ha, rfl⟩ := List.mem_map.mp (List.mem_of_getElem? hx)
    obtain ⟨i, hi, rfl⟩ := List.mem_map.mp ha
    exact hrow i (List.mem_range.mp hi))
  have hD2 : va_D A (((X ++ va_pl L f) ++ [(H.size, .inl (cA, n.toNatClampNeg, .inr (.inr (.inr (.inr (fun i => if i < n.toNatClampNeg then some (H.size + 1 + i) else none))))))]) ++ ((List.range n.toNatClampNeg).map (fun i => H.size + 1 + i)).map (fun a => (a, .inl (cy, z)))) := by
    have hD1 := hD.push (e := .inl (cA, n.toNatClampNeg, .inr (.inr (.inr (.inr (fun i => if i < n.toNatClampNeg then some (H.size + 1 + i) else none)))))) hP rfl (hA _ hS.1)
    generalize hW1 : (X ++ va_pl L f) ++ [(H.size, .inl (cA, n.toNatClampNeg, .inr (.inr (.inr (.inr (fun i => if i < n.toNatClampNeg then some (H.size + 1 + i) else none))))))] = W1 at hD1 hP1 ⊢
    have hle : ∀ (k9 : Nat) (x : Nat × va_E), W1[k9]? = some x → x.1 ≤ H.size := fun k9 x hx => by
      rw [← hW1] at hx
      by_cases hl : k9 < (X ++ va_pl L f).length
      · rw [List.getElem?_append_left hl] at hx
        exact Nat.le_of_lt ((hP k9 x hx).lt)
      · rw [List.getElem?_append_right (by omega)] at hx
        have h0 : k9 - (X ++ va_pl L f).length < 1 := (List.getElem?_eq_some_iff.mp hx).1
        rw [show k9 - (X ++ va_pl L f).length = 0 by omega] at hx
        cases hx
        exact Nat.le_refl _
    have hr : ∀ (k9 : Nat) (x : Nat × va_E), (((List.range n.toNatClampNeg).map (fun i => H.size + 1 + i)).map (fun a => ((a, .inl (cy, z)) : Nat × va_E)))[k9]? = some x → x.1 = H.size + 1 + k9 := fun k9 x hx => by
      rw [List.getElem?_map, List.getElem?_map] at hx
      by_cases h9 : k9 < n.toNatClampNeg
      · rw [List.getElem?_range h9] at hx
        cases hx
        rfl
      · have hn0 : (List.range n.toNatClampNeg)[k9]? = none := List.getElem?_eq_none (by rw [List.length_range]; omega)
        rw [hn0] at hx
        cases hx
    refine ⟨fun i j x y hi hj hxy => ?_, fun k9 x hx => ?_⟩
    · by_cases h1 : i < W1.length <;> by_cases h2 : j < W1.length
      · rw [List.getElem?_append_left h1] at hi
        rw [List.getElem?_append_left h2] at hj
        exact hD1.1 i j x y hi hj hxy
      · rw [List.getElem?_append_left h1] at hi
        rw [List.getElem?_append_right (by omega)] at hj
        have := hle _ _ hi
        have := hr _ _ hj
        omega
      · rw [List.getElem?_append_right (by omega)] at hi
        rw [List.getElem?_append_left h2] at hj
        have := hle _ _ hj
        have := hr _ _ hi
        omega
      · rw [List.getElem?_append_right (by omega)] at hi hj
        have := hr _ _ hi
        have := hr _ _ hj
        omega
    · by_cases h1 : k9 < W1.length
      · rw [List.getElem?_append_left h1] at hx
        exact hD1.2 k9 x hx
      · rw [List.getElem?_append_right (by omega)] at hx
        have := hr _ _ hx
        exact hA _ (by have := hS.1; omega)
  have hAr : ArrOfT s cA (.array ty) := fun N9 z9 => by
    obtain ⟨-, k9, hk9, cm9, hkk9⟩ := (hO 0 0 0).1
    exact ⟨(fun q hq => by cases hq), k9, hk9, cm9, hkk9⟩
  have hK2 : va_K D cl (tys ++ [(cA, .array ty)]) s := ⟨hK.1, fun k9 x hx => by
    by_cases hl : k9 < tys.length
    · rw [List.getElem?_append_left hl] at hx
      exact hK.2 k9 x hx
    · rw [List.getElem?_append_right (by omega)] at hx
      have h0 : k9 - tys.length < 1 := (List.getElem?_eq_some_iff.mp hx).1
      rw [show k9 - tys.length = 0 by omega] at hx
      cases hx
      exact ⟨hAr, fA⟩⟩
  obtain ⟨t, a1, b1⟩ := kk H.size (fun i => H.size + 1 + i) cA F.heap (fun i j _ _ h => by have h9 : H.size + 1 + i = H.size + 1 + j := h; omega) hnl hK2 (by rw [← vr_rows hnm]; exact vr_lay hP2) (by rw [← vr_rows hnm]; exact vr_layD hD2) ⟨by rw [f1]; have := hS.1; omega, fun x h1 h2 => (hold x (Nat.lt_of_lt_of_le h1 hS.1)).trans (hS.2.1 x h1 h2), hS.2.2⟩ F rfl X'
  refine ⟨t, step t ?_, b1⟩
  have e : T.heap.size = H.size := by rw [hT]
  rw [e]
  exact a1
end VGM
/-! ===== END ===== -/

/-! ===== BEGIN exceptions that leave a method, and their catching by the caller (launches without stack traces) ===== -/
section VXA
/-! The laws vx_back, vx_callV, vx_callS, vx_callSW, vx_throw0, vx_throwS follow proofs of the library, with one case more: JvmDerived/Free/Laws.lean (Back.of_free), Shelf42/LK1.lean (callV, callS), Shelf/KitTraced.lean (throwNew0V, throwNewS). -/
/-- where a method has thrown q: the class by its name, the cell, what was written, the world -/
def vx_T (XC : String → State → State → Prop) (st : State) (q : Addr) (t : State) (mc ms : Nat) (free : Addr → Prop) : Prop :=
  ∃ (E : String) (ce : Cell) (L : List Loc), XC E st t ∧ t.heap[q]? = some ce ∧ ce.vm = .none ∧ st.vm.findClass E = some ce.cls ∧ st.WarmedH t.vm ∧ st.sameButNew ({ t with vm := st.vm } : State) L mc ms ∧ ∀ z ∈ L, free z.base
def vx_Q (Qc : Array Value → State → Outcome → State → Prop) (XC : String → State → State → Prop) (mc ms : Nat) (free : Addr → Prop) : Array Value → State → Outcome → State → Prop := fun a st o t =>
  (Qc a st o t ∧ ∃ L, FrameEnd st o t L mc ms ∧ ∀ q ∈ L, free q.base) ∨ ∃ q, o = .threw q ∧ vx_T XC st q t mc ms free
/-- a callee that returns or throws -/
def vx_Met (l : Launch) (y : MethodName) (ws : List Cond) (rm : Room) (Pc : Array Value → State → Prop) (Qc : Array Value → State → Outcome → State → Prop) (XC : String → State → State → Prop) (mc ms : Nat) (free : Addr → Prop) : Prop :=
  MetFree l y (headSpec ws rm) Pc (fun _ _ _ _ _ => True) (vx_Q Qc XC mc ms free)
def vx_Post (XC : String → State → State → Prop) (mc ms : Nat) (free : Addr → Prop) : Pt → Array Value → Addr → Pt → Prop := fun A a q B =>
  ∃ (g : JFrame) (mk : MethodId) (t : State) (L : List Loc) (E : String) (ce : Cell), B.U.heap = t.heap ∧ B.U.vm = t.vm ∧ XC E (A.U.calling g mk a) t ∧ t.heap[q]? = some ce ∧ ce.vm = .none ∧ A.U.vm.findClass E = some ce.cls ∧ B.locs = A.locs ++ L ∧ (∀ z ∈ L, free z.base) ∧ B.cells = A.cells + mc ∧ B.slots = A.slots + ms
def vx_Back (l : Launch) (R : Room) (p : Program) (e : Env) (below : List Frame) (s : State) (sargs : Array Value) (y : MethodName) (len W9 : Nat)
    (Pre : Pt → Array Value → Prop) (Post : Pt → Array Value → Option Value → Pt → Prop) (PostX : Pt → Array Value → Addr → Pt → Prop) : Prop :=
  ∀ (m : MethodId) (meth : Method) (c : Code) (A : Pt) (g : JFrame) (ig : Instr) (mk : MethodId) (a : Array Value),
    Stand p l e R s m sargs below meth c A.U A.locs A.cells A.slots → g.method = m → g.locals.size = c.maxLocals → decode c.code g.pc = .ok (ig, len) →
    2 * g.monitorRoom + (g.stack.map fun v => v.category).sum ≤ W9 → A.U.methodNamed? y = some mk → Pre A a →
    (∃ (v : Option Value) (B : Pt), Stand p l e R s m sargs below meth c B.U B.locs B.cells B.slots ∧ Post A a v B ∧
      Steps p.tables e below (doInvoke e (A.U.setTop g) [] mk a).1 (B.U.setTop { g with pc := g.pc + len, stack := v.toList ++ g.stack })) ∨
    (∃ (q : Addr) (B : Pt), Stand p l e R s m sargs below meth c B.U B.locs B.cells B.slots ∧ PostX A a q B ∧
      Steps p.tables e below (doInvoke e (A.U.setTop g) [] mk a).1 ((B.U.setTop g).pushFrame (.throwing q)))
section Payer
variable {l : Launch} {R : Room} {p : Program} {e : Env} {below : List Frame} {s : State} {sargs : Array Value} {y : MethodName} {len W9 : Nat}
theorem vx_back {ws : List Cond} {rm : Room} {Pc : Array Value → State → Prop} {Qc : Array Value → State → Outcome → State → Prop} {XC : String → State → State → Prop} {mc ms : Nat} {free : Addr → Prop} {bytes : ByteArray} {maxL : Nat} {ret : Option FieldType}
    (hM : vx_Met l y ws rm Pc Qc XC mc ms free) (hblind : FrameBlind Pc) (hrc : rm.cells = mc) (hrs : rm.slots = ms)
    (hframes : rm.frames + 1 ≤ R.frames) (hlocals : W9 + (maxL + 11) + rm.locals ≤ R.locals)
    (hws : ∀ w ∈ ws, ∀ a' U, s.WarmedH U.vm → w.before a' U = true) (hcode : Cond.code y bytes maxL ret ∈ ws) (hinit : ∀ a' U, s.WarmedH U.vm → (Cond.initialized y.cls).before a' U = true) :
    vx_Back l R p e below s sargs y len W9 (PreOf R mc ms Pc) (PostOf Qc mc ms free) (vx_Post XC mc ms free) := by
  intro m meth c A g ig mk a X hg hsize hdg hW hn hp
  have h1 : (headSpec ws rm).pre.before a A.U = true := atoms_intro fun w hw => hws w hw _ _ X.warmed
  have h2 : (Cond.code y bytes maxL ret).before a A.U = true := hws _ hcode _ _ X.warmed
  have h3 : (Cond.initialized y.cls).before a A.U = true := hinit _ _ X.warmed
  have h4 : A.cells + (headSpec ws rm).room.cells ≤ R.cells := by rw [show (headSpec ws rm).room.cells = mc from hrc]; exact hp.1
  have h5 : A.slots + (headSpec ws rm).room.slots ≤ R.slots := by rw [show (headSpec ws rm).room.slots = ms from hrs]; exact hp.2.1
  have hPc : Pc a (A.U.calling g mk a) := hblind _ _ _ _ hp.2.2
  obtain ⟨U, Ls, c0, s0⟩ := A
  dsimp only [Pt.U, Pt.locs, Pt.cells, Pt.slots] at h1 h2 h3 h4 h5 X hn hPc ⊢
  obtain ⟨methY, cY, hmY, hcY, -, hlY, -, -, -, -⟩ := Cond.code_spec hn h2
  obtain ⟨kY, hkY, -⟩ := className_of_methodNamed hn
  have hinitY : kY.init = .initialized := Cond.initialized_spec (findClass_of_methodNamed hn) hkY h3
  have h : At U g.method c below := by rw [hg]; exact X.here
  have hlocals9 : W9 + (maxL + 11) + (headSpec ws rm).room.locals ≤ R.locals := hlocals
  have happ : (headSpec ws rm).appliesLoose y e.platform (U.calling g mk a) = true :=
    Spec.appliesLoose_calling (g := g) h hdg hn hkY hinitY
      (X.room_calling (g := g) (R' := (headSpec ws rm).room) hsize hmY hcY hframes (by rw [hlY]; omega) h4 h5) h1
  obtain ⟨mid, hmid⟩ := h.above
  have hfr : (U.setTop g).frames = (.java g :: mid) ++ below := by rw [State.frames_setTop' g h.top, hmid]; rfl
  obtain ⟨o, s₂, hsteps, -, hend, hq⟩ := Steps.callFree hM p X.admits X.cas X.clock (acts := []) hfr happ hPc trivial
  have hq' : vx_Q Qc XC mc ms free a (U.calling g mk a) o s₂ := hq
  rw [State.frames_setTop' g h.top] at hend
  obtain ⟨g₀, hg0⟩ := Option.isSome_iff_exists.mp h.top
  obtain ⟨r, hr⟩ := State.topJava?_eq_some.mp hg0
  have hr' : (({ U with heap := s₂.heap, slotsUsed := s₂.slotsUsed } : State).setVm s₂.vm).frames = .java g₀ :: r := hr
  rcases hq' with ⟨hqc, L, hfe, hL⟩ | ⟨q, rfl, E, ce, L, hx, hce, hcv, hcl, hW₂, hsm, hL⟩
  · obtain ⟨⟨v, rfl⟩, hW₂, e2, q2, q3, q4, q5, q6⟩ := id hfe
    have e3 : s₂ = ({ (U.calling g mk a).setFrames s₂.frames with heap := s₂.heap, slotsUsed := s₂.slotsUsed } : State).setVm s₂.vm := by
      have : s₂ = ({ s₂ with vm := (U.calling g mk a).vm } : State).setVm s₂.vm := rfl
      rw [e2] at this
      exact this
    obtain ⟨c₂, i₂, len₂, hc₂, hd₂, hf₂⟩ := hend
    have hW' : U.WarmedH s₂.vm := hW₂
    have hcc : c₂ = c := by
      have h1 : s₂.code? g.method = U.code? g.method := by
        rw [State.code?_eq, State.code?_eq, hW'.alike.method?]
      exact Option.some.inj (hc₂.symm.trans (h1.trans h.code))
    subst hcc
    have hlen : len₂ = len := by rw [hdg] at hd₂; cases hd₂; rfl
    subst hlen
    have hs₂ : s₂ = (({ U with heap := s₂.heap, slotsUsed := s₂.slotsUsed } : State).setVm s₂.vm).setTop { g with pc := g.pc + len₂, stack := v.toList ++ g.stack } := by
      refine e3.trans ?_
      rw [hf₂, State.calling_eq h.top, State.setFrames_setFrames, State.setTop_of_frames _ hr', hr]
      rfl
    have hsame : U.sameButNew ({ U with heap := s₂.heap, slotsUsed := s₂.slotsUsed } : State) L mc ms := by
      refine ⟨?_, q2, q3, q4, q5, q6⟩
      obtain ⟨t, ht, -⟩ := State.frames_cons hr
      show ({ U with heap := s₂.heap, slotsUsed := s₂.slotsUsed } : State) = { U.setFrames U.frames with heap := s₂.heap, slotsUsed := s₂.slotsUsed }
      rw [State.setFrames_self ht]
    subst hg
    refine Or.inl ⟨v, ⟨(({ U with heap := s₂.heap, slotsUsed := s₂.slotsUsed } : State).setVm s₂.vm), Ls ++ L, c0 + mc, s0 + ms⟩,
      ⟨X.admits, X.cas, X.clock, X.frames, X.room, X.hears, X.method, X.code, (X.here.setHeapUsed s₂.heap s₂.slotsUsed).setVm hW'.alike, X.tail, State.WarmedH.trans X.warmed hW', X.limits, X.bytes, X.same.trans (hsame.setVm s.vm)⟩,
      ⟨g, mk, s₂, L, rfl, rfl, hqc, rfl, hL, rfl, rfl⟩, ?_⟩
    show Steps p.tables e below _ ((({ U with heap := s₂.heap, slotsUsed := s₂.slotsUsed } : State).setVm s₂.vm).setTop { g with pc := g.pc + len₂, stack := v.toList ++ g.stack })
    rw [← hs₂]
    exact hsteps
  · obtain ⟨e2, q2, q3, q4, q5, q6⟩ := id hsm
    have e3 : s₂ = ({ (U.calling g mk a).setFrames s₂.frames with heap := s₂.heap, slotsUsed := s₂.slotsUsed } : State).setVm s₂.vm := by
      have : s₂ = ({ s₂ with vm := (U.calling g mk a).vm } : State).setVm s₂.vm := rfl
      rw [e2] at this
      exact this
    have hf₂ : s₂.frames = .throwing q :: .java g :: U.frames.tail := hend
    have hW' : U.WarmedH s₂.vm := hW₂
    have hs₂ : s₂ = ((({ U with heap := s₂.heap, slotsUsed := s₂.slotsUsed } : State).setVm s₂.vm).setTop g).pushFrame (.throwing q) := by
      refine e3.trans ?_
      rw [hf₂, State.calling_eq h.top, State.setFrames_setFrames, State.pushFrame, State.frames_setTop _ hr', State.setTop_of_frames _ hr', State.setFrames_setFrames, hr]
      rfl
    have hsame : U.sameButNew ({ U with heap := s₂.heap, slotsUsed := s₂.slotsUsed } : State) L mc ms := by
      refine ⟨?_, q2, q3, q4, q5, q6⟩
      obtain ⟨t, ht, -⟩ := State.frames_cons hr
      show ({ U with heap := s₂.heap, slotsUsed := s₂.slotsUsed } : State) = { U.setFrames U.frames with heap := s₂.heap, slotsUsed := s₂.slotsUsed }
      rw [State.setFrames_self ht]
    subst hg
    refine Or.inr ⟨q, ⟨(({ U with heap := s₂.heap, slotsUsed := s₂.slotsUsed } : State).setVm s₂.vm), Ls ++ L, c0 + mc, s0 + ms⟩,
      ⟨X.admits, X.cas, X.clock, X.frames, X.room, X.hears, X.method, X.code, (X.here.setHeapUsed s₂.heap s₂.slotsUsed).setVm hW'.alike, X.tail, State.WarmedH.trans X.warmed hW', X.limits, X.bytes, X.same.trans (hsame.setVm s.vm)⟩,
      ⟨g, mk, s₂, L, E, ce, rfl, rfl, hx, hce, hcv, hcl, rfl, hL, rfl, rfl⟩, ?_⟩
    show Steps p.tables e below _ (((({ U with heap := s₂.heap, slotsUsed := s₂.slotsUsed } : State).setVm s₂.vm).setTop g).pushFrame (.throwing q))
    rw [← hs₂]
    exact hsteps
end Payer
section Calls
variable {p : Program} {l : Launch} {e : Env} {R : Room} {s : State} {m : MethodId} {args : Array Value} {below : List Frame} {meth : Method} {c : Code} {T : State} {locs : List Loc} {cells slots : Nat}
theorem vx_callV (X : Stand p l e R s m args below meth c T locs cells slots) (hexec : p.tables.exec = Jvm.exec) {own C : String} {index : Nat} {y : MethodName} {bytes : ByteArray} {maxL : Nat} {ret : Option FieldType}
    (hown : s.vm.findClass own = some m.cls) (hlink : (Cond.methodLink own index y).before args s = true) (hinst : (Cond.instanceMethod y).before args s = true) (hsel : (Cond.selects C y y).before args s = true)
    (hcode : (Cond.code y bytes maxL ret).before args s = true) (hy : y.cls ≠ "java/lang/invoke/MethodHandle" ∧ y.cls ≠ "java/lang/invoke/VarHandle")
    {W9 : Nat} {Pre : Pt → Array Value → Prop} {Post : Pt → Array Value → Option Value → Pt → Prop} {PostX : Pt → Array Value → Addr → Pt → Prop} (hK : vx_Back l R p e below s args y 3 W9 Pre Post PostX)
    {b : Addr} {cellB : Cell} (hcell : T.heap[b]? = some cellB) (hobj : cellB.vm.isStatics = false) (hcls : s.vm.findClass C = some cellB.cls)
    {g : JFrame} (hg : g.method = m) (hsize : g.locals.size = c.maxLocals) {argsL rest : List Value} (hlen : ∀ sig, parseMethodDescriptor y.desc = some sig → argsL.length = sig.parameters.length)
    (hstack : g.stack = argsL.reverse ++ .ref b :: rest) (hW : 2 * g.monitorRoom + (rest.map fun v => v.category).sum ≤ W9) (hdg : decode c.code g.pc = .ok (.invokevirtual index, 3))
    (hpre : ∀ vm₁, s.WarmedH vm₁ → Pre ⟨T.setVm vm₁, locs, cells, slots⟩ (Value.ref b :: argsL).toArray) :
    (∃ (v : Option Value) (vm₁ : Vm) (B : Pt), s.WarmedH vm₁ ∧ Stand p l e R s m args below meth c B.U B.locs B.cells B.slots ∧ Post ⟨T.setVm vm₁, locs, cells, slots⟩ (Value.ref b :: argsL).toArray v B ∧
      ∀ target, Steps p.tables e below (B.U.setTop { g with pc := g.pc + 3, stack := v.toList ++ rest }) target → Steps p.tables e below (T.setTop g) target) ∨
    (∃ (q : Addr) (vm₁ : Vm) (B : Pt), s.WarmedH vm₁ ∧ Stand p l e R s m args below meth c B.U B.locs B.cells B.slots ∧ PostX ⟨T.setVm vm₁, locs, cells, slots⟩ (Value.ref b :: argsL).toArray q B ∧
      Steps p.tables e below (T.setTop g) ((B.U.setTop { g with stack := rest }).pushFrame (.throwing q))) := by
  obtain ⟨mk, methM, hnamed, hmethM, hstM, habM⟩ := Cond.instanceMethod_spec hinst
  obtain ⟨methM', cM, hmethM', -, -, -, -, -, -, hsigM⟩ := Cond.code_spec hnamed hcode
  cases hmethM.symm.trans hmethM'
  obtain ⟨c2, r2, m2, q1, q2, q3, q4, kP, hkP, hkPi⟩ := Cond.selects_spec hsel
  cases hcls.symm.trans q1
  cases (State.methodFound?_of_named hnamed hy).symm.trans q2
  cases hnamed.symm.trans q3
  have hselP : selectMethod e.platform s.vm cellB.cls mk = .method mk := by rw [Launch.admits_selectMethod X.admits]; exact q4
  obtain ⟨vm₁, X₁, hstep₁⟩ := X.invokevirtual hexec hown hlink hnamed hmethM hstM hkP hkPi hy (a := b) (cell := cellB) hcell
    (fun z h => by rw [h] at hobj; cases hobj) hselP hmethM habM hkP hkPi (g := g) hg (argsL := argsL) (rest := rest) (hlen _ hsigM) hstack hdg
  rcases hK m meth c ⟨T.setVm vm₁, locs, cells, slots⟩ { g with stack := rest } (.invokevirtual index) mk (Value.ref b :: argsL).toArray X₁ hg hsize hdg hW (X₁.named hnamed) (hpre vm₁ X₁.warmed) with ⟨v, B, X', hpost, hsteps⟩ | ⟨q, B, X', hpost, hsteps⟩
  · exact Or.inl ⟨v, vm₁, B, X₁.warmed, X', hpost, fun target h => hstep₁ _ fun acts => by rw [doInvoke_state]; exact hsteps.trans h⟩
  · exact Or.inr ⟨q, vm₁, B, X₁.warmed, X', hpost, hstep₁ _ fun acts => by rw [doInvoke_state]; exact hsteps⟩
theorem vx_callS (X : Stand p l e R s m args below meth c T locs cells slots) (hexec : p.tables.exec = Jvm.exec) {own : String} {index : Nat} {y : MethodName} {bytes : ByteArray} {maxL : Nat} {ret : Option FieldType}
    (hown : s.vm.findClass own = some m.cls) (hlink : (Cond.methodLink own index y).before args s = true) (hstat : (Cond.static y).before args s = true) (hinit : (Cond.initialized y.cls).before args s = true)
    (hcode : (Cond.code y bytes maxL ret).before args s = true) (hy : y.cls ≠ "java/lang/invoke/MethodHandle" ∧ y.cls ≠ "java/lang/invoke/VarHandle")
    {W9 : Nat} {Pre : Pt → Array Value → Prop} {Post : Pt → Array Value → Option Value → Pt → Prop} {PostX : Pt → Array Value → Addr → Pt → Prop} (hK : vx_Back l R p e below s args y 3 W9 Pre Post PostX)
    {g : JFrame} (hg : g.method = m) (hsize : g.locals.size = c.maxLocals) {argsL rest : List Value} (hlen : ∀ sig, parseMethodDescriptor y.desc = some sig → argsL.length = sig.parameters.length)
    (hstack : g.stack = argsL.reverse ++ rest) (hW : 2 * g.monitorRoom + (rest.map fun v => v.category).sum ≤ W9) (hdg : decode c.code g.pc = .ok (.invokestatic index, 3))
    (hpre : ∀ vm₁, s.WarmedH vm₁ → Pre ⟨T.setVm vm₁, locs, cells, slots⟩ argsL.toArray) :
    (∃ (v : Option Value) (vm₁ : Vm) (B : Pt), s.WarmedH vm₁ ∧ Stand p l e R s m args below meth c B.U B.locs B.cells B.slots ∧ Post ⟨T.setVm vm₁, locs, cells, slots⟩ argsL.toArray v B ∧
      ∀ target, Steps p.tables e below (B.U.setTop { g with pc := g.pc + 3, stack := v.toList ++ rest }) target → Steps p.tables e below (T.setTop g) target) ∨
    (∃ (q : Addr) (vm₁ : Vm) (B : Pt), s.WarmedH vm₁ ∧ Stand p l e R s m args below meth c B.U B.locs B.cells B.slots ∧ PostX ⟨T.setVm vm₁, locs, cells, slots⟩ argsL.toArray q B ∧
      Steps p.tables e below (T.setTop g) ((B.U.setTop { g with stack := rest }).pushFrame (.throwing q))) := by
  obtain ⟨mk, hnamed⟩ := Cond.code_named hcode
  obtain ⟨methM, cM, hmethM, -, -, -, -, -, -, hsigM⟩ := Cond.code_spec hnamed hcode
  have hstatic : methM.isStatic = true := Cond.static_spec hnamed hmethM hstat
  obtain ⟨kP, hkP, -⟩ := className_of_methodNamed hnamed
  have hinitP : kP.init = .initialized := Cond.initialized_spec (findClass_of_methodNamed hnamed) hkP hinit
  obtain ⟨vm₁, X₁, hstep₁⟩ := X.invokestatic hexec hown hlink hnamed hmethM hstatic hkP hinitP hy (g := g) hg (argsL := argsL) (rest := rest) (hlen _ hsigM) hstack hdg
  rcases hK m meth c ⟨T.setVm vm₁, locs, cells, slots⟩ { g with stack := rest } (.invokestatic index) mk argsL.toArray X₁ hg hsize hdg hW (X₁.named hnamed) (hpre vm₁ X₁.warmed) with ⟨v, B, X', hpost, hsteps⟩ | ⟨q, B, X', hpost, hsteps⟩
  · exact Or.inl ⟨v, vm₁, B, X₁.warmed, X', hpost, fun target h => hstep₁ _ fun acts => by rw [doInvoke_state]; exact hsteps.trans h⟩
  · exact Or.inr ⟨q, vm₁, B, X₁.warmed, X', hpost, hstep₁ _ fun acts => by rw [doInvoke_state]; exact hsteps⟩
end Calls
theorem vx_cls {s : State} {T : State} {vm₁ : Vm} {E : String} {k : ClassId} (hW : s.WarmedH vm₁) (h : (T.setVm vm₁).vm.findClass E = some k) : s.vm.findClass E = some k := by
  have h1 : vm₁.findClass E = some k := h
  rw [hW.alike.findClass] at h1
  exact h1
/-- the method's frame g, with q thrown over it -/
def vx_W (p : Program) (l : Launch) (e : Env) (R : Room) (s : State) (m : MethodId) (args : Array Value) (below : List Frame) (meth : Method) (c : Code) (H : Heap) (locs : List Loc) (cells slots : Nat) (Q : State → Prop) (g : JFrame) (q : Addr) : Prop :=
  ∀ T : State, T.heap = H → Stand p l e R s m args below meth c T locs cells slots → ∃ t, Steps p.tables e below ((T.setTop g).pushFrame (.throwing q)) t ∧ Q t
def vx_Run (p : Program) (l : Launch) (e : Env) (R : Room) (s : State) (m : MethodId) (args : Array Value) (below : List Frame) (meth : Method) (c : Code) (H : Heap) (locs : List Loc) (cells slots mc ms : Nat) (g : JFrame) (rest : List Value) (Qa : State → Outcome → State → Prop) (XC : String → State → State → Prop) (free : Addr → Prop) : Prop :=
  ∀ T : State, T.heap = H → Stand p l e R s m args below meth c T locs cells slots →
    (∃ (v : Option Value) (st₀ t T' : State) (L : List Loc), st₀.heap = H ∧ Stand p l e R s m args below meth c T' (locs ++ L) (cells + mc) (slots + ms) ∧ (∀ q ∈ L, free q.base) ∧ T'.heap = t.heap ∧ T'.vm = t.vm ∧ Qa st₀ (.returned v) t ∧
      Goes p e below T g T' { g with pc := g.pc + 3, stack := v.toList ++ rest }) ∨
    (∃ (q : Addr) (st₀ t T' : State) (L : List Loc) (E : String) (ce : Cell), st₀.heap = H ∧ Stand p l e R s m args below meth c T' (locs ++ L) (cells + mc) (slots + ms) ∧ (∀ z ∈ L, free z.base) ∧ T'.heap = t.heap ∧ T'.vm = t.vm ∧ XC E st₀ t ∧ t.heap[q]? = some ce ∧ ce.vm = .none ∧ s.vm.findClass E = some ce.cls ∧
      Steps p.tables e below (T.setTop g) ((T'.setTop { g with stack := rest }).pushFrame (.throwing q)))
def vx_X {S : Type} (px : S → Prop) (B : String → S → State → Prop) (A : Nat → Prop) : String → State → State → Prop := fun E st t => ∃ u : S, px u ∧ B E u t ∧ va_F A st t
section Runs
variable {p : Program} {l : Launch} {e : Env} {R : Room} {s : State} {m : MethodId} {args : Array Value} {below : List Frame} {meth : Method} {c : Code} {H : Heap} {locs : List Loc} {cells slots : Nat}
variable {y : MethodName} {bytes cc : ByteArray} {maxL nL mc ms n index : Nat} {ret : Option FieldType} {ws : List Cond} {rm : Room} {Pc : Array Value → State → Prop} {Qc : Array Value → State → Outcome → State → Prop} {XC : String → State → State → Prop} {free : Addr → Prop} {Ts : List Cond} {own C : String} {b : Addr} {As rest : List Value} {g : JFrame}
theorem vx_callBack (cb : CallB R s args own index y bytes maxL ret ws rm mc ms n) (hM : vx_Met l y ws rm Pc Qc XC mc ms free) (hbl : FrameBlind Pc) : vx_Back l R p e below s args y 3 8 (PreOf R mc ms Pc) (PostOf Qc mc ms free) (vx_Post XC mc ms free) := by
  obtain ⟨hrc, hrs, hfr, hlo, hws, hcw, -, hini, -⟩ := cb
  exact vx_back (bytes := bytes) (maxL := maxL) (ret := ret) hM hbl hrc hrs hfr hlo hws hcw (fun a' U hW => word_at hW (Or.inl (by first | rfl | simp [Cond.onTables, Cond.keeps, Cond.steady])) hini)
theorem vx_runV (S : CallFix p m c cc nL s args Ts own) (hM : vx_Met l y ws rm Pc Qc XC mc ms free) (cw : CallW R s args own C index y bytes maxL ret ws rm mc ms n) (hp : PreV s H C b Pc As)
    (hg : g.method = m) (hn : As.length = n) (hsize : g.locals.size = nL) (hstack : g.stack = As.reverse ++ .ref b :: rest) (hW : 2 * g.monitorRoom + (rest.map fun v => v.category).sum ≤ 8) (hdg : decode cc g.pc = .ok (.invokevirtual index, 3)) (hf : cells + mc ≤ R.cells ∧ slots + ms ≤ R.slots) :
    vx_Run p l e R s m args below meth c H locs cells slots mc ms g rest (Qc (Value.ref b :: As).toArray) XC free := by
  have hK : vx_Back l R p e below s args y 3 8 (PreOf R mc ms Pc) (PostOf Qc mc ms free) (vx_Post XC mc ms free) := vx_callBack cw.1 hM hp.1
  obtain ⟨⟨-, -, -, -, -, -, hcode, -, hy, hlen, hl⟩, hin, hse⟩ := cw
  obtain ⟨hx, hb, hml, ho, -⟩ := S
  obtain ⟨-, ⟨cellB, hcB, hoB, hclB⟩, hPc⟩ := hp
  intro T hT X
  rcases vx_callV X hx (C := C) (bytes := bytes) (maxL := maxL) (ret := ret) ho hl hin hse hcode hy hK (by rw [hT]; exact hcB) hoB hclB hg (hsize.trans hml.symm) (argsL := As) (rest := rest) (fun sig h => hn.trans (hlen sig h)) hstack hW (by rw [hb]; exact hdg)
    (fun vm₁ hW₁ => ⟨hf.1, hf.2, hPc (T.setVm vm₁) hT hW₁⟩) with ⟨v, vm₁, ⟨U', l2, c2, s2⟩, hW₁, X', ⟨g', mk, t, L, e1, e2, hq, h1, hL, h2, h3⟩, st⟩ | ⟨q, vm₁, ⟨U', l2, c2, s2⟩, hW₁, X', ⟨g', mk, t, L, E, ce, e1, e2, hq, hce, hcv, hcl, h1, hL, h2, h3⟩, st⟩
  · dsimp only [Pt.U, Pt.locs, Pt.cells, Pt.slots] at X' e1 e2 h1 h2 h3 st
    subst h1; subst h2; subst h3
    exact Or.inl ⟨v, (T.setVm vm₁).calling g' mk (Value.ref b :: As).toArray, t, U', L, hT, X', hL, e1, e2, hq, st⟩
  · dsimp only [Pt.U, Pt.locs, Pt.cells, Pt.slots] at X' e1 e2 h1 h2 h3 st hcl
    subst h1; subst h2; subst h3
    exact Or.inr ⟨q, (T.setVm vm₁).calling g' mk (Value.ref b :: As).toArray, t, U', L, E, ce, hT, X', hL, e1, e2, hq, hce, hcv, vx_cls hW₁ hcl, st⟩
theorem vx_runS (S : CallFix p m c cc nL s args Ts own) (hM : vx_Met l y ws rm Pc Qc XC mc ms free) (cw : CallB R s args own index y bytes maxL ret ws rm mc ms n ∧ (Cond.static y).before args s = true) (hp : PreS s H Pc As)
    (hg : g.method = m) (hn : As.length = n) (hsize : g.locals.size = nL) (hstack : g.stack = As.reverse ++ rest) (hW : 2 * g.monitorRoom + (rest.map fun v => v.category).sum ≤ 8) (hdg : decode cc g.pc = .ok (.invokestatic index, 3)) (hf : cells + mc ≤ R.cells ∧ slots + ms ≤ R.slots) :
    vx_Run p l e R s m args below meth c H locs cells slots mc ms g rest (Qc As.toArray) XC free := by
  have hK : vx_Back l R p e below s args y 3 8 (PreOf R mc ms Pc) (PostOf Qc mc ms free) (vx_Post XC mc ms free) := vx_callBack cw.1 hM hp.1
  obtain ⟨⟨-, -, -, -, -, -, hcode, hini, hy, hlen, hl⟩, hstt⟩ := cw
  obtain ⟨hx, hb, hml, ho, -⟩ := S
  intro T hT X
  rcases vx_callS X hx (bytes := bytes) (maxL := maxL) (ret := ret) ho hl hstt hini hcode hy hK hg (hsize.trans hml.symm) (argsL := As) (rest := rest) (fun sig h => hn.trans (hlen sig h)) hstack hW (by rw [hb]; exact hdg)
    (fun vm₁ hW₁ => ⟨hf.1, hf.2, hp.2 (T.setVm vm₁) hT hW₁⟩) with ⟨v, vm₁, ⟨U', l2, c2, s2⟩, hW₁, X', ⟨g', mk, t, L, e1, e2, hq, h1, hL, h2, h3⟩, st⟩ | ⟨q, vm₁, ⟨U', l2, c2, s2⟩, hW₁, X', ⟨g', mk, t, L, E, ce, e1, e2, hq, hce, hcv, hcl, h1, hL, h2, h3⟩, st⟩
  · dsimp only [Pt.U, Pt.locs, Pt.cells, Pt.slots] at X' e1 e2 h1 h2 h3 st
    subst h1; subst h2; subst h3
    exact Or.inl ⟨v, (T.setVm vm₁).calling g' mk As.toArray, t, U', L, hT, X', hL, e1, e2, hq, st⟩
  · dsimp only [Pt.U, Pt.locs, Pt.cells, Pt.slots] at X' e1 e2 h1 h2 h3 st hcl
    subst h1; subst h2; subst h3
    exact Or.inr ⟨q, (T.setVm vm₁).calling g' mk As.toArray, t, U', L, E, ce, hT, X', hL, e1, e2, hq, hce, hcv, vx_cls hW₁ hcl, st⟩
end Runs
section Rows
variable {p : Program} {l : Launch} {e : Env} {R : Room} {s : State} {m : MethodId} {args : Array Value} {below : List Frame} {meth : Method} {c : Code} {H : Heap} {locs : List Loc} {cells slots : Nat} {Q : State → Prop}
variable {mc ms : Nat} {free : Addr → Prop} {A0 A1 : Nat → Prop} {H0 : Heap} {a : Array Value} {pc : Nat} {ls : Array Slot} {st0 rest : List Value}
theorem vx_keep {st₀ t T' : State} {L : List Loc} (h0 : st₀.heap = H) (e1 : T'.heap = t.heap) (hS : va_S A0 H0 H locs) (hA : ∀ q, q < H.size → A1 q → A0 q) (hf : ∀ q, free q → A0 q) (hL : ∀ q ∈ L, free q.base) (hF : va_F A1 st₀ t) :
    H.size ≤ T'.heap.size ∧ (∀ q : Nat, q < H.size → ¬ A1 q → T'.heap[q]? = H[q]?) ∧ va_S A0 H0 T'.heap (locs ++ L) := by
  obtain ⟨hz, hk⟩ := hF
  rw [h0] at hz hk
  exact ⟨by rw [e1]; exact hz, fun q h1 h2 => by rw [e1]; exact hk q h1 h2,
    ⟨Nat.le_trans hS.1 (by rw [e1]; exact hz), fun q h1 h2 => by rw [e1, hk q (Nat.lt_of_lt_of_le h1 hS.1) (fun z => h2 (hA q (Nat.lt_of_lt_of_le h1 hS.1) z))]; exact hS.2.1 q h1 h2, fun q hq => by
      rcases List.mem_append.mp hq with h | h
      · exact hS.2.2 q h
      · exact hf _ (hL q h)⟩⟩
theorem vx_calli {S SX : Type} {post : Int32 → S → Prop} {px : SX → Prop} {B : S → State → Prop} {BX : String → SX → State → Prop} {AX : Nat → Prop} (hr : vx_Run p l e R s m args below meth c H locs cells slots mc ms (F0 m pc ls st0) rest (va_Qi post B A1 a) (vx_X px BX AX) free) (hS : va_S A0 H0 H locs) (hA : ∀ q, q < H.size → A1 q → A0 q) (hf : ∀ q, free q → A0 q) (hAX : ∀ q, q < H.size → AX q → A0 q)
    (kx : ∀ (E : String) (ce : Cell) (q9 : Addr) (u : SX) (t : State) (H1 : Heap) (locs1 : List Loc), t.heap = H1 → s.vm.Alike t.vm → px u → BX E u t → H.size ≤ H1.size → (∀ q : Nat, q < H.size → ¬ AX q → H1[q]? = H[q]?) → va_S A0 H0 H1 locs1 → H1[q9]? = some ce → ce.vm = .none → s.vm.findClass E = some ce.cls → vx_W p l e R s m args below meth c H1 locs1 (cells + mc) (slots + ms) Q (F0 m pc ls rest) q9)
    (kk : ∀ (r : Int32) (u : S) (t : State) (H1 : Heap) (locs1 : List Loc), t.heap = H1 → s.vm.Alike t.vm → post r u → B u t → H.size ≤ H1.size → (∀ q : Nat, q < H.size → ¬ A1 q → H1[q]? = H[q]?) → va_S A0 H0 H1 locs1 → W p l e R s m args below meth c H1 locs1 (cells + mc) (slots + ms) Q (F0 m (pc + 3) ls (.int r :: rest))) : W p l e R s m args below meth c H locs cells slots Q (F0 m pc ls st0) := by
  intro T hT X
  rcases hr T hT X with ⟨v, st₀, t, T', L, h0, X', hL, e1, e2, ⟨⟨r, u, hv, hp, hb⟩, hF⟩, st⟩ | ⟨q, st₀, t, T', L, E, ce, h0, X', hL, e1, e2, ⟨u, hp, hb, hF⟩, hce, hcv, hcl, st⟩
  · cases hv
    obtain ⟨k1, k2, k3⟩ := vx_keep h0 e1 hS hA hf hL hF
    obtain ⟨t2, a1, b1⟩ := kk r u t T'.heap (locs ++ L) e1.symm (by rw [← e2]; exact X'.warmed.alike) hp hb k1 k2 k3 T' rfl X'
    exact ⟨t2, st t2 a1, b1⟩
  · obtain ⟨k1, k2, k3⟩ := vx_keep h0 e1 hS hAX hf hL hF
    obtain ⟨t2, a1, b1⟩ := kx E ce q u t T'.heap (locs ++ L) e1.symm (by rw [← e2]; exact X'.warmed.alike) hp hb k1 k2 k3 (by rw [e1]; exact hce) hcv hcl T' rfl X'
    exact ⟨t2, st.trans a1, b1⟩
theorem vx_calll {S SX : Type} {post : Int64 → S → Prop} {px : SX → Prop} {B : S → State → Prop} {BX : String → SX → State → Prop} {AX : Nat → Prop} (hr : vx_Run p l e R s m args below meth c H locs cells slots mc ms (F0 m pc ls st0) rest (va_Ql post B A1 a) (vx_X px BX AX) free) (hS : va_S A0 H0 H locs) (hA : ∀ q, q < H.size → A1 q → A0 q) (hf : ∀ q, free q → A0 q) (hAX : ∀ q, q < H.size → AX q → A0 q)
    (kx : ∀ (E : String) (ce : Cell) (q9 : Addr) (u : SX) (t : State) (H1 : Heap) (locs1 : List Loc), t.heap = H1 → s.vm.Alike t.vm → px u → BX E u t → H.size ≤ H1.size → (∀ q : Nat, q < H.size → ¬ AX q → H1[q]? = H[q]?) → va_S A0 H0 H1 locs1 → H1[q9]? = some ce → ce.vm = .none → s.vm.findClass E = some ce.cls → vx_W p l e R s m args below meth c H1 locs1 (cells + mc) (slots + ms) Q (F0 m pc ls rest) q9)
    (kk : ∀ (r : Int64) (u : S) (t : State) (H1 : Heap) (locs1 : List Loc), t.heap = H1 → s.vm.Alike t.vm → post r u → B u t → H.size ≤ H1.size → (∀ q : Nat, q < H.size → ¬ A1 q → H1[q]? = H[q]?) → va_S A0 H0 H1 locs1 → W p l e R s m args below meth c H1 locs1 (cells + mc) (slots + ms) Q (F0 m (pc + 3) ls (.long r :: rest))) : W p l e R s m args below meth c H locs cells slots Q (F0 m pc ls st0) := by
  intro T hT X
  rcases hr T hT X with ⟨v, st₀, t, T', L, h0, X', hL, e1, e2, ⟨⟨r, u, hv, hp, hb⟩, hF⟩, st⟩ | ⟨q, st₀, t, T', L, E, ce, h0, X', hL, e1, e2, ⟨u, hp, hb, hF⟩, hce, hcv, hcl, st⟩
  · cases hv
    obtain ⟨k1, k2, k3⟩ := vx_keep h0 e1 hS hA hf hL hF
    obtain ⟨t2, a1, b1⟩ := kk r u t T'.heap (locs ++ L) e1.symm (by rw [← e2]; exact X'.warmed.alike) hp hb k1 k2 k3 T' rfl X'
    exact ⟨t2, st t2 a1, b1⟩
  · obtain ⟨k1, k2, k3⟩ := vx_keep h0 e1 hS hAX hf hL hF
    obtain ⟨t2, a1, b1⟩ := kx E ce q u t T'.heap (locs ++ L) e1.symm (by rw [← e2]; exact X'.warmed.alike) hp hb k1 k2 k3 (by rw [e1]; exact hce) hcv hcl T' rfl X'
    exact ⟨t2, st.trans a1, b1⟩
theorem vx_callf {S SX : Type} {post : UInt32 → S → Prop} {px : SX → Prop} {B : S → State → Prop} {BX : String → SX → State → Prop} {AX : Nat → Prop} (hr : vx_Run p l e R s m args below meth c H locs cells slots mc ms (F0 m pc ls st0) rest (va_Qf post B A1 a) (vx_X px BX AX) free) (hS : va_S A0 H0 H locs) (hA : ∀ q, q < H.size → A1 q → A0 q) (hf : ∀ q, free q → A0 q) (hAX : ∀ q, q < H.size → AX q → A0 q)
    (kx : ∀ (E : String) (ce : Cell) (q9 : Addr) (u : SX) (t : State) (H1 : Heap) (locs1 : List Loc), t.heap = H1 → s.vm.Alike t.vm → px u → BX E u t → H.size ≤ H1.size → (∀ q : Nat, q < H.size → ¬ AX q → H1[q]? = H[q]?) → va_S A0 H0 H1 locs1 → H1[q9]? = some ce → ce.vm = .none → s.vm.findClass E = some ce.cls → vx_W p l e R s m args below meth c H1 locs1 (cells + mc) (slots + ms) Q (F0 m pc ls rest) q9)
    (kk : ∀ (r : UInt32) (u : S) (t : State) (H1 : Heap) (locs1 : List Loc), t.heap = H1 → s.vm.Alike t.vm → post r u → B u t → H.size ≤ H1.size → (∀ q : Nat, q < H.size → ¬ A1 q → H1[q]? = H[q]?) → va_S A0 H0 H1 locs1 → W p l e R s m args below meth c H1 locs1 (cells + mc) (slots + ms) Q (F0 m (pc + 3) ls (.float r :: rest))) : W p l e R s m args below meth c H locs cells slots Q (F0 m pc ls st0) := by
  intro T hT X
  rcases hr T hT X with ⟨v, st₀, t, T', L, h0, X', hL, e1, e2, ⟨⟨r, u, hv, hp, hb⟩, hF⟩, st⟩ | ⟨q, st₀, t, T', L, E, ce, h0, X', hL, e1, e2, ⟨u, hp, hb, hF⟩, hce, hcv, hcl, st⟩
  · cases hv
    obtain ⟨k1, k2, k3⟩ := vx_keep h0 e1 hS hA hf hL hF
    obtain ⟨t2, a1, b1⟩ := kk r u t T'.heap (locs ++ L) e1.symm (by rw [← e2]; exact X'.warmed.alike) hp hb k1 k2 k3 T' rfl X'
    exact ⟨t2, st t2 a1, b1⟩
  · obtain ⟨k1, k2, k3⟩ := vx_keep h0 e1 hS hAX hf hL hF
    obtain ⟨t2, a1, b1⟩ := kx E ce q u t T'.heap (locs ++ L) e1.symm (by rw [← e2]; exact X'.warmed.alike) hp hb k1 k2 k3 (by rw [e1]; exact hce) hcv hcl T' rfl X'
    exact ⟨t2, st.trans a1, b1⟩
theorem vx_calld {S SX : Type} {post : UInt64 → S → Prop} {px : SX → Prop} {B : S → State → Prop} {BX : String → SX → State → Prop} {AX : Nat → Prop} (hr : vx_Run p l e R s m args below meth c H locs cells slots mc ms (F0 m pc ls st0) rest (va_Qd post B A1 a) (vx_X px BX AX) free) (hS : va_S A0 H0 H locs) (hA : ∀ q, q < H.size → A1 q → A0 q) (hf : ∀ q, free q → A0 q) (hAX : ∀ q, q < H.size → AX q → A0 q)
    (kx : ∀ (E : String) (ce : Cell) (q9 : Addr) (u : SX) (t : State) (H1 : Heap) (locs1 : List Loc), t.heap = H1 → s.vm.Alike t.vm → px u → BX E u t → H.size ≤ H1.size → (∀ q : Nat, q < H.size → ¬ AX q → H1[q]? = H[q]?) → va_S A0 H0 H1 locs1 → H1[q9]? = some ce → ce.vm = .none → s.vm.findClass E = some ce.cls → vx_W p l e R s m args below meth c H1 locs1 (cells + mc) (slots + ms) Q (F0 m pc ls rest) q9)
    (kk : ∀ (r : UInt64) (u : S) (t : State) (H1 : Heap) (locs1 : List Loc), t.heap = H1 → s.vm.Alike t.vm → post r u → B u t → H.size ≤ H1.size → (∀ q : Nat, q < H.size → ¬ A1 q → H1[q]? = H[q]?) → va_S A0 H0 H1 locs1 → W p l e R s m args below meth c H1 locs1 (cells + mc) (slots + ms) Q (F0 m (pc + 3) ls (.double r :: rest))) : W p l e R s m args below meth c H locs cells slots Q (F0 m pc ls st0) := by
  intro T hT X
  rcases hr T hT X with ⟨v, st₀, t, T', L, h0, X', hL, e1, e2, ⟨⟨r, u, hv, hp, hb⟩, hF⟩, st⟩ | ⟨q, st₀, t, T', L, E, ce, h0, X', hL, e1, e2, ⟨u, hp, hb, hF⟩, hce, hcv, hcl, st⟩
  · cases hv
    obtain ⟨k1, k2, k3⟩ := vx_keep h0 e1 hS hA hf hL hF
    obtain ⟨t2, a1, b1⟩ := kk r u t T'.heap (locs ++ L) e1.symm (by rw [← e2]; exact X'.warmed.alike) hp hb k1 k2 k3 T' rfl X'
    exact ⟨t2, st t2 a1, b1⟩
  · obtain ⟨k1, k2, k3⟩ := vx_keep h0 e1 hS hAX hf hL hF
    obtain ⟨t2, a1, b1⟩ := kx E ce q u t T'.heap (locs ++ L) e1.symm (by rw [← e2]; exact X'.warmed.alike) hp hb k1 k2 k3 (by rw [e1]; exact hce) hcv hcl T' rfl X'
    exact ⟨t2, st.trans a1, b1⟩
theorem vx_callv {S SX : Type} {post : S → Prop} {px : SX → Prop} {B : S → State → Prop} {BX : String → SX → State → Prop} {AX : Nat → Prop} (hr : vx_Run p l e R s m args below meth c H locs cells slots mc ms (F0 m pc ls st0) rest (va_Qv post B A1 a) (vx_X px BX AX) free) (hS : va_S A0 H0 H locs) (hA : ∀ q, q < H.size → A1 q → A0 q) (hf : ∀ q, free q → A0 q) (hAX : ∀ q, q < H.size → AX q → A0 q)
    (kx : ∀ (E : String) (ce : Cell) (q9 : Addr) (u : SX) (t : State) (H1 : Heap) (locs1 : List Loc), t.heap = H1 → s.vm.Alike t.vm → px u → BX E u t → H.size ≤ H1.size → (∀ q : Nat, q < H.size → ¬ AX q → H1[q]? = H[q]?) → va_S A0 H0 H1 locs1 → H1[q9]? = some ce → ce.vm = .none → s.vm.findClass E = some ce.cls → vx_W p l e R s m args below meth c H1 locs1 (cells + mc) (slots + ms) Q (F0 m pc ls rest) q9)
    (kk : ∀ (u : S) (t : State) (H1 : Heap) (locs1 : List Loc), t.heap = H1 → s.vm.Alike t.vm → post u → B u t → H.size ≤ H1.size → (∀ q : Nat, q < H.size → ¬ A1 q → H1[q]? = H[q]?) → va_S A0 H0 H1 locs1 → W p l e R s m args below meth c H1 locs1 (cells + mc) (slots + ms) Q (F0 m (pc + 3) ls (rest))) : W p l e R s m args below meth c H locs cells slots Q (F0 m pc ls st0) := by
  intro T hT X
  rcases hr T hT X with ⟨v, st₀, t, T', L, h0, X', hL, e1, e2, ⟨⟨u, hv, hp, hb⟩, hF⟩, st⟩ | ⟨q, st₀, t, T', L, E, ce, h0, X', hL, e1, e2, ⟨u, hp, hb, hF⟩, hce, hcv, hcl, st⟩
  · cases hv
    obtain ⟨k1, k2, k3⟩ := vx_keep h0 e1 hS hA hf hL hF
    obtain ⟨t2, a1, b1⟩ := kk u t T'.heap (locs ++ L) e1.symm (by rw [← e2]; exact X'.warmed.alike) hp hb k1 k2 k3 T' rfl X'
    exact ⟨t2, st t2 a1, b1⟩
  · obtain ⟨k1, k2, k3⟩ := vx_keep h0 e1 hS hAX hf hL hF
    obtain ⟨t2, a1, b1⟩ := kx E ce q u t T'.heap (locs ++ L) e1.symm (by rw [← e2]; exact X'.warmed.alike) hp hb k1 k2 k3 (by rw [e1]; exact hce) hcv hcl T' rfl X'
    exact ⟨t2, st.trans a1, b1⟩
/-- caught by the row x of this method's table; the rows ahead don't take it -/
theorem vx_catch {own name : String} {E : String} {ce : Cell} {q : Addr} (hown : s.vm.findClass own = some m.cls) (pre : List ExceptionTableEntry) (x : ExceptionTableEntry) (suf : List ExceptionTableEntry) (hsplit : c.exceptionTable.toList = pre ++ x :: suf)
    (hpass : ∀ z ∈ pre, covers z pc = false ∨ (z.catchType ≠ 0 ∧ ∃ nm : String, (Cond.classLink own z.catchType nm).before args s = true ∧ va_Nc E nm s)) (hx : covers x pc = true) (h0 : x.catchType ≠ 0)
    (hlink : (Cond.classLink own x.catchType name).before args s = true) (hcast : (Cond.castable E name).before args s = true) (hcell : H[q]? = some ce) (hv : ce.vm = .none) (hcl : s.vm.findClass E = some ce.cls)
    (kk : W p l e R s m args below meth c H locs cells slots Q (F0 m x.handlerPc ls [.ref q])) : vx_W p l e R s m args below meth c H locs cells slots Q (F0 m pc ls rest) q := by
  intro T hT X
  have hpl : e.platform.magicAccessors = ({} : Platform).magicAccessors := by rw [X.admits.platform]
  obtain ⟨c3, c4, hc3, hc4, hasg⟩ := Cond.castable_spec hcast
  cases Option.some.inj (hc3.symm.trans hcl)
  obtain ⟨c5, hc5, hcl5⟩ := Cond.classLink_spec hown hlink e.platform hpl
  cases Option.some.inj (hc4.symm.trans hc5)
  obtain ⟨vm', X', st⟩ := X.thenCaughtThrough q (g := F0 m pc ls rest) rfl (Steps.refl _) (by rw [hT]; exact hcell) (by rw [hv]; rfl) (by obtain ⟨k9, h9, -⟩ := Vm.findClass_spec hcl; exact ⟨k9, h9⟩) pre x suf hsplit
    (fun z hz => by
      rcases hpass z hz with h | ⟨hz0, nm, hl1, hn1⟩
      · exact Or.inl h
      · obtain ⟨c6, hc6, hcl6⟩ := Cond.classLink_spec hown hl1 e.platform hpl
        obtain ⟨a8, b8, h1, h2, h3⟩ := hn1
        cases Option.some.inj (h1.symm.trans hcl)
        cases Option.some.inj (h2.symm.trans hc6)
        exact Or.inr ⟨hz0, _, hcl6, h3⟩) hx (Or.inr ⟨h0, c4, hcl5, hasg⟩)
  obtain ⟨t, a1, b1⟩ := kk (T.setVm vm') hT X'
  exact ⟨t, st.trans a1, b1⟩
end Rows
section Ends
variable {p : Program} {l : Launch} {e : Env} {R : Room} {s : State} {m : MethodId} {args : Array Value} {below : List Frame} {meth : Method} {c : Code} {H : Heap} {locs : List Loc} {cells slots : Nat} {Q : State → Prop}
variable {mc ms : Nat} {free : Addr → Prop} {A0 A1 : Nat → Prop} {H0 : Heap} {a : Array Value} {ls : Array Slot} {st0 rest : List Value}
variable {Qc : Array Value → State → Outcome → State → Prop} {XC : String → State → State → Prop}
/-- what a body that may throw owes at its end -/
def vx_MQ (below : List Frame) (Qc : Array Value → State → Outcome → State → Prop) (XC : String → State → State → Prop) (a : Array Value) (s : State) (mc ms : Nat) (free : Addr → Prop) : State → Prop := fun t =>
  ∃ o, t.status = .running ∧ Ended t below o ∧ vx_Q Qc XC mc ms free a s o t
theorem vx_ret {g : JFrame} {mc ms : Nat} (k : W p l e R s m args below meth c H locs cells slots (MQ below Qc args s mc ms free) g) : W p l e R s m args below meth c H locs cells slots (vx_MQ below Qc XC args s mc ms free) g := by
  intro T hT X
  obtain ⟨t, a1, o, b1, b2, b3, b4⟩ := k T hT X
  exact ⟨t, a1, o, b1, b2, Or.inl ⟨b3, b4⟩⟩
/-- not caught here: it goes on to the caller -/
theorem vx_widen {g : JFrame} {q : Addr} {k n : Nat} (h1 : cells ≤ k) (h2 : slots ≤ n) (kk : vx_W p l e R s m args below meth c H locs k n Q g q) : vx_W p l e R s m args below meth c H locs cells slots Q g q := fun T hT X => kk T hT (stand_widen X h1 h2)
theorem vx_out {pc : Nat} {E : String} {ce : Cell} {q : Addr} {mc ms : Nat} (hout : ∀ x ∈ c.exceptionTable.toList, covers x pc = false) (hlocks : meth.locks = false) (hcell : H[q]? = some ce) (hv : ce.vm = .none) (hcl : s.vm.findClass E = some ce.cls)
    (hx : ∀ t : State, t.heap = H → s.vm.Alike t.vm → XC E s t) (hf : ∀ z ∈ locs, free z.base) (hc : cells ≤ mc) (hs : slots ≤ ms) :
    vx_W p l e R s m args below meth c H locs cells slots (vx_MQ below Qc XC args s mc ms free) (F0 m pc ls rest) q := by
  intro T hT X
  obtain ⟨st1, hrun, hend, hW, hsm⟩ := X.leaveThrown q (g := F0 m pc ls rest) rfl rfl rfl hout hlocks
  have hcell9 : (T.setFrames (.throwing q :: below)).heap[q]? = some ce := by
    show T.heap[q]? = some ce
    rw [hT]; exact hcell
  exact ⟨_, st1, .threw q, hrun, hend, Or.inr ⟨q, rfl, E, ce, locs, hx _ hT hW.alike, hcell9, hv, hcl, hW, hsm.mono hc hs, hf⟩⟩
theorem vx_frame {U : State} {k n : Nat} (h : s.sameButNew ({ U with vm := s.vm } : State) locs k n) : s.heap.size ≤ U.heap.size ∧ ∀ q : Nat, q < s.heap.size → (∀ z ∈ locs, z.base ≠ q) → U.heap[q]? = s.heap[q]? := by
  obtain ⟨-, h2, -, -, -, h6⟩ := h
  refine ⟨h2, fun q hq hz => ?_⟩
  obtain ⟨c9, e1, e2, e3, e4⟩ := h6 q _ (Array.getElem?_eq_getElem hq)
  have hs : c9.slots = (s.heap[q]).slots := Array.ext_getElem? fun i => e4 i fun hm => hz _ hm rfl
  have h9 : c9 = s.heap[q] := by
    rw [hs] at e2
    exact e2
  have e5 : U.heap[q]? = some c9 := e1
  rw [e5, h9, Array.getElem?_eq_getElem hq]
/-- the words of a throw but the four that speak of the heap -/
def vx_no (w : Cond) : Bool := decide (w ≠ .isRef (.static Bundle.tN "UNASSIGNED_STACK" Bundle.steD)) && decide (w ≠ .isRef (.static Bundle.tN "SUPPRESSED_SENTINEL" Bundle.listD)) && decide (w ≠ .laysStatic Bundle.tN "UNASSIGNED_STACK" Bundle.steD) && decide (w ≠ .laysStatic Bundle.tN "SUPPRESSED_SENTINEL" Bundle.listD)
def vx_at0 (own : String) (ic : Nat) (X : String) (names : List String) : List Cond := (Bundle.ownAtoms0 own ic X names).filter vx_no
def vx_atS (own : String) (ic : Nat) (X : String) (names : List String) : List Cond := (Bundle.ownAtoms own ic X names).filter vx_no
/-- a word that the tables alone decide, or a good one -/
def vx_ot (w : Cond) : Bool := w.onTables || goodWord w
theorem vx_ot_at {args a' : Array Value} {s U : State} {w : Cond} (hW : s.WarmedH U.vm) (hvm : s.vm = U.vm) (hg : vx_ot w = true) (h : w.before args s = true) : w.before a' U = true := by
  simp only [vx_ot, Bool.or_eq_true] at hg
  rcases hg with hg | hg
  · exact va_tabs hg hvm h
  · exact word_at hW (good_of_word hg) h
/-- a list's words: the good ones out of the method's own list, the others by premises of their own -/
theorem vx_hat {args : Array Value} {s : State} {L B : List Cond} (h1 : ∀ w ∈ L.filter goodWord, w.before args s = true) (h2 : ∀ w ∈ L.filter (fun w => !goodWord w), w ∈ B) (h3 : ∀ w ∈ B, w.before args s = true) : ∀ w ∈ L, w.before args s = true := by
  intro w hw
  by_cases g : goodWord w = true
  · exact h1 w (List.mem_filter.mpr ⟨hw, g⟩)
  · refine h3 w (h2 w (List.mem_filter.mpr ⟨hw, ?_⟩))
    show (!goodWord w) = true
    cases hgw : goodWord w
    · rfl
    · exact absurd hgw g
theorem vx_c {args : Array Value} {s : State} {w : Cond} {B : List Cond} (h : w.before args s = true) (t : ∀ w ∈ B, w.before args s = true) : ∀ w' ∈ w :: B, w'.before args s = true := fun w' h' => (List.mem_cons.mp h').elim (fun e => by rw [e]; exact h) (t w')
theorem vx_n {args : Array Value} {s : State} : ∀ w ∈ ([] : List Cond), w.before args s = true := fun _ h => nomatch h
theorem vx_own {args : Array Value} {s : State} {L : List Cond} (h1 : ∀ w ∈ L.filter vx_no, w.before args s = true)
    (hU : (Cond.isRef (.static Bundle.tN "UNASSIGNED_STACK" Bundle.steD)).before args s = true) (hN : (Cond.isRef (.static Bundle.tN "SUPPRESSED_SENTINEL" Bundle.listD)).before args s = true)
    (lU : (Cond.laysStatic Bundle.tN "UNASSIGNED_STACK" Bundle.steD).before args s = true) (lN : (Cond.laysStatic Bundle.tN "SUPPRESSED_SENTINEL" Bundle.listD).before args s = true) : ∀ w ∈ L, w.before args s = true := by
  intro w hw
  by_cases e1 : w = .isRef (.static Bundle.tN "UNASSIGNED_STACK" Bundle.steD)
  · rw [e1]; exact hU
  · by_cases e2 : w = .isRef (.static Bundle.tN "SUPPRESSED_SENTINEL" Bundle.listD)
    · rw [e2]; exact hN
    · by_cases e3 : w = .laysStatic Bundle.tN "UNASSIGNED_STACK" Bundle.steD
      · rw [e3]; exact lU
      · by_cases e4 : w = .laysStatic Bundle.tN "SUPPRESSED_SENTINEL" Bundle.listD
        · rw [e4]; exact lN
        · exact h1 w (List.mem_filter.mpr ⟨hw, by unfold vx_no; rw [decide_eq_true e1, decide_eq_true e2, decide_eq_true e3, decide_eq_true e4]; rfl⟩)
/-- where a static field lies, its class's statics cell in H -/
def vx_L (C n d : String) (A : Nat → Prop) (U : State) (H : Heap) : Prop := ∃ (c : ClassId) (k : Class) (i : Nat) (f : Field) (a : Nat) (cell : Cell), U.vm.findClass C = some c ∧ U.fieldFound? C n d = some (c, k, i, f) ∧ f.isStatic = true ∧ k.statics = some a ∧ H[a]? = some cell ∧ cell.vm.isStatics = true ∧ cell.cls = c ∧ f.slot < cell.slots.size ∧ k.staticTypes[f.slot]? = some f.type ∧ ¬ A a
theorem vx_L.moved {C n d : String} {A : Nat → Prop} {u U : State} {H : Heap} (hvm : u.vm.Alike U.vm) (h : vx_L C n d A u H) : vx_L C n d A U H := by
  obtain ⟨c, k, i, f, a, cell, h1, h2, h3, h4, h5, h6, h7, h8, h9, h10⟩ := h
  obtain ⟨k', hi', he⟩ := State.fieldFound?_setVm hvm h2
  exact ⟨c, k', i, f, a, cell, by rw [hvm.findClass]; exact h1, hi', h3, by rw [he]; exact h4, h5, h6, h7, h8, by rw [he]; exact h9, h10⟩
theorem vx_L.kept {C n d : String} {A : Nat → Prop} {U : State} {H H1 : Heap} (h : vx_L C n d A U H) (hq : ∀ a : Nat, a < H.size → ¬ A a → H1[a]? = H[a]?) : vx_L C n d A U H1 := by
  obtain ⟨c, k, i, f, a, cell, h1, h2, h3, h4, h5, h6, h7, h8, h9, h10⟩ := h
  exact ⟨c, k, i, f, a, cell, h1, h2, h3, h4, by rw [hq a (Array.getElem?_eq_some_iff.mp h5).1 h10]; exact h5, h6, h7, h8, h9, h10⟩
theorem vx_L.narrow {C n d : String} {A B : Nat → Prop} {U : State} {H : Heap} (h : vx_L C n d A U H) (hAB : ∀ q, B q → A q) : vx_L C n d B U H := by
  obtain ⟨c, k, i, f, a, cell, h1, h2, h3, h4, h5, h6, h7, h8, h9, h10⟩ := h
  exact ⟨c, k, i, f, a, cell, h1, h2, h3, h4, h5, h6, h7, h8, h9, fun z => h10 (hAB _ z)⟩
theorem vx_L.word {C n d : String} {A : Nat → Prop} {s : State} {args : Array Value} (h : vx_L C n d A s s.heap) : (Cond.laysStatic C n d).before args s = true := by
  obtain ⟨c, k, i, f, a, cell, h1, h2, h3, h4, h5, h6, h7, h8, h9, -⟩ := h
  show (Cond.laysStatic C n d).holds args s none s [] = true
  exact Cond.laysStatic_of h1 h2 h3 h4 h5 h6 h7 h8 h9
/-- .. and what it holds: null or some reference -/
def vx_Zq (C n d : String) (A : Nat → Prop) (U : State) (H : Heap) : Prop := va_Zq C n d A U H ∧ vx_L C n d A U H
theorem vx_Zq.moved {C n d : String} {A : Nat → Prop} {u U : State} {H : Heap} (hvm : u.vm.Alike U.vm) (h : vx_Zq C n d A u H) : vx_Zq C n d A U H := ⟨va_Zq.moved hvm h.1, vx_L.moved hvm h.2⟩
theorem vx_Zq.kept {C n d : String} {A : Nat → Prop} {U : State} {H H1 : Heap} (h : vx_Zq C n d A U H) (hq : ∀ a : Nat, a < H.size → ¬ A a → H1[a]? = H[a]?) : vx_Zq C n d A U H1 := ⟨va_Zq.kept h.1 hq, vx_L.kept h.2 hq⟩
theorem vx_Zq.narrow {C n d : String} {A B : Nat → Prop} {U : State} {H : Heap} (h : vx_Zq C n d A U H) (hAB : ∀ q, B q → A q) : vx_Zq C n d B U H := ⟨va_Zq.narrow h.1 hAB, vx_L.narrow h.2 hAB⟩
theorem vx_Zqof {args : Array Value} {s : State} {C n d : String} {A : Nat → Prop} (hl : (Cond.laysStatic C n d).before args s = true) (hini : (Cond.initialized C).before args s = true) (h : (Cond.isRef (.static C n d)).before args s = true) (hA : ∀ a : Nat, a < s.heap.size → ¬ A a) : vx_Zq C n d A s s.heap := by
  refine ⟨va_Zqof hl hini h hA, ?_⟩
  obtain ⟨c, k, i, f, a, cell, h1, h2, h3, h4, h5, h6, h7, h8, h9⟩ := Cond.laysStatic_spec hl
  exact ⟨c, k, i, f, a, cell, h1, h2, h3, h4, h5, h6, h7, h8, h9, hA a (Array.getElem?_eq_some_iff.mp h5).1⟩
theorem vx_isRef {C n d : String} {v : Value} {A : Nat → Prop} {s : State} {args : Array Value} (h : va_Z C n d v A s s.heap) (hv : v.isRef = true) : (Cond.isRef (.static C n d)).before args s = true := by
  obtain ⟨cf, kf, fi, f, a, cell, h1, h2, h3, h4, h5, h6, h7, -⟩ := h
  have he : (Term.static C n d).eval args s none [] s = some v := by
    simp [Term.eval, State.fieldNamed?, h1, h2, h4, h5, h6, h7]
  simp only [Cond.before, Cond.holds, Cond.value, he]
  cases v <;> simp_all [Value.isRef]
theorem vx_isRefq {C n d : String} {A : Nat → Prop} {s : State} {args : Array Value} (h : va_Zq C n d A s s.heap) : (Cond.isRef (.static C n d)).before args s = true := by
  rcases h with h | ⟨t, h⟩
  · exact vx_isRef h rfl
  · exact vx_isRef h rfl
/-- the same frame, seen from here: as if the method were called anew in this heap -/
theorem vx_rebase {T : State} (X : Stand p l e R s m args below meth c T locs cells slots) {R' : Room} (hf : R'.frames ≤ R.frames) (hl : R'.locals ≤ R.locals) (hc : cells + R'.cells ≤ R.cells) (hs : slots + R'.slots ≤ R.slots) :
    Stand p l e R' ((T.setVm s.vm).setFrames (.invoking m args :: below)) m args below meth c T [] 0 0 := by
  have htop : (T.setVm s.vm).topJava?.isSome := X.here.top
  have hF : ((T.setVm s.vm).setFrames (.invoking m args :: below)).frames = .invoking m args :: below := State.frames_setFrames _ (State.cur_lt_of_top htop)
  obtain ⟨g₀, hg0⟩ := Option.isSome_iff_exists.mp htop
  obtain ⟨r, hr⟩ := State.topJava?_eq_some.mp hg0
  have hl9 : e.platform.stackLimits (T.setVm s.vm).me = e.platform.stackLimits s.me := X.limits
  have hb9 : (T.setVm s.vm).me.stackBytes = s.me.stackBytes := X.bytes
  refine ⟨X.admits, X.cas, X.clock, hF, ?_, X.hears, X.method, X.code, X.here, X.tail, X.warmed, ?_, ?_, ?_⟩
  · have h := X.room
    have hU : ((T.setVm s.vm).setFrames (.invoking m args :: below)).localsInUse = s.localsInUse := by
      rw [State.localsInUse_invoking hF (meth := meth) (c := c) X.method X.code, State.localsInUse_invoking X.frames X.method X.code]
    simp only [State.hasRoom, Bool.and_eq_true, decide_eq_true_eq] at h ⊢
    obtain ⟨⟨⟨⟨h1, h2, h3, h4, h5, h6⟩, h7⟩, h8⟩, h9⟩ := h
    rw [X.frames, List.length_cons] at h2 h3
    have q1 := X.heapSize
    have q2 := X.used
    simp only [hF, hU, List.length_cons, State.stackLimits_setFrames, State.stackBytes_setFrames, hl9, hb9]
    refine ⟨⟨⟨⟨by omega, by omega, by omega, by omega, by omega, h6⟩, ?_⟩, ?_⟩, X.book⟩
    · show T.heap.size + R'.cells ≤ e.platform.maxCells
      omega
    · show T.slotsUsed + R'.slots ≤ e.platform.maxSlots
      omega
  · rw [State.stackLimits_setFrames]; rfl
  · rw [State.stackBytes_setFrames]; rfl
  · refine ⟨?_, Nat.le_refl _, Nat.le_refl _, ?_, ?_, fun a c9 h9 => ⟨c9, h9, rfl, rfl, fun _ _ => rfl⟩⟩
    · obtain ⟨t, ht, -⟩ := State.frames_cons hr
      show T.setVm s.vm = { ((T.setVm s.vm).setFrames (.invoking m args :: below)).setFrames (T.setVm s.vm).frames with heap := T.heap, slotsUsed := T.slotsUsed }
      rw [State.setFrames_setFrames, State.setFrames_self ht]
      rfl
    · show T.slotsUsed = T.slotsUsed + ((T.heap.toList.drop T.heap.size).map (·.slots.size)).sum
      rw [List.drop_eq_nil_of_le (Nat.le_of_eq Array.length_toList)]
      rfl
    · show ((T.heap.toList.drop T.heap.size).map (·.slots.size)).sum ≤ 0
      rw [List.drop_eq_nil_of_le (Nat.le_of_eq Array.length_toList)]
      exact Nat.le_refl _
/-- 'throw new E()': new; dup; invokespecial; athrow -/
theorem vx_throw0 {cc : ByteArray} {pc : Nat} (hexec : p.tables.exec = Jvm.exec) (hb : c.code = cc) (hl : l.stackTraces = false) {own cls : String} {names : List String} {ik ic mc ms : Nat} {A : Nat → Prop}
    (hown : s.vm.findClass own = some m.cls) (hcls : Bundle.fit cls = true) (hnames : ∀ n ∈ names, Bundle.fit n = true)
    (hk : (Cond.classLink own ik cls).before args s = true) (hini : (Cond.initialized cls).before args s = true) (hat : ∀ w ∈ vx_at0 own ic cls names, w.before args s = true)
    (hgood : ∀ w ∈ Cond.classLink own ik cls :: Cond.initialized cls :: vx_at0 own ic cls names, vx_ot w = true)
    (hU : vx_Zq Bundle.tN "UNASSIGNED_STACK" Bundle.steD A s s.heap) (hN : vx_Zq Bundle.tN "SUPPRESSED_SENTINEL" Bundle.listD A s s.heap) (hS : va_S A s.heap H locs) (hsize : ls.size = c.maxLocals)
    (d0 : decode cc pc = .ok (.new ik, 3)) (d3 : decode cc (pc + 3) = .ok (.dup, 1)) (d4 : decode cc (pc + 4) = .ok (.invokespecial ic, 3)) (d7 : decode cc (pc + 7) = .ok (.athrow, 1))
    (hout : ∀ x ∈ c.exceptionTable.toList, covers x (pc + 7) = false)
    (hRframes : names.length + 3 < R.frames) (hRlocals : (rest.map fun v => v.category).sum + (13 * (names.length + 1) + 42) ≤ R.locals) (hRcells : cells + 1 ≤ R.cells) (hRslots : slots + 6 ≤ R.slots) (hlocks : meth.locks = false)
    (hx : ∀ t : State, s.vm.Alike t.vm → H.size ≤ t.heap.size → (∀ q : Nat, q < H.size → t.heap[q]? = H[q]?) → XC cls s t)
    (hf : ∀ z ∈ locs, free z.base) (hc : cells + 1 ≤ mc) (hs : slots + 6 ≤ ms) :
    W p l e R s m args below meth c H locs cells slots (vx_MQ below Qc XC args s mc ms free) (F0 m pc ls rest) := by
  intro T hT X
  have htr : e.platform.stackTraces = false := (show e.platform.stackTraces = l.stackTraces by rw [X.admits.platform]).trans hl
  have Y := vx_rebase X (R' := { frames := R.frames, locals := R.locals, cells := 1, slots := 6 }) (Nat.le_refl _) (Nat.le_refl _) hRcells hRslots
  obtain ⟨s', hA⟩ : ∃ z, z = (T.setVm s.vm).setFrames (.invoking m args :: below) := ⟨_, rfl⟩
  rw [← hA] at Y
  have hvm : s'.vm = s.vm := by rw [hA]; rfl
  have hhp : s'.heap = H := by rw [hA]; exact hT
  have hW0 : s.WarmedH s'.vm := by rw [hvm]; exact State.WarmedH.refl s
  have hat' : ∀ w ∈ vx_at0 own ic cls names, w.before args s' = true := fun w hw => vx_ot_at hW0 hvm.symm (hgood w (List.mem_cons_of_mem _ (List.mem_cons_of_mem _ hw))) (hat w hw)
  have hk' : (Cond.classLink own ik cls).before args s' = true := vx_ot_at hW0 hvm.symm (hgood _ List.mem_cons_self) hk
  have hini' : (Cond.initialized cls).before args s' = true := vx_ot_at hW0 hvm.symm (hgood _ (List.mem_cons_of_mem _ List.mem_cons_self)) hini
  have hU' : vx_Zq Bundle.tN "UNASSIGNED_STACK" Bundle.steD A s' s'.heap := by rw [hhp]; exact vx_Zq.moved hW0.alike (hU.kept hS.2.1)
  have hN' : vx_Zq Bundle.tN "SUPPRESSED_SENTINEL" Bundle.listD A s' s'.heap := by rw [hhp]; exact vx_Zq.moved hW0.alike (hN.kept hS.2.1)
  have h : ∀ w ∈ Bundle.ownAtoms0 own ic cls names, w.before args s' = true := vx_own hat' (vx_isRefq hU'.1) (vx_isRefq hN'.1) hU'.2.word hN'.2.word
  have hown' : s'.vm.findClass own = some m.cls := by rw [hvm]; exact hown
  have hins : (Cond.instantiable cls 6).before args s' = true := h _ (by simp [Bundle.ownAtoms0])
  obtain ⟨vm₁, cX, kX, hfX, hkX, -, -, X₁, st1⟩ := Y.newCold hexec (own := own) (C := cls) (index := ik) (n := 6) hown' hk' hins hini'
    (g := F0 m pc ls rest) rfl (by rw [hb]; exact d0) (Nat.le_refl _) (Nat.le_refl _)
  generalize hT1 : (T.setVm vm₁).pushCell { cls := cX, slots := kX.instanceTypes.map defaultValue, vm := .none } = T1 at X₁ st1
  have hcat : (Value.ref T.heap.size).category = 1 := rfl
  have hcellA : T1.heap[T.heap.size]? = some (freshCell cX kX) := by rw [← hT1]; exact State.heap_pushCell_size _ _
  have d3' : decode c.code (pc + 3) = .ok (.dup, 1) := by rw [hb]; exact d3
  obtain ⟨U, hsteps, hrun, hend, hW, hsame, ce, hce, hO⟩ := X₁.ctorThrow0 hexec htr (own := own) (cls := cls) (names := names) (ic := ic) hown' hcls hnames h (fun x hx => nomatch hx) hfX hkX hcellA (by rw [hhp, hT]; exact Nat.le_refl _)
    (g := { method := m, pc := pc + 4, locals := ls, stack := .ref T.heap.size :: .ref T.heap.size :: rest, locked := none }) rfl hsize rfl rfl (rest := rest) rfl
    (by rw [hb]; exact d4) (by rw [hb]; exact d7) hout hRframes (by simp only [List.map_cons, List.sum_cons, hcat]; omega) hlocks
  obtain ⟨f1, f2⟩ := vx_frame hsame
  rw [hhp] at f1 f2
  have hWs : s.WarmedH U.vm := State.WarmedH.trans hW0 hW
  have hcl : s.vm.findClass cls = some ce.cls := by
    have h9 := hO.cls
    rw [hvm] at h9
    exact h9
  have hall : s.sameButNew ({ U with vm := s.vm } : State) locs mc ms := by
    subst hA
    obtain ⟨e1, e2⟩ := hsame
    rw [State.setFrames_setFrames] at e1
    have h2 : (T.setVm s.vm).sameButNew ({ U with vm := s.vm } : State) [] (0 + 1) (0 + 6) := ⟨e1, e2⟩
    have h3 := X.same.trans h2
    rw [List.append_nil] at h3
    exact h3.mono hc hs
  refine ⟨U, ?_, .threw T.heap.size, hrun, hend, Or.inr ⟨T.heap.size, rfl, cls, ce, locs, hx U hWs.alike f1 (fun q hq => f2 q hq (fun z hz => nomatch hz)), hce, hO.vm, hcl, hWs, hall, hf⟩⟩
  refine st1 _ ?_
  show Steps p.tables e below (T1.setTop { method := m, pc := pc + 3, locals := ls, stack := .ref T.heap.size :: rest, locked := none }) _
  jvm_step X₁.here [X₁.here.top, hexec, d3', Value.category]
  exact hsteps
/-- 'throw new E("text")': new; dup; ldc; invokespecial; athrow -/
theorem vx_throwS {cc : ByteArray} {pc : Nat} (hexec : p.tables.exec = Jvm.exec) (hb : c.code = cc) (hl : l.stackTraces = false) {own cls text : String} {names : List String} {ik is ic mc ms sa : Nat} {A : Nat → Prop}
    (hown : s.vm.findClass own = some m.cls) (hcls : Bundle.fit cls = true) (hnames : ∀ n ∈ names, Bundle.fit n = true)
    (hk : (Cond.classLink own ik cls).before args s = true) (hini : (Cond.initialized cls).before args s = true) (hstr : vk_R own is text sa s) (hat : ∀ w ∈ vx_atS own ic cls names, w.before args s = true)
    (hgood : ∀ w ∈ Cond.classLink own ik cls :: Cond.initialized cls :: vx_atS own ic cls names, vx_ot w = true)
    (hU : vx_Zq Bundle.tN "UNASSIGNED_STACK" Bundle.steD A s s.heap) (hN : vx_Zq Bundle.tN "SUPPRESSED_SENTINEL" Bundle.listD A s s.heap) (hS : va_S A s.heap H locs) (hsize : ls.size = c.maxLocals)
    (d0 : decode cc pc = .ok (.new ik, 3)) (d3 : decode cc (pc + 3) = .ok (.dup, 1)) (d4 : decode cc (pc + 4) = .ok (.ldc is, 2)) (d6 : decode cc (pc + 6) = .ok (.invokespecial ic, 3)) (d9 : decode cc (pc + 9) = .ok (.athrow, 1))
    (hout : ∀ x ∈ c.exceptionTable.toList, covers x (pc + 9) = false)
    (hRframes : names.length + 3 < R.frames) (hRlocals : (rest.map fun v => v.category).sum + (13 * (names.length + 1) + 43) ≤ R.locals) (hRcells : cells + 1 ≤ R.cells) (hRslots : slots + 6 ≤ R.slots) (hlocks : meth.locks = false)
    (hx : ∀ t : State, s.vm.Alike t.vm → H.size ≤ t.heap.size → (∀ q : Nat, q < H.size → t.heap[q]? = H[q]?) → XC cls s t)
    (hf : ∀ z ∈ locs, free z.base) (hc : cells + 1 ≤ mc) (hs : slots + 6 ≤ ms) :
    W p l e R s m args below meth c H locs cells slots (vx_MQ below Qc XC args s mc ms free) (F0 m pc ls rest) := by
  intro T hT X
  have htr : e.platform.stackTraces = false := (show e.platform.stackTraces = l.stackTraces by rw [X.admits.platform]).trans hl
  have Y := vx_rebase X (R' := { frames := R.frames, locals := R.locals, cells := 1, slots := 6 }) (Nat.le_refl _) (Nat.le_refl _) hRcells hRslots
  obtain ⟨s', hA⟩ : ∃ z, z = (T.setVm s.vm).setFrames (.invoking m args :: below) := ⟨_, rfl⟩
  rw [← hA] at Y
  have hvm : s'.vm = s.vm := by rw [hA]; rfl
  have hhp : s'.heap = H := by rw [hA]; exact hT
  have hW0 : s.WarmedH s'.vm := by rw [hvm]; exact State.WarmedH.refl s
  have hat' : ∀ w ∈ vx_atS own ic cls names, w.before args s' = true := fun w hw => vx_ot_at hW0 hvm.symm (hgood w (List.mem_cons_of_mem _ (List.mem_cons_of_mem _ hw))) (hat w hw)
  have hk' : (Cond.classLink own ik cls).before args s' = true := vx_ot_at hW0 hvm.symm (hgood _ List.mem_cons_self) hk
  have hini' : (Cond.initialized cls).before args s' = true := vx_ot_at hW0 hvm.symm (hgood _ (List.mem_cons_of_mem _ List.mem_cons_self)) hini
  have hU' : vx_Zq Bundle.tN "UNASSIGNED_STACK" Bundle.steD A s' s'.heap := by rw [hhp]; exact vx_Zq.moved hW0.alike (hU.kept hS.2.1)
  have hN' : vx_Zq Bundle.tN "SUPPRESSED_SENTINEL" Bundle.listD A s' s'.heap := by rw [hhp]; exact vx_Zq.moved hW0.alike (hN.kept hS.2.1)
  have h : ∀ w ∈ Bundle.ownAtoms own ic cls names, w.before args s' = true := vx_own hat' (vx_isRefq hU'.1) (vx_isRefq hN'.1) hU'.2.word hN'.2.word
  have hown' : s'.vm.findClass own = some m.cls := by rw [hvm]; exact hown
  have hins : (Cond.instantiable cls 6).before args s' = true := h _ (by simp [Bundle.ownAtoms])
  obtain ⟨vm₁, cX, kX, hfX, hkX, -, -, X₁, st1⟩ := Y.newCold hexec (own := own) (C := cls) (index := ik) (n := 6) hown' hk' hins hini'
    (g := F0 m pc ls rest) rfl (by rw [hb]; exact d0) (Nat.le_refl _) (Nat.le_refl _)
  generalize hT1 : (T.setVm vm₁).pushCell { cls := cX, slots := kX.instanceTypes.map defaultValue, vm := .none } = T1 at X₁ st1
  have hcat : (Value.ref T.heap.size).category = 1 := rfl
  have hcellA : T1.heap[T.heap.size]? = some (freshCell cX kX) := by rw [← hT1]; exact State.heap_pushCell_size _ _
  have d3' : decode c.code (pc + 3) = .ok (.dup, 1) := by rw [hb]; exact d3
  have d4' : decode c.code (pc + 4) = .ok (.ldc is, 2) := by rw [hb]; exact d4
  have hstr' : vk_R own is text sa s' := vk_R.warm hW0 hstr
  obtain ⟨U, hsteps, hrun, hend, hW, hsame, ce, hce, hO⟩ := X₁.ctorThrowS hexec htr (own := own) (cls := cls) (names := names) (ic := ic) hown' hcls hnames h (fun x hx => nomatch hx) hfX hkX hcellA (by rw [hhp, hT]; exact Nat.le_refl _) (msg := .ref sa) rfl
    (g := { method := m, pc := pc + 6, locals := ls, stack := .ref sa :: .ref T.heap.size :: .ref T.heap.size :: rest, locked := none }) rfl hsize rfl rfl (rest := rest) rfl
    (by rw [hb]; exact d6) (by rw [hb]; exact d9) hout hRframes (by simp only [List.map_cons, List.sum_cons, hcat]; omega) hlocks
  obtain ⟨f1, f2⟩ := vx_frame hsame
  rw [hhp] at f1 f2
  have hWs : s.WarmedH U.vm := State.WarmedH.trans hW0 hW
  have hcl : s.vm.findClass cls = some ce.cls := by
    have h9 := hO.cls
    rw [hvm] at h9
    exact h9
  have hall : s.sameButNew ({ U with vm := s.vm } : State) locs mc ms := by
    subst hA
    obtain ⟨e1, e2⟩ := hsame
    rw [State.setFrames_setFrames] at e1
    have h2 : (T.setVm s.vm).sameButNew ({ U with vm := s.vm } : State) [] (0 + 1) (0 + 6) := ⟨e1, e2⟩
    have h3 := X.same.trans h2
    rw [List.append_nil] at h3
    exact h3.mono hc hs
  refine ⟨U, ?_, .threw T.heap.size, hrun, hend, Or.inr ⟨T.heap.size, rfl, cls, ce, locs, hx U hWs.alike f1 (fun q hq => f2 q hq (fun z hz => nomatch hz)), hce, hO.vm, hcl, hWs, hall, hf⟩⟩
  refine st1 _ ?_
  show Steps p.tables e below (T1.setTop { method := m, pc := pc + 3, locals := ls, stack := .ref T.heap.size :: rest, locked := none }) _
  jvm_step X₁.here [X₁.here.top, hexec, d3', Value.category]
  exact X₁.ldcString hexec (own := own) (text := text) (index := is) (a := sa) hown' hstr'.1 hstr'.2
    (g := { method := m, pc := pc + 4, locals := ls, stack := .ref T.heap.size :: .ref T.heap.size :: rest, locked := none }) rfl d4' _ hsteps
/-- 'throw new E("text")', the text by a wide index -/
theorem vx_throwSW {cc : ByteArray} {pc : Nat} (hexec : p.tables.exec = Jvm.exec) (hb : c.code = cc) (hl : l.stackTraces = false) {own cls text : String} {names : List String} {ik is ic mc ms sa : Nat} {A : Nat → Prop}
    (hown : s.vm.findClass own = some m.cls) (hcls : Bundle.fit cls = true) (hnames : ∀ n ∈ names, Bundle.fit n = true)
    (hk : (Cond.classLink own ik cls).before args s = true) (hini : (Cond.initialized cls).before args s = true) (hstr : vk_R own is text sa s) (hat : ∀ w ∈ vx_atS own ic cls names, w.before args s = true)
    (hgood : ∀ w ∈ Cond.classLink own ik cls :: Cond.initialized cls :: vx_atS own ic cls names, vx_ot w = true)
    (hU : vx_Zq Bundle.tN "UNASSIGNED_STACK" Bundle.steD A s s.heap) (hN : vx_Zq Bundle.tN "SUPPRESSED_SENTINEL" Bundle.listD A s s.heap) (hS : va_S A s.heap H locs) (hsize : ls.size = c.maxLocals)
    (d0 : decode cc pc = .ok (.new ik, 3)) (d3 : decode cc (pc + 3) = .ok (.dup, 1)) (d4 : decode cc (pc + 4) = .ok (.ldc_w is, 3)) (d7 : decode cc (pc + 7) = .ok (.invokespecial ic, 3)) (d10 : decode cc (pc + 10) = .ok (.athrow, 1))
    (hout : ∀ x ∈ c.exceptionTable.toList, covers x (pc + 10) = false)
    (hRframes : names.length + 3 < R.frames) (hRlocals : (rest.map fun v => v.category).sum + (13 * (names.length + 1) + 43) ≤ R.locals) (hRcells : cells + 1 ≤ R.cells) (hRslots : slots + 6 ≤ R.slots) (hlocks : meth.locks = false)
    (hx : ∀ t : State, s.vm.Alike t.vm → H.size ≤ t.heap.size → (∀ q : Nat, q < H.size → t.heap[q]? = H[q]?) → XC cls s t)
    (hf : ∀ z ∈ locs, free z.base) (hc : cells + 1 ≤ mc) (hs : slots + 6 ≤ ms) :
    W p l e R s m args below meth c H locs cells slots (vx_MQ below Qc XC args s mc ms free) (F0 m pc ls rest) := by
  intro T hT X
  have htr : e.platform.stackTraces = false := (show e.platform.stackTraces = l.stackTraces by rw [X.admits.platform]).trans hl
  have Y := vx_rebase X (R' := { frames := R.frames, locals := R.locals, cells := 1, slots := 6 }) (Nat.le_refl _) (Nat.le_refl _) hRcells hRslots
  obtain ⟨s', hA⟩ : ∃ z, z = (T.setVm s.vm).setFrames (.invoking m args :: below) := ⟨_, rfl⟩
  rw [← hA] at Y
  have hvm : s'.vm = s.vm := by rw [hA]; rfl
  have hhp : s'.heap = H := by rw [hA]; exact hT
  have hW0 : s.WarmedH s'.vm := by rw [hvm]; exact State.WarmedH.refl s
  have hat' : ∀ w ∈ vx_atS own ic cls names, w.before args s' = true := fun w hw => vx_ot_at hW0 hvm.symm (hgood w (List.mem_cons_of_mem _ (List.mem_cons_of_mem _ hw))) (hat w hw)
  have hk' : (Cond.classLink own ik cls).before args s' = true := vx_ot_at hW0 hvm.symm (hgood _ List.mem_cons_self) hk
  have hini' : (Cond.initialized cls).before args s' = true := vx_ot_at hW0 hvm.symm (hgood _ (List.mem_cons_of_mem _ List.mem_cons_self)) hini
  have hU' : vx_Zq Bundle.tN "UNASSIGNED_STACK" Bundle.steD A s' s'.heap := by rw [hhp]; exact vx_Zq.moved hW0.alike (hU.kept hS.2.1)
  have hN' : vx_Zq Bundle.tN "SUPPRESSED_SENTINEL" Bundle.listD A s' s'.heap := by rw [hhp]; exact vx_Zq.moved hW0.alike (hN.kept hS.2.1)
  have h : ∀ w ∈ Bundle.ownAtoms own ic cls names, w.before args s' = true := vx_own hat' (vx_isRefq hU'.1) (vx_isRefq hN'.1) hU'.2.word hN'.2.word
  have hown' : s'.vm.findClass own = some m.cls := by rw [hvm]; exact hown
  have hins : (Cond.instantiable cls 6).before args s' = true := h _ (by simp [Bundle.ownAtoms])
  obtain ⟨vm₁, cX, kX, hfX, hkX, -, -, X₁, st1⟩ := Y.newCold hexec (own := own) (C := cls) (index := ik) (n := 6) hown' hk' hins hini'
    (g := F0 m pc ls rest) rfl (by rw [hb]; exact d0) (Nat.le_refl _) (Nat.le_refl _)
  generalize hT1 : (T.setVm vm₁).pushCell { cls := cX, slots := kX.instanceTypes.map defaultValue, vm := .none } = T1 at X₁ st1
  have hcat : (Value.ref T.heap.size).category = 1 := rfl
  have hcellA : T1.heap[T.heap.size]? = some (freshCell cX kX) := by rw [← hT1]; exact State.heap_pushCell_size _ _
  have d3' : decode c.code (pc + 3) = .ok (.dup, 1) := by rw [hb]; exact d3
  have d4' : decode c.code (pc + 4) = .ok (.ldc_w is, 3) := by rw [hb]; exact d4
  have hstr' : vk_R own is text sa s' := vk_R.warm hW0 hstr
  obtain ⟨U, hsteps, hrun, hend, hW, hsame, ce, hce, hO⟩ := X₁.ctorThrowS hexec htr (own := own) (cls := cls) (names := names) (ic := ic) hown' hcls hnames h (fun x hx => nomatch hx) hfX hkX hcellA (by rw [hhp, hT]; exact Nat.le_refl _) (msg := .ref sa) rfl
    (g := { method := m, pc := pc + 7, locals := ls, stack := .ref sa :: .ref T.heap.size :: .ref T.heap.size :: rest, locked := none }) rfl hsize rfl rfl (rest := rest) rfl
    (by rw [hb]; exact d7) (by rw [hb]; exact d10) hout hRframes (by simp only [List.map_cons, List.sum_cons, hcat]; omega) hlocks
  obtain ⟨f1, f2⟩ := vx_frame hsame
  rw [hhp] at f1 f2
  have hWs : s.WarmedH U.vm := State.WarmedH.trans hW0 hW
  have hcl : s.vm.findClass cls = some ce.cls := by
    have h9 := hO.cls
    rw [hvm] at h9
    exact h9
  have hall : s.sameButNew ({ U with vm := s.vm } : State) locs mc ms := by
    subst hA
    obtain ⟨e1, e2⟩ := hsame
    rw [State.setFrames_setFrames] at e1
    have h2 : (T.setVm s.vm).sameButNew ({ U with vm := s.vm } : State) [] (0 + 1) (0 + 6) := ⟨e1, e2⟩
    have h3 := X.same.trans h2
    rw [List.append_nil] at h3
    exact h3.mono hc hs
  refine ⟨U, ?_, .threw T.heap.size, hrun, hend, Or.inr ⟨T.heap.size, rfl, cls, ce, locs, hx U hWs.alike f1 (fun q hq => f2 q hq (fun z hz => nomatch hz)), hce, hO.vm, hcl, hWs, hall, hf⟩⟩
  refine st1 _ ?_
  show Steps p.tables e below (T1.setTop { method := m, pc := pc + 3, locals := ls, stack := .ref T.heap.size :: rest, locked := none }) _
  jvm_step X₁.here [X₁.here.top, hexec, d3', Value.category]
  exact X₁.ldcStringW hexec (own := own) (text := text) (index := is) (a := sa) hown' hstr'.1 hstr'.2
    (g := { method := m, pc := pc + 4, locals := ls, stack := .ref T.heap.size :: .ref T.heap.size :: rest, locked := none }) rfl d4' _ hsteps
end Ends
section Bodies
variable {l : Launch}
theorem vx_ofW {y : MethodName} {ws ws' : List Cond} {rm : Room} {Pc : Array Value → State → Prop} {Qc : Array Value → State → Outcome → State → Prop} {XC : String → State → State → Prop} {mc ms : Nat} {free : Addr → Prop} {cc : ByteArray} {maxL : Nat} {ret : Option FieldType}
    (hy : plainName y.cls = true) (hw : ws = Cond.code y cc maxL ret :: ws')
    (body : ∀ p e s m args below meth c s₁, BodyLoose p l y (headSpec ws rm) cc maxL ret e s m args below meth c s₁ → c.maxLocals = maxL → (∀ x ∈ c.exceptionTable.toList, False) → Pc args s →
      W p l e (headSpec ws rm).room s m args below meth c s.heap [] 0 0 (vx_MQ below Qc XC args s mc ms free) (entryFrame m args maxL)) : vx_Met l y ws rm Pc Qc XC mc ms free := by
  refine MetFree.of_bodyS (code := cc) (maxLocals := maxL) (ret := ret) hy ?_ ?_
  · intro args s m h hn
    obtain ⟨meth, c, h1, h2, h3, h4, h5, h6, -, -⟩ := Cond.code_spec hn (atoms_spec (ws := ws) h _ (by rw [hw]; exact List.mem_cons_self))
    exact ⟨meth, c, h1, h2, h3, h4, h5, h6⟩
  · intro p e s m args below meth c s₁ B hml hP _
    have hh0 : s₁.heap = s.heap := by rw [B.state]; rfl
    have ht : ∀ x ∈ c.exceptionTable.toList, False := by
      obtain ⟨meth9, c9, h1, h2, -, -, -, -, h7, -⟩ := Cond.code_spec B.named (atoms_spec (ws := ws) B.pre _ (by rw [hw]; exact List.mem_cons_self))
      cases Option.some.inj (h1.symm.trans B.method)
      cases Option.some.inj (h2.symm.trans (Stand.of_body B).code)
      intro x hx
      rw [Array.isEmpty_iff.mp h7] at hx
      cases hx
    obtain ⟨t, a1, o, b1, b2, b3⟩ := body p e s m args below meth c s₁ B hml ht hP s₁ hh0 (Stand.of_body B)
    exact ⟨t, o, a1, b1, b2, b3⟩
/-- the table of a body with handlers -/
theorem vx_table {p : Program} {x y : MethodName} {S : Spec} {cc bytes : ByteArray} {maxL maxL' : Nat} {ret ret' : Option FieldType} {e : Env} {s s₁ : State} {m : MethodId} {args : Array Value} {below : List Frame} {meth : Method} {c : Code} {hh : List (Nat × Nat × Nat × Nat)}
    (B : BodyLoose p l y S cc maxL ret e s m args below meth c s₁) (h : (Cond.codeWith y bytes maxL' ret' hh).before args s = true) : c.exceptionTable.toList = tableOf hh := by
  obtain ⟨m9, meth9, c9, hn9, h1, h2, -, -, h6, -⟩ := Cond.codeWith_spec h
  cases Option.some.inj (hn9.symm.trans B.named)
  cases Option.some.inj (h1.symm.trans B.method)
  cases Option.some.inj (h2.symm.trans (Stand.of_body B).code)
  rw [← h6, table_eq]
end Bodies
end VXA
/-! ===== END ===== -/
/-! ===== BEGIN a static call of a method with an exception table ===== -/
section VXS
variable {p : Program} {l : Launch} {e : Env} {R : Room} {s : State} {m : MethodId} {args : Array Value} {below : List Frame} {meth : Method} {c : Code} {T : State} {H : Heap} {locs : List Loc} {cells slots : Nat}
abbrev vx_CSW (R : Room) (s : State) (args : Array Value) (own : String) (index : Nat) (y : MethodName) (bytes : ByteArray) (maxL : Nat) (ret : Option FieldType) (hh : List (Nat × Nat × Nat × Nat)) (ws : List Cond) (rm : Room) (mc ms n : Nat) : Prop :=
  (rm.cells = mc ∧ rm.slots = ms ∧ rm.frames + 1 ≤ R.frames ∧ 8 + (maxL + 11) + rm.locals ≤ R.locals ∧ (∀ w ∈ ws, ∀ (a' : Array Value) (U : State), s.WarmedH U.vm → w.before a' U = true) ∧ Cond.codeWith y bytes maxL ret hh ∈ ws) ∧
  (Cond.codeWith y bytes maxL ret hh).before args s = true ∧ (Cond.initialized y.cls).before args s = true ∧ (y.cls ≠ "java/lang/invoke/MethodHandle" ∧ y.cls ≠ "java/lang/invoke/VarHandle") ∧
  (∀ sig, parseMethodDescriptor y.desc = some sig → n = sig.parameters.length) ∧ (Cond.methodLink own index y).before args s = true ∧ (Cond.static y).before args s = true
theorem vx_cwSW {own : String} {index maxL mc ms : Nat} {y : MethodName} {bytes : ByteArray} {ret : Option FieldType} {hh : List (Nat × Nat × Nat × Nat)} {Ts ws ws' : List Cond} {rm : Room} (n : Nat) (ht : ∀ w ∈ Ts, w.before args s = true) (hT : GoodIn Ts (va_wsS own index y ws)) (hw : ws = Cond.codeWith y bytes maxL ret hh :: ws') (hrc : rm.cells = mc) (hrs : rm.slots = ms)
    (hd : y.cls ≠ "java/lang/invoke/MethodHandle" ∧ y.cls ≠ "java/lang/invoke/VarHandle" ∧ (parseMethodDescriptor y.desc).map (fun d => d.parameters.length) = some n) (hR : rm.frames + 1 ≤ R.frames ∧ 8 + (maxL + 11) + rm.locals ≤ R.locals) :
    vx_CSW R s args own index y bytes maxL ret hh ws rm mc ms n := by
  have ok : ∀ w ∈ va_wsS own index y ws, w.before args s = true := fun w h => ht w (hT w h).1
  have hG : GoodIn Ts ws := fun w h => hT w (by unfold va_wsS; exact List.mem_append_right _ h)
  have hc : Cond.codeWith y bytes maxL ret hh ∈ ws := by rw [hw]; exact List.mem_cons_self
  refine ⟨⟨hrc, hrs, hR.1, hR.2, pay_in ht hG, hc⟩, ht _ (hG _ hc).1, ok _ (by simp [va_wsS]), ⟨hd.1, hd.2.1⟩, fun sig h => ?_, ok _ (by simp [va_wsS]), ok _ (by simp [va_wsS])⟩
  have h2 := hd.2.2
  rw [h] at h2
  exact (Option.some.inj h2).symm
theorem vx_callSW (X : Stand p l e R s m args below meth c T locs cells slots) (hexec : p.tables.exec = Jvm.exec) {own : String} {index : Nat} {y : MethodName} {bytes : ByteArray} {maxL : Nat} {ret : Option FieldType} {hh : List (Nat × Nat × Nat × Nat)}
    (hown : s.vm.findClass own = some m.cls) (hlink : (Cond.methodLink own index y).before args s = true) (hstat : (Cond.static y).before args s = true) (hinit : (Cond.initialized y.cls).before args s = true)
    (hcode : (Cond.codeWith y bytes maxL ret hh).before args s = true) (hy : y.cls ≠ "java/lang/invoke/MethodHandle" ∧ y.cls ≠ "java/lang/invoke/VarHandle")
    {W9 : Nat} {Pre : Pt → Array Value → Prop} {Post : Pt → Array Value → Option Value → Pt → Prop} (hK : Back l R p e below s args y 3 W9 Pre Post)
    {g : JFrame} (hg : g.method = m) (hsize : g.locals.size = c.maxLocals) {argsL rest : List Value} (hlen : ∀ sig, parseMethodDescriptor y.desc = some sig → argsL.length = sig.parameters.length)
    (hstack : g.stack = argsL.reverse ++ rest) (hW : 2 * g.monitorRoom + (rest.map fun v => v.category).sum ≤ W9) (hdg : decode c.code g.pc = .ok (.invokestatic index, 3))
    (hpre : ∀ vm₁, s.WarmedH vm₁ → Pre ⟨T.setVm vm₁, locs, cells, slots⟩ argsL.toArray) :
    ∃ (v : Option Value) (vm₁ : Vm) (B : Pt), s.WarmedH vm₁ ∧ Stand p l e R s m args below meth c B.U B.locs B.cells B.slots ∧ Post ⟨T.setVm vm₁, locs, cells, slots⟩ argsL.toArray v B ∧
      ∀ target, Steps p.tables e below (B.U.setTop { g with pc := g.pc + 3, stack := v.toList ++ rest }) target → Steps p.tables e below (T.setTop g) target := by
  obtain ⟨mk, methM, cM, hnamed, hmethM, -, -, -, -, -, -, hsigM⟩ := Cond.codeWith_spec hcode
  have hstatic : methM.isStatic = true := Cond.static_spec hnamed hmethM hstat
  obtain ⟨kP, hkP, -⟩ := className_of_methodNamed hnamed
  have hinitP : kP.init = .initialized := Cond.initialized_spec (findClass_of_methodNamed hnamed) hkP hinit
  obtain ⟨vm₁, X₁, hstep₁⟩ := X.invokestatic hexec hown hlink hnamed hmethM hstatic hkP hinitP hy (g := g) hg (argsL := argsL) (rest := rest) (hlen _ hsigM) hstack hdg
  obtain ⟨v, B, X', hpost, hsteps⟩ := hK m meth c ⟨T.setVm vm₁, locs, cells, slots⟩ { g with stack := rest } (.invokestatic index) mk argsL.toArray X₁ hg hsize hdg hW (X₁.named hnamed) (hpre vm₁ X₁.warmed)
  exact ⟨v, vm₁, B, X₁.warmed, X', hpost, fun target h => hstep₁ _ fun acts => by rw [doInvoke_state]; exact hsteps.trans h⟩
theorem vx_runSW {y : MethodName} {bytes cc : ByteArray} {maxL nL mc ms n index : Nat} {ret : Option FieldType} {hh : List (Nat × Nat × Nat × Nat)} {ws : List Cond} {rm : Room} {Pc : Array Value → State → Prop} {Qc : Array Value → State → Outcome → State → Prop} {free : Addr → Prop} {Ts : List Cond} {own : String} {As rest : List Value} {g : JFrame}
    (S : CallFix p m c cc nL s args Ts own) (hM : Met l y ws rm Pc Qc mc ms free) (cw : vx_CSW R s args own index y bytes maxL ret hh ws rm mc ms n) (hp : PreS s H Pc As)
    (hg : g.method = m) (hn : As.length = n) (hsize : g.locals.size = nL) (hstack : g.stack = As.reverse ++ rest) (hW : 2 * g.monitorRoom + (rest.map fun v => v.category).sum ≤ 8) (hdg : decode cc g.pc = .ok (.invokestatic index, 3)) (hf : cells + mc ≤ R.cells ∧ slots + ms ≤ R.slots) :
    va_Run p l e R s m args below meth c H locs cells slots mc ms g rest (Qc As.toArray) (free) := by
  obtain ⟨⟨hrc, hrs, hfr, hlo, hws, hcw⟩, hcode, hini, hy, hlen, hl, hstt⟩ := cw
  have hK : Back l R p e below s args y 3 8 (PreOf R mc ms Pc) (PostOf Qc mc ms free) := va_backW (hh := hh) (bytes := bytes) (maxL := maxL) (ret := ret) hM hp.1 hrc hrs hfr hlo hws hcw (fun a' U hW => word_at hW (Or.inl (by first | rfl | simp [Cond.onTables, Cond.keeps, Cond.steady])) hini)
  obtain ⟨hx, hb, hml, ho, -⟩ := S
  intro T hT X
  obtain ⟨v, vm₁, ⟨U', l2, c2, s2⟩, hW₁, X', ⟨g', mk, t, L, e1, e2, hq, h1, hL, h2, h3⟩, st⟩ := vx_callSW X hx (hh := hh) (bytes := bytes) (maxL := maxL) (ret := ret) ho hl hstt hini hcode hy hK hg (hsize.trans hml.symm) (argsL := As) (rest := rest) (fun sig h => hn.trans (hlen sig h)) hstack hW (by rw [hb]; exact hdg)
    (fun vm₁ hW₁ => ⟨hf.1, hf.2, hp.2 (T.setVm vm₁) hT hW₁⟩)
  dsimp only [Pt.U, Pt.locs, Pt.cells, Pt.slots] at X' e1 e2 h1 h2 h3 st
  subst h1; subst h2; subst h3
  exact ⟨v, (T.setVm vm₁).calling g' mk As.toArray, t, U', L, hT, X', hL, e1, e2, hq, st⟩
/-- not caught here, past rows that name other classes: it goes on to the caller -/
theorem vx_outP {p : Program} {l : Launch} {e : Env} {R : Room} {s : State} {m : MethodId} {args : Array Value} {below : List Frame} {meth : Method} {c : Code} {H : Heap} {locs : List Loc} {cells slots : Nat} {free : Addr → Prop} {ls : Array Slot} {rest : List Value} {Qc : Array Value → State → Outcome → State → Prop} {XC : String → State → State → Prop}
    {pc : Nat} {own E : String} {ce : Cell} {q : Addr} {mc ms : Nat} (hown : s.vm.findClass own = some m.cls) (hlocks : meth.locks = false)
    (hpass : ∀ z ∈ c.exceptionTable.toList, covers z pc = false ∨ (z.catchType ≠ 0 ∧ ∃ nm : String, (Cond.classLink own z.catchType nm).before args s = true ∧ va_Nc E nm s)) (hcell : H[q]? = some ce) (hv : ce.vm = .none) (hcl : s.vm.findClass E = some ce.cls)
    (hx : ∀ t : State, t.heap = H → s.vm.Alike t.vm → XC E s t) (hf : ∀ z ∈ locs, free z.base) (hc : cells ≤ mc) (hs : slots ≤ ms) :
    vx_W p l e R s m args below meth c H locs cells slots (vx_MQ below Qc XC args s mc ms free) (F0 m pc ls rest) q := by
  intro T hT X
  have hpl : e.platform.magicAccessors = ({} : Platform).magicAccessors := by rw [X.admits.platform]
  obtain ⟨vm', hW', X', st⟩ := X.outThrough hlocks q (g := F0 m pc ls rest) rfl rfl rfl (cell := ce) (by rw [hT]; exact hcell) (by rw [hv]; rfl)
    (by obtain ⟨k9, h9, -⟩ := Vm.findClass_spec hcl; exact ⟨k9, h9⟩) (fun z hz => by
      rcases hpass z hz with h | ⟨hz0, nm, hl1, hn1⟩
      · exact Or.inl h
      · obtain ⟨c6, hc6, hcl6⟩ := Cond.classLink_spec hown hl1 e.platform hpl
        obtain ⟨a8, b8, h1, h2, h3⟩ := hn1
        cases Option.some.inj (h1.symm.trans hcl)
        cases Option.some.inj (h2.symm.trans hc6)
        exact Or.inr ⟨hz0, _, hcl6, h3⟩)
  obtain ⟨g₀, hfr⟩ := X'.frames_eq
  have hcell9 : ((T.setVm vm').setFrames (.throwing q :: below)).heap[q]? = some ce := by
    show T.heap[q]? = some ce
    rw [hT]; exact hcell
  have hend : Ended ((T.setVm vm').setFrames (.throwing q :: below)) below (.threw q) := State.frames_setFrames _ (State.cur_lt_of_frames hfr)
  refine ⟨(T.setVm vm').setFrames (.throwing q :: below), ?_, .threw q, X'.here.running, hend, Or.inr ⟨q, rfl, E, ce, locs, hx _ hT (X'.ends _).1.alike, hcell9, hv, hcl, (X'.ends _).1, (X'.ends _).2.mono hc hs, hf⟩⟩
  rw [X.pushThrowing_eq]
  exact st
/-- a thing of a world lies in the heap -/
theorem vx_lt {D : va_G} {cl : List vw_C} {ws : va_W} {H1 : Heap} (h : va_P D cl ws H1) {k : Nat} {q : Nat × va_E} (hk : ws[k]? = some q) : q.1 < H1.size := (h k q hk).lt
end VXS
/-! ===== END ===== -/
/-! ===== BEGIN methods with a table of their own: called by a name, returning or throwing ===== -/
section VXH
/-! vx_backW, vx_callVX, vx_callSX, vx_callVW, vx_runVW, vx_runVX, vx_runSX, vx_ofWH follow the same proofs as their sisters above (Free/Laws.lean, Shelf42/LK1.lean); vx_outP calls Shelf42/NT130.lean (outThrough). -/
section
variable {l : Launch} {R : Room} {p : Program} {e : Env} {below : List Frame} {s : State} {sargs : Array Value} {y : MethodName} {len W9 : Nat}
theorem vx_backW {ws : List Cond} {rm : Room} {Pc : Array Value → State → Prop} {Qc : Array Value → State → Outcome → State → Prop} {XC : String → State → State → Prop} {mc ms : Nat} {free : Addr → Prop} {bytes : ByteArray} {maxL : Nat} {ret : Option FieldType} {hh : List (Nat × Nat × Nat × Nat)}
    (hM : vx_Met l y ws rm Pc Qc XC mc ms free) (hblind : FrameBlind Pc) (hrc : rm.cells = mc) (hrs : rm.slots = ms)
    (hframes : rm.frames + 1 ≤ R.frames) (hlocals : W9 + (maxL + 11) + rm.locals ≤ R.locals)
    (hws : ∀ w ∈ ws, ∀ a' U, s.WarmedH U.vm → w.before a' U = true) (hcode : Cond.codeWith y bytes maxL ret hh ∈ ws) (hinit : ∀ a' U, s.WarmedH U.vm → (Cond.initialized y.cls).before a' U = true) :
    vx_Back l R p e below s sargs y len W9 (PreOf R mc ms Pc) (PostOf Qc mc ms free) (vx_Post XC mc ms free) := by
  intro m meth c A g ig mk a X hg hsize hdg hW hn hp
  have h1 : (headSpec ws rm).pre.before a A.U = true := atoms_intro fun w hw => hws w hw _ _ X.warmed
  have h2 : (Cond.codeWith y bytes maxL ret hh).before a A.U = true := hws _ hcode _ _ X.warmed
  have h3 : (Cond.initialized y.cls).before a A.U = true := hinit _ _ X.warmed
  have h4 : A.cells + (headSpec ws rm).room.cells ≤ R.cells := by rw [show (headSpec ws rm).room.cells = mc from hrc]; exact hp.1
  have h5 : A.slots + (headSpec ws rm).room.slots ≤ R.slots := by rw [show (headSpec ws rm).room.slots = ms from hrs]; exact hp.2.1
  have hPc : Pc a (A.U.calling g mk a) := hblind _ _ _ _ hp.2.2
  obtain ⟨U, Ls, c0, s0⟩ := A
  dsimp only [Pt.U, Pt.locs, Pt.cells, Pt.slots] at h1 h2 h3 h4 h5 X hn hPc ⊢
  obtain ⟨m9, methY, cY, hn9, hmY, hcY, -, hlY, -⟩ := Cond.codeWith_spec h2
  cases Option.some.inj (hn9.symm.trans hn)
  obtain ⟨kY, hkY, -⟩ := className_of_methodNamed hn
  have hinitY : kY.init = .initialized := Cond.initialized_spec (findClass_of_methodNamed hn) hkY h3
  have h : At U g.method c below := by rw [hg]; exact X.here
  have hlocals9 : W9 + (maxL + 11) + (headSpec ws rm).room.locals ≤ R.locals := hlocals
  have happ : (headSpec ws rm).appliesLoose y e.platform (U.calling g mk a) = true :=
    Spec.appliesLoose_calling (g := g) h hdg hn hkY hinitY
      (X.room_calling (g := g) (R' := (headSpec ws rm).room) hsize hmY hcY hframes (by rw [hlY]; omega) h4 h5) h1
  obtain ⟨mid, hmid⟩ := h.above
  have hfr : (U.setTop g).frames = (.java g :: mid) ++ below := by rw [State.frames_setTop' g h.top, hmid]; rfl
  obtain ⟨o, s₂, hsteps, -, hend, hq⟩ := Steps.callFree hM p X.admits X.cas X.clock (acts := []) hfr happ hPc trivial
  have hq' : vx_Q Qc XC mc ms free a (U.calling g mk a) o s₂ := hq
  rw [State.frames_setTop' g h.top] at hend
  obtain ⟨g₀, hg0⟩ := Option.isSome_iff_exists.mp h.top
  obtain ⟨r, hr⟩ := State.topJava?_eq_some.mp hg0
  have hr' : (({ U with heap := s₂.heap, slotsUsed := s₂.slotsUsed } : State).setVm s₂.vm).frames = .java g₀ :: r := hr
  rcases hq' with ⟨hqc, L, hfe, hL⟩ | ⟨q, rfl, E, ce, L, hx, hce, hcv, hcl, hW₂, hsm, hL⟩
  · obtain ⟨⟨v, rfl⟩, hW₂, e2, q2, q3, q4, q5, q6⟩ := id hfe
    have e3 : s₂ = ({ (U.calling g mk a).setFrames s₂.frames with heap := s₂.heap, slotsUsed := s₂.slotsUsed } : State).setVm s₂.vm := by
      have : s₂ = ({ s₂ with vm := (U.calling g mk a).vm } : State).setVm s₂.vm := rfl
      rw [e2] at this
      exact this
    obtain ⟨c₂, i₂, len₂, hc₂, hd₂, hf₂⟩ := hend
    have hW' : U.WarmedH s₂.vm := hW₂
    have hcc : c₂ = c := by
      have h1 : s₂.code? g.method = U.code? g.method := by
        rw [State.code?_eq, State.code?_eq, hW'.alike.method?]
      exact Option.some.inj (hc₂.symm.trans (h1.trans h.code))
    subst hcc
    have hlen : len₂ = len := by rw [hdg] at hd₂; cases hd₂; rfl
    subst hlen
    have hs₂ : s₂ = (({ U with heap := s₂.heap, slotsUsed := s₂.slotsUsed } : State).setVm s₂.vm).setTop { g with pc := g.pc + len₂, stack := v.toList ++ g.stack } := by
      refine e3.trans ?_
      rw [hf₂, State.calling_eq h.top, State.setFrames_setFrames, State.setTop_of_frames _ hr', hr]
      rfl
    have hsame : U.sameButNew ({ U with heap := s₂.heap, slotsUsed := s₂.slotsUsed } : State) L mc ms := by
      refine ⟨?_, q2, q3, q4, q5, q6⟩
      obtain ⟨t, ht, -⟩ := State.frames_cons hr
      show ({ U with heap := s₂.heap, slotsUsed := s₂.slotsUsed } : State) = { U.setFrames U.frames with heap := s₂.heap, slotsUsed := s₂.slotsUsed }
      rw [State.setFrames_self ht]
    subst hg
    refine Or.inl ⟨v, ⟨(({ U with heap := s₂.heap, slotsUsed := s₂.slotsUsed } : State).setVm s₂.vm), Ls ++ L, c0 + mc, s0 + ms⟩,
      ⟨X.admits, X.cas, X.clock, X.frames, X.room, X.hears, X.method, X.code, (X.here.setHeapUsed s₂.heap s₂.slotsUsed).setVm hW'.alike, X.tail, State.WarmedH.trans X.warmed hW', X.limits, X.bytes, X.same.trans (hsame.setVm s.vm)⟩,
      ⟨g, mk, s₂, L, rfl, rfl, hqc, rfl, hL, rfl, rfl⟩, ?_⟩
    show Steps p.tables e below _ ((({ U with heap := s₂.heap, slotsUsed := s₂.slotsUsed } : State).setVm s₂.vm).setTop { g with pc := g.pc + len₂, stack := v.toList ++ g.stack })
    rw [← hs₂]
    exact hsteps
  · obtain ⟨e2, q2, q3, q4, q5, q6⟩ := id hsm
    have e3 : s₂ = ({ (U.calling g mk a).setFrames s₂.frames with heap := s₂.heap, slotsUsed := s₂.slotsUsed } : State).setVm s₂.vm := by
      have : s₂ = ({ s₂ with vm := (U.calling g mk a).vm } : State).setVm s₂.vm := rfl
      rw [e2] at this
      exact this
    have hf₂ : s₂.frames = .throwing q :: .java g :: U.frames.tail := hend
    have hW' : U.WarmedH s₂.vm := hW₂
    have hs₂ : s₂ = ((({ U with heap := s₂.heap, slotsUsed := s₂.slotsUsed } : State).setVm s₂.vm).setTop g).pushFrame (.throwing q) := by
      refine e3.trans ?_
      rw [hf₂, State.calling_eq h.top, State.setFrames_setFrames, State.pushFrame, State.frames_setTop _ hr', State.setTop_of_frames _ hr', State.setFrames_setFrames, hr]
      rfl
    have hsame : U.sameButNew ({ U with heap := s₂.heap, slotsUsed := s₂.slotsUsed } : State) L mc ms := by
      refine ⟨?_, q2, q3, q4, q5, q6⟩
      obtain ⟨t, ht, -⟩ := State.frames_cons hr
      show ({ U with heap := s₂.heap, slotsUsed := s₂.slotsUsed } : State) = { U.setFrames U.frames with heap := s₂.heap, slotsUsed := s₂.slotsUsed }
      rw [State.setFrames_self ht]
    subst hg
    refine Or.inr ⟨q, ⟨(({ U with heap := s₂.heap, slotsUsed := s₂.slotsUsed } : State).setVm s₂.vm), Ls ++ L, c0 + mc, s0 + ms⟩,
      ⟨X.admits, X.cas, X.clock, X.frames, X.room, X.hears, X.method, X.code, (X.here.setHeapUsed s₂.heap s₂.slotsUsed).setVm hW'.alike, X.tail, State.WarmedH.trans X.warmed hW', X.limits, X.bytes, X.same.trans (hsame.setVm s.vm)⟩,
      ⟨g, mk, s₂, L, E, ce, rfl, rfl, hx, hce, hcv, hcl, rfl, hL, rfl, rfl⟩, ?_⟩
    show Steps p.tables e below _ (((({ U with heap := s₂.heap, slotsUsed := s₂.slotsUsed } : State).setVm s₂.vm).setTop g).pushFrame (.throwing q))
    rw [← hs₂]
    exact hsteps
end
variable {p : Program} {l : Launch} {e : Env} {R : Room} {s : State} {m : MethodId} {args : Array Value} {below : List Frame} {meth : Method} {c : Code} {T : State} {H : Heap} {locs : List Loc} {cells slots : Nat}
theorem vx_callVX (X : Stand p l e R s m args below meth c T locs cells slots) (hexec : p.tables.exec = Jvm.exec) {own C : String} {index : Nat} {y : MethodName} {bytes : ByteArray} {maxL : Nat} {ret : Option FieldType} {hh : List (Nat × Nat × Nat × Nat)}
    (hown : s.vm.findClass own = some m.cls) (hlink : (Cond.methodLink own index y).before args s = true) (hinst : (Cond.instanceMethod y).before args s = true) (hsel : (Cond.selects C y y).before args s = true)
    (hcode : (Cond.codeWith y bytes maxL ret hh).before args s = true) (hy : y.cls ≠ "java/lang/invoke/MethodHandle" ∧ y.cls ≠ "java/lang/invoke/VarHandle")
    {W9 : Nat} {Pre : Pt → Array Value → Prop} {Post : Pt → Array Value → Option Value → Pt → Prop} {PostX : Pt → Array Value → Addr → Pt → Prop} (hK : vx_Back l R p e below s args y 3 W9 Pre Post PostX)
    {b : Addr} {cellB : Cell} (hcell : T.heap[b]? = some cellB) (hobj : cellB.vm.isStatics = false) (hcls : s.vm.findClass C = some cellB.cls)
    {g : JFrame} (hg : g.method = m) (hsize : g.locals.size = c.maxLocals) {argsL rest : List Value} (hlen : ∀ sig, parseMethodDescriptor y.desc = some sig → argsL.length = sig.parameters.length)
    (hstack : g.stack = argsL.reverse ++ .ref b :: rest) (hW : 2 * g.monitorRoom + (rest.map fun v => v.category).sum ≤ W9) (hdg : decode c.code g.pc = .ok (.invokevirtual index, 3))
    (hpre : ∀ vm₁, s.WarmedH vm₁ → Pre ⟨T.setVm vm₁, locs, cells, slots⟩ (Value.ref b :: argsL).toArray) :
    (∃ (v : Option Value) (vm₁ : Vm) (B : Pt), s.WarmedH vm₁ ∧ Stand p l e R s m args below meth c B.U B.locs B.cells B.slots ∧ Post ⟨T.setVm vm₁, locs, cells, slots⟩ (Value.ref b :: argsL).toArray v B ∧
      ∀ target, Steps p.tables e below (B.U.setTop { g with pc := g.pc + 3, stack := v.toList ++ rest }) target → Steps p.tables e below (T.setTop g) target) ∨
    (∃ (q : Addr) (vm₁ : Vm) (B : Pt), s.WarmedH vm₁ ∧ Stand p l e R s m args below meth c B.U B.locs B.cells B.slots ∧ PostX ⟨T.setVm vm₁, locs, cells, slots⟩ (Value.ref b :: argsL).toArray q B ∧
      Steps p.tables e below (T.setTop g) ((B.U.setTop { g with stack := rest }).pushFrame (.throwing q))) := by
  obtain ⟨mk, methM, hnamed, hmethM, hstM, habM⟩ := Cond.instanceMethod_spec hinst
  obtain ⟨m8, methM', cM, hn8, hmethM', -, -, -, -, -, -, hsigM⟩ := Cond.codeWith_spec hcode
  cases Option.some.inj (hn8.symm.trans hnamed)
  cases hmethM.symm.trans hmethM'
  obtain ⟨c2, r2, m2, q1, q2, q3, q4, kP, hkP, hkPi⟩ := Cond.selects_spec hsel
  cases hcls.symm.trans q1
  cases (State.methodFound?_of_named hnamed hy).symm.trans q2
  cases hnamed.symm.trans q3
  have hselP : selectMethod e.platform s.vm cellB.cls mk = .method mk := by rw [Launch.admits_selectMethod X.admits]; exact q4
  obtain ⟨vm₁, X₁, hstep₁⟩ := X.invokevirtual hexec hown hlink hnamed hmethM hstM hkP hkPi hy (a := b) (cell := cellB) hcell
    (fun z h => by rw [h] at hobj; cases hobj) hselP hmethM habM hkP hkPi (g := g) hg (argsL := argsL) (rest := rest) (hlen _ hsigM) hstack hdg
  rcases hK m meth c ⟨T.setVm vm₁, locs, cells, slots⟩ { g with stack := rest } (.invokevirtual index) mk (Value.ref b :: argsL).toArray X₁ hg hsize hdg hW (X₁.named hnamed) (hpre vm₁ X₁.warmed) with ⟨v, B, X', hpost, hsteps⟩ | ⟨q, B, X', hpost, hsteps⟩
  · exact Or.inl ⟨v, vm₁, B, X₁.warmed, X', hpost, fun target h => hstep₁ _ fun acts => by rw [doInvoke_state]; exact hsteps.trans h⟩
  · exact Or.inr ⟨q, vm₁, B, X₁.warmed, X', hpost, hstep₁ _ fun acts => by rw [doInvoke_state]; exact hsteps⟩
theorem vx_callSX (X : Stand p l e R s m args below meth c T locs cells slots) (hexec : p.tables.exec = Jvm.exec) {own : String} {index : Nat} {y : MethodName} {bytes : ByteArray} {maxL : Nat} {ret : Option FieldType} {hh : List (Nat × Nat × Nat × Nat)}
    (hown : s.vm.findClass own = some m.cls) (hlink : (Cond.methodLink own index y).before args s = true) (hstat : (Cond.static y).before args s = true) (hinit : (Cond.initialized y.cls).before args s = true)
    (hcode : (Cond.codeWith y bytes maxL ret hh).before args s = true) (hy : y.cls ≠ "java/lang/invoke/MethodHandle" ∧ y.cls ≠ "java/lang/invoke/VarHandle")
    {W9 : Nat} {Pre : Pt → Array Value → Prop} {Post : Pt → Array Value → Option Value → Pt → Prop} {PostX : Pt → Array Value → Addr → Pt → Prop} (hK : vx_Back l R p e below s args y 3 W9 Pre Post PostX)
    {g : JFrame} (hg : g.method = m) (hsize : g.locals.size = c.maxLocals) {argsL rest : List Value} (hlen : ∀ sig, parseMethodDescriptor y.desc = some sig → argsL.length = sig.parameters.length)
    (hstack : g.stack = argsL.reverse ++ rest) (hW : 2 * g.monitorRoom + (rest.map fun v => v.category).sum ≤ W9) (hdg : decode c.code g.pc = .ok (.invokestatic index, 3))
    (hpre : ∀ vm₁, s.WarmedH vm₁ → Pre ⟨T.setVm vm₁, locs, cells, slots⟩ argsL.toArray) :
    (∃ (v : Option Value) (vm₁ : Vm) (B : Pt), s.WarmedH vm₁ ∧ Stand p l e R s m args below meth c B.U B.locs B.cells B.slots ∧ Post ⟨T.setVm vm₁, locs, cells, slots⟩ argsL.toArray v B ∧
      ∀ target, Steps p.tables e below (B.U.setTop { g with pc := g.pc + 3, stack := v.toList ++ rest }) target → Steps p.tables e below (T.setTop g) target) ∨
    (∃ (q : Addr) (vm₁ : Vm) (B : Pt), s.WarmedH vm₁ ∧ Stand p l e R s m args below meth c B.U B.locs B.cells B.slots ∧ PostX ⟨T.setVm vm₁, locs, cells, slots⟩ argsL.toArray q B ∧
      Steps p.tables e below (T.setTop g) ((B.U.setTop { g with stack := rest }).pushFrame (.throwing q))) := by
  obtain ⟨mk, methM, cM, hnamed, hmethM, -, -, -, -, -, -, hsigM⟩ := Cond.codeWith_spec hcode
  have hstatic : methM.isStatic = true := Cond.static_spec hnamed hmethM hstat
  obtain ⟨kP, hkP, -⟩ := className_of_methodNamed hnamed
  have hinitP : kP.init = .initialized := Cond.initialized_spec (findClass_of_methodNamed hnamed) hkP hinit
  obtain ⟨vm₁, X₁, hstep₁⟩ := X.invokestatic hexec hown hlink hnamed hmethM hstatic hkP hinitP hy (g := g) hg (argsL := argsL) (rest := rest) (hlen _ hsigM) hstack hdg
  rcases hK m meth c ⟨T.setVm vm₁, locs, cells, slots⟩ { g with stack := rest } (.invokestatic index) mk argsL.toArray X₁ hg hsize hdg hW (X₁.named hnamed) (hpre vm₁ X₁.warmed) with ⟨v, B, X', hpost, hsteps⟩ | ⟨q, B, X', hpost, hsteps⟩
  · exact Or.inl ⟨v, vm₁, B, X₁.warmed, X', hpost, fun target h => hstep₁ _ fun acts => by rw [doInvoke_state]; exact hsteps.trans h⟩
  · exact Or.inr ⟨q, vm₁, B, X₁.warmed, X', hpost, hstep₁ _ fun acts => by rw [doInvoke_state]; exact hsteps⟩
theorem vx_callVW (X : Stand p l e R s m args below meth c T locs cells slots) (hexec : p.tables.exec = Jvm.exec) {own C : String} {index : Nat} {y : MethodName} {bytes : ByteArray} {maxL : Nat} {ret : Option FieldType} {hh : List (Nat × Nat × Nat × Nat)}
    (hown : s.vm.findClass own = some m.cls) (hlink : (Cond.methodLink own index y).before args s = true) (hinst : (Cond.instanceMethod y).before args s = true) (hsel : (Cond.selects C y y).before args s = true)
    (hcode : (Cond.codeWith y bytes maxL ret hh).before args s = true) (hy : y.cls ≠ "java/lang/invoke/MethodHandle" ∧ y.cls ≠ "java/lang/invoke/VarHandle")
    {W9 : Nat} {Pre : Pt → Array Value → Prop} {Post : Pt → Array Value → Option Value → Pt → Prop} (hK : Back l R p e below s args y 3 W9 Pre Post)
    {b : Addr} {cellB : Cell} (hcell : T.heap[b]? = some cellB) (hobj : cellB.vm.isStatics = false) (hcls : s.vm.findClass C = some cellB.cls)
    {g : JFrame} (hg : g.method = m) (hsize : g.locals.size = c.maxLocals) {argsL rest : List Value} (hlen : ∀ sig, parseMethodDescriptor y.desc = some sig → argsL.length = sig.parameters.length)
    (hstack : g.stack = argsL.reverse ++ .ref b :: rest) (hW : 2 * g.monitorRoom + (rest.map fun v => v.category).sum ≤ W9) (hdg : decode c.code g.pc = .ok (.invokevirtual index, 3))
    (hpre : ∀ vm₁, s.WarmedH vm₁ → Pre ⟨T.setVm vm₁, locs, cells, slots⟩ (Value.ref b :: argsL).toArray) :
    ∃ (v : Option Value) (vm₁ : Vm) (B : Pt), s.WarmedH vm₁ ∧ Stand p l e R s m args below meth c B.U B.locs B.cells B.slots ∧ Post ⟨T.setVm vm₁, locs, cells, slots⟩ (Value.ref b :: argsL).toArray v B ∧
      ∀ target, Steps p.tables e below (B.U.setTop { g with pc := g.pc + 3, stack := v.toList ++ rest }) target → Steps p.tables e below (T.setTop g) target := by
  obtain ⟨mk, methM, hnamed, hmethM, hstM, habM⟩ := Cond.instanceMethod_spec hinst
  obtain ⟨m8, methM', cM, hn8, hmethM', -, -, -, -, -, -, hsigM⟩ := Cond.codeWith_spec hcode
  cases Option.some.inj (hn8.symm.trans hnamed)
  cases hmethM.symm.trans hmethM'
  obtain ⟨c2, r2, m2, q1, q2, q3, q4, kP, hkP, hkPi⟩ := Cond.selects_spec hsel
  cases hcls.symm.trans q1
  cases (State.methodFound?_of_named hnamed hy).symm.trans q2
  cases hnamed.symm.trans q3
  have hselP : selectMethod e.platform s.vm cellB.cls mk = .method mk := by rw [Launch.admits_selectMethod X.admits]; exact q4
  obtain ⟨vm₁, X₁, hstep₁⟩ := X.invokevirtual hexec hown hlink hnamed hmethM hstM hkP hkPi hy (a := b) (cell := cellB) hcell
    (fun z h => by rw [h] at hobj; cases hobj) hselP hmethM habM hkP hkPi (g := g) hg (argsL := argsL) (rest := rest) (hlen _ hsigM) hstack hdg
  obtain ⟨v, B, X', hpost, hsteps⟩ := hK m meth c ⟨T.setVm vm₁, locs, cells, slots⟩ { g with stack := rest } (.invokevirtual index) mk (Value.ref b :: argsL).toArray X₁ hg hsize hdg hW (X₁.named hnamed) (hpre vm₁ X₁.warmed)
  exact ⟨v, vm₁, B, X₁.warmed, X', hpost, fun target h => hstep₁ _ fun acts => by rw [doInvoke_state]; exact hsteps.trans h⟩
abbrev vx_CVW (R : Room) (s : State) (args : Array Value) (own C : String) (index : Nat) (y : MethodName) (bytes : ByteArray) (maxL : Nat) (ret : Option FieldType) (hh : List (Nat × Nat × Nat × Nat)) (ws : List Cond) (rm : Room) (mc ms n : Nat) : Prop :=
  (rm.cells = mc ∧ rm.slots = ms ∧ rm.frames + 1 ≤ R.frames ∧ 8 + (maxL + 11) + rm.locals ≤ R.locals ∧ (∀ w ∈ ws, ∀ (a' : Array Value) (U : State), s.WarmedH U.vm → w.before a' U = true) ∧ Cond.codeWith y bytes maxL ret hh ∈ ws) ∧
  (Cond.codeWith y bytes maxL ret hh).before args s = true ∧ (Cond.initialized y.cls).before args s = true ∧ (y.cls ≠ "java/lang/invoke/MethodHandle" ∧ y.cls ≠ "java/lang/invoke/VarHandle") ∧
  (∀ sig, parseMethodDescriptor y.desc = some sig → n = sig.parameters.length) ∧ (Cond.methodLink own index y).before args s = true ∧ (Cond.instanceMethod y).before args s = true ∧ (Cond.selects C y y).before args s = true
theorem vx_cwVW {own C : String} {index maxL mc ms : Nat} {y : MethodName} {bytes : ByteArray} {ret : Option FieldType} {hh : List (Nat × Nat × Nat × Nat)} {Ts ws ws' : List Cond} {rm : Room} (n : Nat) (ht : ∀ w ∈ Ts, w.before args s = true) (hT : GoodIn Ts (wsV own index C y ws)) (hw : ws = Cond.codeWith y bytes maxL ret hh :: ws') (hrc : rm.cells = mc) (hrs : rm.slots = ms)
    (hd : y.cls = C ∧ y.cls ≠ "java/lang/invoke/MethodHandle" ∧ y.cls ≠ "java/lang/invoke/VarHandle" ∧ (parseMethodDescriptor y.desc).map (fun d => d.parameters.length) = some n) (hR : rm.frames + 1 ≤ R.frames ∧ 8 + (maxL + 11) + rm.locals ≤ R.locals) :
    vx_CVW R s args own C index y bytes maxL ret hh ws rm mc ms n := by
  obtain ⟨hC, hd⟩ := hd
  subst hC
  have ok : ∀ w ∈ wsV own index y.cls y ws, w.before args s = true := fun w h => ht w (hT w h).1
  have hG : GoodIn Ts ws := fun w h => hT w (by unfold wsV; exact List.mem_append_right _ h)
  have hc : Cond.codeWith y bytes maxL ret hh ∈ ws := by rw [hw]; exact List.mem_cons_self
  refine ⟨⟨hrc, hrs, hR.1, hR.2, pay_in ht hG, hc⟩, ht _ (hG _ hc).1, ok _ (by simp [wsV]), ⟨hd.1, hd.2.1⟩, fun sig h => ?_, ok _ (by simp [wsV]), ok _ (by simp [wsV]), ok _ (by simp [wsV])⟩
  have h2 := hd.2.2
  rw [h] at h2
  exact (Option.some.inj h2).symm
theorem vx_runVW {y : MethodName} {bytes cc : ByteArray} {maxL nL mc ms n index : Nat} {ret : Option FieldType} {hh : List (Nat × Nat × Nat × Nat)} {ws : List Cond} {rm : Room} {Pc : Array Value → State → Prop} {Qc : Array Value → State → Outcome → State → Prop} {free : Addr → Prop} {Ts : List Cond} {own C : String} {b : Addr} {As rest : List Value} {g : JFrame}
    (S : CallFix p m c cc nL s args Ts own) (hM : Met l y ws rm Pc Qc mc ms free) (cw : vx_CVW R s args own C index y bytes maxL ret hh ws rm mc ms n) (hp : PreV s H C b Pc As)
    (hg : g.method = m) (hn : As.length = n) (hsize : g.locals.size = nL) (hstack : g.stack = As.reverse ++ .ref b :: rest) (hW : 2 * g.monitorRoom + (rest.map fun v => v.category).sum ≤ 8) (hdg : decode cc g.pc = .ok (.invokevirtual index, 3)) (hf : cells + mc ≤ R.cells ∧ slots + ms ≤ R.slots) :
    va_Run p l e R s m args below meth c H locs cells slots mc ms g rest (Qc (Value.ref b :: As).toArray) free := by
  obtain ⟨⟨hrc, hrs, hfr, hlo, hws, hcw⟩, hcode, hini, hy, hlen, hl, hin, hse⟩ := cw
  have hK : Back l R p e below s args y 3 8 (PreOf R mc ms Pc) (PostOf Qc mc ms free) := va_backW (hh := hh) (bytes := bytes) (maxL := maxL) (ret := ret) hM hp.1 hrc hrs hfr hlo hws hcw (fun a' U hW => word_at hW (Or.inl (by first | rfl | simp [Cond.onTables, Cond.keeps, Cond.steady])) hini)
  obtain ⟨hx, hb, hml, ho, -⟩ := S
  obtain ⟨-, ⟨cellB, hcB, hoB, hclB⟩, hPc⟩ := hp
  intro T hT X
  obtain ⟨v, vm₁, ⟨U', l2, c2, s2⟩, hW₁, X', ⟨g', mk, t, L, e1, e2, hq, h1, hL, h2, h3⟩, st⟩ := vx_callVW X hx (C := C) (hh := hh) (bytes := bytes) (maxL := maxL) (ret := ret) ho hl hin hse hcode hy hK (by rw [hT]; exact hcB) hoB hclB hg (hsize.trans hml.symm) (argsL := As) (rest := rest) (fun sig h => hn.trans (hlen sig h)) hstack hW (by rw [hb]; exact hdg)
    (fun vm₁ hW₁ => ⟨hf.1, hf.2, hPc (T.setVm vm₁) hT hW₁⟩)
  dsimp only [Pt.U, Pt.locs, Pt.cells, Pt.slots] at X' e1 e2 h1 h2 h3 st
  subst h1; subst h2; subst h3
  exact ⟨v, (T.setVm vm₁).calling g' mk (Value.ref b :: As).toArray, t, U', L, hT, X', hL, e1, e2, hq, st⟩
section
variable {y : MethodName} {bytes cc : ByteArray} {maxL nL mc ms n index : Nat} {ret : Option FieldType} {ws : List Cond} {rm : Room} {Pc : Array Value → State → Prop} {Qc : Array Value → State → Outcome → State → Prop} {XC : String → State → State → Prop} {free : Addr → Prop} {Ts : List Cond} {own C : String} {b : Addr} {As rest : List Value} {g : JFrame}
theorem vx_runVX {hh : List (Nat × Nat × Nat × Nat)} (S : CallFix p m c cc nL s args Ts own) (hM : vx_Met l y ws rm Pc Qc XC mc ms free) (cw : vx_CVW R s args own C index y bytes maxL ret hh ws rm mc ms n) (hp : PreV s H C b Pc As)
    (hg : g.method = m) (hn : As.length = n) (hsize : g.locals.size = nL) (hstack : g.stack = As.reverse ++ .ref b :: rest) (hW : 2 * g.monitorRoom + (rest.map fun v => v.category).sum ≤ 8) (hdg : decode cc g.pc = .ok (.invokevirtual index, 3)) (hf : cells + mc ≤ R.cells ∧ slots + ms ≤ R.slots) :
    vx_Run p l e R s m args below meth c H locs cells slots mc ms g rest (Qc (Value.ref b :: As).toArray) XC free := by
  obtain ⟨⟨hrc, hrs, hfr, hlo, hws, hcw⟩, hcode, hini, hy, hlen, hl, hin, hse⟩ := cw
  have hK : vx_Back l R p e below s args y 3 8 (PreOf R mc ms Pc) (PostOf Qc mc ms free) (vx_Post XC mc ms free) := vx_backW (hh := hh) (bytes := bytes) (maxL := maxL) (ret := ret) hM hp.1 hrc hrs hfr hlo hws hcw (fun a' U hW => word_at hW (Or.inl (by first | rfl | simp [Cond.onTables, Cond.keeps, Cond.steady])) hini)
  obtain ⟨hx, hb, hml, ho, -⟩ := S
  obtain ⟨-, ⟨cellB, hcB, hoB, hclB⟩, hPc⟩ := hp
  intro T hT X
  rcases vx_callVX X hx (C := C) (hh := hh) (bytes := bytes) (maxL := maxL) (ret := ret) ho hl hin hse hcode hy hK (by rw [hT]; exact hcB) hoB hclB hg (hsize.trans hml.symm) (argsL := As) (rest := rest) (fun sig h => hn.trans (hlen sig h)) hstack hW (by rw [hb]; exact hdg)
    (fun vm₁ hW₁ => ⟨hf.1, hf.2, hPc (T.setVm vm₁) hT hW₁⟩) with ⟨v, vm₁, ⟨U', l2, c2, s2⟩, hW₁, X', ⟨g', mk, t, L, e1, e2, hq, h1, hL, h2, h3⟩, st⟩ | ⟨q, vm₁, ⟨U', l2, c2, s2⟩, hW₁, X', ⟨g', mk, t, L, E, ce, e1, e2, hq, hce, hcv, hcl, h1, hL, h2, h3⟩, st⟩
  · dsimp only [Pt.U, Pt.locs, Pt.cells, Pt.slots] at X' e1 e2 h1 h2 h3 st
    subst h1; subst h2; subst h3
    exact Or.inl ⟨v, (T.setVm vm₁).calling g' mk (Value.ref b :: As).toArray, t, U', L, hT, X', hL, e1, e2, hq, st⟩
  · dsimp only [Pt.U, Pt.locs, Pt.cells, Pt.slots] at X' e1 e2 h1 h2 h3 st hcl
    subst h1; subst h2; subst h3
    exact Or.inr ⟨q, (T.setVm vm₁).calling g' mk (Value.ref b :: As).toArray, t, U', L, E, ce, hT, X', hL, e1, e2, hq, hce, hcv, vx_cls hW₁ hcl, st⟩
theorem vx_runSX {hh : List (Nat × Nat × Nat × Nat)} (S : CallFix p m c cc nL s args Ts own) (hM : vx_Met l y ws rm Pc Qc XC mc ms free) (cw : vx_CSW R s args own index y bytes maxL ret hh ws rm mc ms n) (hp : PreS s H Pc As)
    (hg : g.method = m) (hn : As.length = n) (hsize : g.locals.size = nL) (hstack : g.stack = As.reverse ++ rest) (hW : 2 * g.monitorRoom + (rest.map fun v => v.category).sum ≤ 8) (hdg : decode cc g.pc = .ok (.invokestatic index, 3)) (hf : cells + mc ≤ R.cells ∧ slots + ms ≤ R.slots) :
    vx_Run p l e R s m args below meth c H locs cells slots mc ms g rest (Qc As.toArray) XC free := by
  obtain ⟨⟨hrc, hrs, hfr, hlo, hws, hcw⟩, hcode, hini, hy, hlen, hl, hstt⟩ := cw
  have hK : vx_Back l R p e below s args y 3 8 (PreOf R mc ms Pc) (PostOf Qc mc ms free) (vx_Post XC mc ms free) := vx_backW (hh := hh) (bytes := bytes) (maxL := maxL) (ret := ret) hM hp.1 hrc hrs hfr hlo hws hcw (fun a' U hW => word_at hW (Or.inl (by first | rfl | simp [Cond.onTables, Cond.keeps, Cond.steady])) hini)
  obtain ⟨hx, hb, hml, ho, -⟩ := S
  intro T hT X
  rcases vx_callSX X hx (hh := hh) (bytes := bytes) (maxL := maxL) (ret := ret) ho hl hstt hini hcode hy hK hg (hsize.trans hml.symm) (argsL := As) (rest := rest) (fun sig h => hn.trans (hlen sig h)) hstack hW (by rw [hb]; exact hdg)
    (fun vm₁ hW₁ => ⟨hf.1, hf.2, hp.2 (T.setVm vm₁) hT hW₁⟩) with ⟨v, vm₁, ⟨U', l2, c2, s2⟩, hW₁, X', ⟨g', mk, t, L, e1, e2, hq, h1, hL, h2, h3⟩, st⟩ | ⟨q, vm₁, ⟨U', l2, c2, s2⟩, hW₁, X', ⟨g', mk, t, L, E, ce, e1, e2, hq, hce, hcv, hcl, h1, hL, h2, h3⟩, st⟩
  · dsimp only [Pt.U, Pt.locs, Pt.cells, Pt.slots] at X' e1 e2 h1 h2 h3 st
    subst h1; subst h2; subst h3
    exact Or.inl ⟨v, (T.setVm vm₁).calling g' mk As.toArray, t, U', L, hT, X', hL, e1, e2, hq, st⟩
  · dsimp only [Pt.U, Pt.locs, Pt.cells, Pt.slots] at X' e1 e2 h1 h2 h3 st hcl
    subst h1; subst h2; subst h3
    exact Or.inr ⟨q, (T.setVm vm₁).calling g' mk As.toArray, t, U', L, E, ce, hT, X', hL, e1, e2, hq, hce, hcv, vx_cls hW₁ hcl, st⟩
end
end VXH
theorem vx_ofWH {l : Launch} {y : MethodName} {ws ws' : List Cond} {rm : Room} {Pc : Array Value → State → Prop} {Qc : Array Value → State → Outcome → State → Prop} {XC : String → State → State → Prop} {mc ms : Nat} {free : Addr → Prop} {cc : ByteArray} {maxL : Nat} {ret : Option FieldType} {hh : List (Nat × Nat × Nat × Nat)}
    (hy : plainName y.cls = true) (hw : ws = Cond.codeWith y cc maxL ret hh :: ws')
    (body : ∀ p e s m args below meth c s₁, BodyLoose p l y (headSpec ws rm) cc maxL ret e s m args below meth c s₁ → c.maxLocals = maxL → Pc args s →
      W p l e (headSpec ws rm).room s m args below meth c s.heap [] 0 0 (vx_MQ below Qc XC args s mc ms free) (entryFrame m args maxL)) : vx_Met l y ws rm Pc Qc XC mc ms free := by
  refine MetFree.of_bodyS (code := cc) (maxLocals := maxL) (ret := ret) hy ?_ ?_
  · intro args s m h hn
    obtain ⟨m9, meth, c, hn9, h1, h2, h3, h4, -, h5, h6, -⟩ := Cond.codeWith_spec (atoms_spec (ws := ws) h _ (by rw [hw]; exact List.mem_cons_self))
    cases hn.symm.trans hn9
    exact ⟨meth, c, h1, h2, h3, h4, h5, h6⟩
  · intro p e s m args below meth c s₁ B hml hP _
    have hh0 : s₁.heap = s.heap := by rw [B.state]; rfl
    obtain ⟨t, a1, o, b1, b2, b3⟩ := body p e s m args below meth c s₁ B hml hP s₁ hh0 (Stand.of_body B)
    exact ⟨t, o, a1, b1, b2, b3⟩
/-! ===== END ===== -/
end
section
def RX0 : String := "StrengthRows$Board"
def TX0 : u_T := fun k => match k with
  | 0 => ("StrengthRows$Board", "rowCount", "I", false)
  | 1 => ("StrengthRows$Board", "stiffSum", "D", false)
  | 2 => ("StrengthRows$Board", "echoValue", "D", false)
  | 3 => ("StrengthRows$Board", "knotShare", "D", false)
  | 4 => ("StrengthRows$Board", "strength", "D", false)
  | 5 => ("StrengthRows$Board", "wasBroken", "Z", false)
  | 6 => ("StrengthRows$Board", "isOut", "Z", false)
  | _ => ("StrengthRows$Board", "keptForetold", "D", false)
def tyX0 : Nat → FieldType := fun k => match k with
  | 0 => .int
  | 1 => .double
  | 2 => .double
  | 3 => .double
  | 4 => .double
  | 5 => .boolean
  | 6 => .boolean
  | _ => .double
abbrev wsX00 : List Cond := u_ws RX0 TX0 8
theorem nmX0 : ∀ a, a < 8 → ∀ b, b < 8 → a ≠ b → (TX0 a).2.1 ≠ (TX0 b).2.1 := by decide +kernel
theorem tyX0_ok : ∀ k, k < 8 → parseFieldDescriptor (TX0 k).2.2.1 = some (tyX0 k) := by decide +kernel
abbrev cX0_init : ByteArray := prog_2_method_1_code
def yX0_init : MethodName := ⟨RX0, "<init>", "()V"⟩
abbrev cX0_isComplete : ByteArray := prog_2_method_2_code
def yX0_isComplete : MethodName := ⟨RX0, "isComplete", "()Z"⟩
abbrev cX0_isFitted : ByteArray := prog_2_method_3_code
def yX0_isFitted : MethodName := ⟨RX0, "isFitted", "()Z"⟩
abbrev cX0_mean : ByteArray := prog_2_method_4_code
def yX0_mean : MethodName := ⟨RX0, "mean", "()D"⟩
abbrev cX0_term : ByteArray := prog_2_method_5_code
def yX0_term : MethodName := ⟨RX0, "term", "(I)D"⟩
def RX1 : String := "StrengthRows$Chart"
def TX1 : u_T := fun k => match k with
  | 0 => ("StrengthRows$Chart", "span", "I", false)
  | 1 => ("StrengthRows$Chart", "allowed", "I", false)
  | 2 => ("StrengthRows$Chart", "badBits", "I", false)
  | _ => ("StrengthRows$Chart", "holdsFor", "I", false)
def tyX1 : Nat → FieldType := fun k => match k with
  | 0 => .int
  | 1 => .int
  | 2 => .int
  | _ => .int
abbrev wsX10 : List Cond := u_ws RX1 TX1 4
theorem nmX1 : ∀ a, a < 4 → ∀ b, b < 4 → a ≠ b → (TX1 a).2.1 ≠ (TX1 b).2.1 := by decide +kernel
theorem tyX1_ok : ∀ k, k < 4 → parseFieldDescriptor (TX1 k).2.2.1 = some (tyX1 k) := by decide +kernel
abbrev cX1_init : ByteArray := prog_3_method_1_code
def yX1_init : MethodName := ⟨RX1, "<init>", "()V"⟩
abbrev cX1_begin : ByteArray := prog_3_method_2_code
def yX1_begin : MethodName := ⟨RX1, "begin", "(II)V"⟩
abbrev cX1_actsAt : ByteArray := prog_3_method_3_code
def yX1_actsAt : MethodName := ⟨RX1, "actsAt", "(Z)Z"⟩
def RX2 : String := "StrengthRows$Fit"
def TX2 : u_T := fun k => match k with
  | 0 => ("StrengthRows$Fit", "products", "[[D", true)
  | 1 => ("StrengthRows$Fit", "targets", "[D", true)
  | _ => ("StrengthRows$Fit", "numbers", "[D", true)
def tyX2 : Nat → FieldType := fun k => match k with
  | 0 => .array (.array .double)
  | 1 => .array .double
  | _ => .array .double
abbrev wsX20 : List Cond := u_ws RX2 TX2 3
theorem nmX2 : ∀ a, a < 3 → ∀ b, b < 3 → a ≠ b → (TX2 a).2.1 ≠ (TX2 b).2.1 := by decide +kernel
theorem tyX2_ok : ∀ k, k < 3 → parseFieldDescriptor (TX2 k).2.2.1 = some (tyX2 k) := by decide +kernel
abbrev cX2_init : ByteArray := prog_4_method_1_code
def yX2_init : MethodName := ⟨RX2, "<init>", "()V"⟩
abbrev cX2_reckon : ByteArray := prog_4_method_2_code
def yX2_reckon : MethodName := ⟨RX2, "reckon", "([LStrengthRows$Board;LStrengthRows$Board;)I"⟩
abbrev cX2_foretell : ByteArray := prog_4_method_3_code
def yX2_foretell : MethodName := ⟨RX2, "foretell", "(LStrengthRows$Board;)D"⟩
abbrev cX2_clear : ByteArray := prog_4_method_4_code
def yX2_clear : MethodName := ⟨RX2, "clear", "()V"⟩
abbrev cX2_add : ByteArray := prog_4_method_5_code
def yX2_add : MethodName := ⟨RX2, "add", "(LStrengthRows$Board;)V"⟩
abbrev cX2_eliminate : ByteArray := prog_4_method_6_code
def yX2_eliminate : MethodName := ⟨RX2, "eliminate", "()I"⟩
abbrev cX2_lessen : ByteArray := prog_4_method_7_code
def yX2_lessen : MethodName := ⟨RX2, "lessen", "(IID)V"⟩
abbrev cX2_substitute : ByteArray := prog_4_method_8_code
def yX2_substitute : MethodName := ⟨RX2, "substitute", "()V"⟩
abbrev cX2_isPassedOver : ByteArray := prog_4_method_9_code
def yX2_isPassedOver : MethodName := ⟨RX2, "isPassedOver", "(I)Z"⟩
def RX3 : String := "StrengthRows$References"
def TX3 : u_T := fun k => match k with
  | 0 => ("StrengthRows$References", "days", "[I", true)
  | 1 => ("StrengthRows$References", "values", "[D", true)
  | 2 => ("StrengthRows$References", "count", "I", false)
  | _ => ("StrengthRows$References", "lastDay", "I", false)
def tyX3 : Nat → FieldType := fun k => match k with
  | 0 => .array .int
  | 1 => .array .double
  | 2 => .int
  | _ => .int
abbrev wsX30 : List Cond := u_ws RX3 TX3 4
theorem nmX3 : ∀ a, a < 4 → ∀ b, b < 4 → a ≠ b → (TX3 a).2.1 ≠ (TX3 b).2.1 := by decide +kernel
theorem tyX3_ok : ∀ k, k < 4 → parseFieldDescriptor (TX3 k).2.2.1 = some (tyX3 k) := by decide +kernel
abbrev cX3_init : ByteArray := prog_5_method_1_code
def yX3_init : MethodName := ⟨RX3, "<init>", "()V"⟩
abbrev cX3_isBehindLast : ByteArray := prog_5_method_2_code
def yX3_isBehindLast : MethodName := ⟨RX3, "isBehindLast", "(I)Z"⟩
abbrev cX3_isFull : ByteArray := prog_5_method_3_code
def yX3_isFull : MethodName := ⟨RX3, "isFull", "()Z"⟩
abbrev cX3_append : ByteArray := prog_5_method_4_code
def yX3_append : MethodName := ⟨RX3, "append", "(ID)I"⟩
abbrev cX3_valueAt : ByteArray := prog_5_method_5_code
def yX3_valueAt : MethodName := ⟨RX3, "valueAt", "(I)D"⟩
abbrev cX3_between : ByteArray := prog_5_method_6_code
def yX3_between : MethodName := ⟨RX3, "between", "(III)D"⟩
def RX4 : String := "StrengthRows"
def TX4 : u_T := fun k => match k with
  | 0 => ("StrengthRows", "seed", "I", true)
  | 1 => ("StrengthRows", "boards", "[LStrengthRows$Board;", true)
  | 2 => ("StrengthRows", "boardCount", "I", false)
  | 3 => ("StrengthRows", "latestFit", "LStrengthRows$Fit;", true)
  | 4 => ("StrengthRows", "fitWithout", "LStrengthRows$Fit;", true)
  | 5 => ("StrengthRows", "limits", "[D", true)
  | 6 => ("StrengthRows", "chartNow", "LStrengthRows$Chart;", true)
  | _ => ("StrengthRows", "references", "LStrengthRows$References;", true)
def tyX4 : Nat → FieldType := fun k => match k with
  | 0 => .int
  | 1 => .array (.object "StrengthRows$Board")
  | 2 => .int
  | 3 => .object "StrengthRows$Fit"
  | 4 => .object "StrengthRows$Fit"
  | 5 => .array .double
  | 6 => .object "StrengthRows$Chart"
  | _ => .object "StrengthRows$References"
abbrev wsX40 : List Cond := u_ws RX4 TX4 8
theorem nmX4 : ∀ a, a < 8 → ∀ b, b < 8 → a ≠ b → (TX4 a).2.1 ≠ (TX4 b).2.1 := by decide +kernel
theorem tyX4_ok : ∀ k, k < 8 → parseFieldDescriptor (TX4 k).2.2.1 = some (tyX4 k) := by decide +kernel
abbrev cX4_init : ByteArray := prog_1_method_1_code
def yX4_init : MethodName := ⟨RX4, "<init>", "(I)V"⟩
abbrev cX4_board : ByteArray := prog_1_method_2_code
def yX4_board : MethodName := ⟨RX4, "board", "()I"⟩
abbrev cX4_row : ByteArray := prog_1_method_3_code
def yX4_row : MethodName := ⟨RX4, "row", "(ID)I"⟩
abbrev cX4_echo : ByteArray := prog_1_method_4_code
def yX4_echo : MethodName := ⟨RX4, "echo", "(IDD)V"⟩
abbrev cX4_knots : ByteArray := prog_1_method_5_code
def yX4_knots : MethodName := ⟨RX4, "knots", "(ID)V"⟩
abbrev cX4_broken : ByteArray := prog_1_method_6_code
def yX4_broken : MethodName := ⟨RX4, "broken", "(ID)V"⟩
abbrev cX4_fit : ByteArray := prog_1_method_7_code
def yX4_fit : MethodName := ⟨RX4, "fit", "()I"⟩
abbrev cX4_number : ByteArray := prog_1_method_8_code
def yX4_number : MethodName := ⟨RX4, "number", "(I)D"⟩
abbrev cX4_foretold : ByteArray := prog_1_method_9_code
def yX4_foretold : MethodName := ⟨RX4, "foretold", "(I)D"⟩
abbrev cX4_leftOut : ByteArray := prog_1_method_10_code
def yX4_leftOut : MethodName := ⟨RX4, "leftOut", "(I)D"⟩
abbrev cX4_limit : ByteArray := prog_1_method_11_code
def yX4_limit : MethodName := ⟨RX4, "limit", "(ID)V"⟩
abbrev cX4_setting : ByteArray := prog_1_method_12_code
def yX4_setting : MethodName := ⟨RX4, "setting", "(III)I"⟩
abbrev cX4_odds : ByteArray := prog_1_method_13_code
def yX4_odds : MethodName := ⟨RX4, "odds", "(IIIII)J"⟩
abbrev cX4_chart : ByteArray := prog_1_method_14_code
def yX4_chart : MethodName := ⟨RX4, "chart", "(II)V"⟩
abbrev cX4_test : ByteArray := prog_1_method_15_code
def yX4_test : MethodName := ⟨RX4, "test", "(Z)Z"⟩
abbrev cX4_proof : ByteArray := prog_1_method_16_code
def yX4_proof : MethodName := ⟨RX4, "proof", "(D)I"⟩
abbrev cX4_about : ByteArray := prog_1_method_17_code
def yX4_about : MethodName := ⟨RX4, "about", "(II)I"⟩
abbrev cX4_reference : ByteArray := prog_1_method_18_code
def yX4_reference : MethodName := ⟨RX4, "reference", "(ID)I"⟩
abbrev cX4_drift : ByteArray := prog_1_method_19_code
def yX4_drift : MethodName := ⟨RX4, "drift", "(I)D"⟩
abbrev cX4_drawn : ByteArray := prog_1_method_20_code
def yX4_drawn : MethodName := ⟨RX4, "drawn", "(I)D"⟩
abbrev cX4_boardAt : ByteArray := prog_1_method_21_code
def yX4_boardAt : MethodName := ⟨RX4, "boardAt", "(I)LStrengthRows$Board;"⟩
abbrev cX4_completeBoardAt : ByteArray := prog_1_method_22_code
def yX4_completeBoardAt : MethodName := ⟨RX4, "completeBoardAt", "(I)LStrengthRows$Board;"⟩
abbrev cX4_checkClass : ByteArray := prog_1_method_23_code
def yX4_checkClass : MethodName := ⟨RX4, "checkClass", "(I)V"⟩
abbrev cX4_need : ByteArray := prog_1_method_24_code
def yX4_need : MethodName := ⟨RX4, "need", "(Z)V"⟩
abbrev cX4_isWithin : ByteArray := prog_1_method_25_code
def yX4_isWithin : MethodName := ⟨RX4, "isWithin", "(DII)Z"⟩
abbrev cX4_isDay : ByteArray := prog_1_method_26_code
def yX4_isDay : MethodName := ⟨RX4, "isDay", "(I)Z"⟩
abbrev cX4_isShare : ByteArray := prog_1_method_27_code
def yX4_isShare : MethodName := ⟨RX4, "isShare", "(III)Z"⟩
abbrev cX4_keepForetold : ByteArray := prog_1_method_28_code
def yX4_keepForetold : MethodName := ⟨RX4, "keepForetold", "()V"⟩
abbrev cX4_isEnough : ByteArray := prog_1_method_29_code
def yX4_isEnough : MethodName := ⟨RX4, "isEnough", "(DDII)Z"⟩
abbrev cX4_waysOfFew : ByteArray := prog_1_method_30_code
def yX4_waysOfFew : MethodName := ⟨RX4, "waysOfFew", "(IIII)J"⟩
abbrev cX4_power : ByteArray := prog_1_method_31_code
def yX4_power : MethodName := ⟨RX4, "power", "(II)J"⟩
abbrev cX4_commonDivisor : ByteArray := prog_1_method_32_code
def yX4_commonDivisor : MethodName := ⟨RX4, "commonDivisor", "(JJ)J"⟩
def RX5 : String := "StrengthRowsModel"
def TX5 : u_T := fun k => match k with
  | 0 => ("StrengthRowsModel", "thrown", "I", false)
  | 1 => ("StrengthRowsModel", "seed", "J", false)
  | 2 => ("StrengthRowsModel", "boards", "I", false)
  | 3 => ("StrengthRowsModel", "rows", "[D", true)
  | 4 => ("StrengthRowsModel", "many", "[I", true)
  | 5 => ("StrengthRowsModel", "echoes", "[D", true)
  | 6 => ("StrengthRowsModel", "knots", "[D", true)
  | 7 => ("StrengthRowsModel", "strengths", "[D", true)
  | 8 => ("StrengthRowsModel", "isBroken", "[Z", true)
  | 9 => ("StrengthRowsModel", "isOut", "[Z", true)
  | 10 => ("StrengthRowsModel", "sums", "[D", true)
  | 11 => ("StrengthRowsModel", "rights", "[D", true)
  | 12 => ("StrengthRowsModel", "passed", "[Z", true)
  | 13 => ("StrengthRowsModel", "numbers", "[D", true)
  | 14 => ("StrengthRowsModel", "trial", "[D", true)
  | 15 => ("StrengthRowsModel", "limits", "[D", true)
  | 16 => ("StrengthRowsModel", "chartSize", "I", false)
  | 17 => ("StrengthRowsModel", "chartMost", "I", false)
  | 18 => ("StrengthRowsModel", "holds", "I", false)
  | 19 => ("StrengthRowsModel", "tests", "I", false)
  | 20 => ("StrengthRowsModel", "bads", "[Z", true)
  | 21 => ("StrengthRowsModel", "references", "I", false)
  | 22 => ("StrengthRowsModel", "days", "[I", true)
  | _ => ("StrengthRowsModel", "values", "[D", true)
def tyX5 : Nat → FieldType := fun k => match k with
  | 0 => .int
  | 1 => .long
  | 2 => .int
  | 3 => .array .double
  | 4 => .array .int
  | 5 => .array .double
  | 6 => .array .double
  | 7 => .array .double
  | 8 => .array .boolean
  | 9 => .array .boolean
  | 10 => .array .double
  | 11 => .array .double
  | 12 => .array .boolean
  | 13 => .array .double
  | 14 => .array .double
  | 15 => .array .double
  | 16 => .int
  | 17 => .int
  | 18 => .int
  | 19 => .int
  | 20 => .array .boolean
  | 21 => .int
  | 22 => .array .int
  | _ => .array .double
abbrev wsX50 : List Cond := u_ws RX5 TX5 24
theorem nmX5 : ∀ a, a < 24 → ∀ b, b < 24 → a ≠ b → (TX5 a).2.1 ≠ (TX5 b).2.1 := by decide +kernel
theorem tyX5_ok : ∀ k, k < 24 → parseFieldDescriptor (TX5 k).2.2.1 = some (tyX5 k) := by decide +kernel
abbrev cX5_init : ByteArray := prog_7_method_1_code
def yX5_init : MethodName := ⟨RX5, "<init>", "(I)V"⟩
abbrev cX5_thrown : ByteArray := prog_7_method_2_code
def yX5_thrown : MethodName := ⟨RX5, "thrown", "()I"⟩
abbrev cX5_between : ByteArray := prog_7_method_3_code
def yX5_between : MethodName := ⟨RX5, "between", "(DDD)Z"⟩
abbrev cX5_noBoard : ByteArray := prog_7_method_4_code
def yX5_noBoard : MethodName := ⟨RX5, "noBoard", "(I)Z"⟩
abbrev cX5_board : ByteArray := prog_7_method_5_code
def yX5_board : MethodName := ⟨RX5, "board", "()I"⟩
abbrev cX5_row : ByteArray := prog_7_method_6_code
def yX5_row : MethodName := ⟨RX5, "row", "(ID)I"⟩
abbrev cX5_echo : ByteArray := prog_7_method_7_code
def yX5_echo : MethodName := ⟨RX5, "echo", "(IDD)V"⟩
abbrev cX5_knots : ByteArray := prog_7_method_8_code
def yX5_knots : MethodName := ⟨RX5, "knots", "(ID)V"⟩
abbrev cX5_broken : ByteArray := prog_7_method_9_code
def yX5_broken : MethodName := ⟨RX5, "broken", "(ID)V"⟩
abbrev cX5_isComplete : ByteArray := prog_7_method_10_code
def yX5_isComplete : MethodName := ⟨RX5, "isComplete", "(I)Z"⟩
abbrev cX5_x : ByteArray := prog_7_method_11_code
def yX5_x : MethodName := ⟨RX5, "x", "(II)D"⟩
abbrev cX5_add : ByteArray := prog_7_method_12_code
def yX5_add : MethodName := ⟨RX5, "add", "(I)V"⟩
abbrev cX5_solve : ByteArray := prog_7_method_13_code
def yX5_solve : MethodName := ⟨RX5, "solve", "(I)I"⟩
abbrev cX5_fit : ByteArray := prog_7_method_14_code
def yX5_fit : MethodName := ⟨RX5, "fit", "()I"⟩
abbrev cX5_number : ByteArray := prog_7_method_15_code
def yX5_number : MethodName := ⟨RX5, "number", "(I)D"⟩
abbrev cX5_told : ByteArray := prog_7_method_16_code
def yX5_told : MethodName := ⟨RX5, "told", "(IDDD)D"⟩
abbrev cX5_foretold : ByteArray := prog_7_method_17_code
def yX5_foretold : MethodName := ⟨RX5, "foretold", "(I)D"⟩
abbrev cX5_leftOut : ByteArray := prog_7_method_18_code
def yX5_leftOut : MethodName := ⟨RX5, "leftOut", "(I)D"⟩
abbrev cX5_limit : ByteArray := prog_7_method_19_code
def yX5_limit : MethodName := ⟨RX5, "limit", "(ID)V"⟩
abbrev cX5_setting : ByteArray := prog_7_method_20_code
def yX5_setting : MethodName := ⟨RX5, "setting", "(III)I"⟩
abbrev cX5_power : ByteArray := prog_7_method_21_code
def yX5_power : MethodName := ⟨RX5, "power", "(JI)J"⟩
abbrev cX5_odds : ByteArray := prog_7_method_22_code
def yX5_odds : MethodName := ⟨RX5, "odds", "(IIIII)J"⟩
abbrev cX5_chart : ByteArray := prog_7_method_23_code
def yX5_chart : MethodName := ⟨RX5, "chart", "(II)V"⟩
abbrev cX5_test : ByteArray := prog_7_method_24_code
def yX5_test : MethodName := ⟨RX5, "test", "(Z)Z"⟩
abbrev cX5_proof : ByteArray := prog_7_method_25_code
def yX5_proof : MethodName := ⟨RX5, "proof", "(D)I"⟩
abbrev cX5_about : ByteArray := prog_7_method_26_code
def yX5_about : MethodName := ⟨RX5, "about", "(II)I"⟩
abbrev cX5_reference : ByteArray := prog_7_method_27_code
def yX5_reference : MethodName := ⟨RX5, "reference", "(ID)I"⟩
abbrev cX5_drift : ByteArray := prog_7_method_28_code
def yX5_drift : MethodName := ⟨RX5, "drift", "(I)D"⟩
abbrev cX5_drawn : ByteArray := prog_7_method_29_code
def yX5_drawn : MethodName := ⟨RX5, "drawn", "(I)D"⟩
def RJ6 : String := "java/lang/Integer"
def TJ6 : u_T := fun k => match k with
  | _ => ("", "", "", false)
def tyJ6 : Nat → FieldType := fun k => match k with
  | _ => .int
theorem nmJ6 : ∀ a, a < 0 → ∀ b, b < 0 → a ≠ b → (TJ6 a).2.1 ≠ (TJ6 b).2.1 := by decide +kernel
theorem tyJ6_ok : ∀ k, k < 0 → parseFieldDescriptor (TJ6 k).2.2.1 = some (tyJ6 k) := by decide +kernel
abbrev cJ6_bitCount_0f7a4 : ByteArray := prog_12_method_49_code
def yJ6_bitCount_0f7a4 : MethodName := ⟨RJ6, "bitCount", "(I)I"⟩
def RJ0 : String := "java/lang/String"
def TJ0 : u_T := fun k => match k with
  | _ => ("", "", "", false)
def tyJ0 : Nat → FieldType := fun k => match k with
  | _ => .int
theorem nmJ0 : ∀ a, a < 0 → ∀ b, b < 0 → a ≠ b → (TJ0 a).2.1 ≠ (TJ0 b).2.1 := by decide +kernel
theorem tyJ0_ok : ∀ k, k < 0 → parseFieldDescriptor (TJ0 k).2.2.1 = some (tyJ0 k) := by decide +kernel
def RL : String := "StrengthRowsLaw"
abbrev cL_cell : ByteArray := method_2_code
def yL_cell : MethodName := ⟨RL, "cell", "([II)I"⟩
abbrev cL_board : ByteArray := method_3_code
def yL_board : MethodName := ⟨RL, "board", "(LStrengthRows;[J)I"⟩
abbrev cL_row : ByteArray := method_4_code
def yL_row : MethodName := ⟨RL, "row", "(LStrengthRows;ID[J)I"⟩
abbrev cL_echo : ByteArray := method_5_code
def yL_echo : MethodName := ⟨RL, "echo", "(LStrengthRows;IDD)I"⟩
abbrev cL_knots : ByteArray := method_6_code
def yL_knots : MethodName := ⟨RL, "knots", "(LStrengthRows;ID)I"⟩
abbrev cL_broken : ByteArray := method_7_code
def yL_broken : MethodName := ⟨RL, "broken", "(LStrengthRows;ID)I"⟩
abbrev cL_number : ByteArray := method_8_code
def yL_number : MethodName := ⟨RL, "number", "(LStrengthRows;I[D)I"⟩
abbrev cL_foretold : ByteArray := method_9_code
def yL_foretold : MethodName := ⟨RL, "foretold", "(LStrengthRows;I[D)I"⟩
abbrev cL_leftOut : ByteArray := method_10_code
def yL_leftOut : MethodName := ⟨RL, "leftOut", "(LStrengthRows;I[D)I"⟩
abbrev cL_limit : ByteArray := method_11_code
def yL_limit : MethodName := ⟨RL, "limit", "(LStrengthRows;ID)I"⟩
abbrev cL_setting : ByteArray := method_12_code
def yL_setting : MethodName := ⟨RL, "setting", "(LStrengthRows;III[J)I"⟩
abbrev cL_odds : ByteArray := method_13_code
def yL_odds : MethodName := ⟨RL, "odds", "(LStrengthRows;IIIII[J)I"⟩
abbrev cL_chart : ByteArray := method_14_code
def yL_chart : MethodName := ⟨RL, "chart", "(LStrengthRows;II)I"⟩
abbrev cL_proof : ByteArray := method_15_code
def yL_proof : MethodName := ⟨RL, "proof", "(LStrengthRows;D[J)I"⟩
abbrev cL_about : ByteArray := method_16_code
def yL_about : MethodName := ⟨RL, "about", "(LStrengthRows;II[J)I"⟩
abbrev cL_reference : ByteArray := method_17_code
def yL_reference : MethodName := ⟨RL, "reference", "(LStrengthRows;ID[J)I"⟩
abbrev cL_drift : ByteArray := method_18_code
def yL_drift : MethodName := ⟨RL, "drift", "(LStrengthRows;I[D)I"⟩
abbrev cL_drawn : ByteArray := method_19_code
def yL_drawn : MethodName := ⟨RL, "drawn", "(LStrengthRows;I[D)I"⟩
abbrev cL_law : ByteArray := code
def yL_law : MethodName := ⟨RL, "law", "([I)Z"⟩
theorem dX0_init_0 : decode cX0_init 0 = .ok (.aload_n 0, 1) := by decide +kernel
theorem dX0_init_1 : decode cX0_init 1 = .ok (.invokespecial 1, 3) := by decide +kernel
theorem dX0_init_4 : decode cX0_init 4 = .ok (.return_, 1) := by decide +kernel
theorem dX0_isComplete_0 : decode cX0_isComplete 0 = .ok (.aload_n 0, 1) := by decide +kernel
theorem dX0_isComplete_1 : decode cX0_isComplete 1 = .ok (.getfield 7, 3) := by decide +kernel
theorem dX0_isComplete_4 : decode cX0_isComplete 4 = .ok (.iconst 1, 1) := by decide +kernel
theorem dX0_isComplete_5 : decode cX0_isComplete 5 = .ok (.if_icmp .lt 16, 3) := by decide +kernel
theorem dX0_isComplete_8 : decode cX0_isComplete 8 = .ok (.aload_n 0, 1) := by decide +kernel
theorem dX0_isComplete_9 : decode cX0_isComplete 9 = .ok (.getfield 13, 3) := by decide +kernel
theorem dX0_isComplete_12 : decode cX0_isComplete 12 = .ok (.dconst 0, 1) := by decide +kernel
theorem dX0_isComplete_13 : decode cX0_isComplete 13 = .ok (.dcmp .l, 1) := by decide +kernel
theorem dX0_isComplete_14 : decode cX0_isComplete 14 = .ok (.ifCond .le 7, 3) := by decide +kernel
theorem dX0_isComplete_17 : decode cX0_isComplete 17 = .ok (.iconst 1, 1) := by decide +kernel
theorem dX0_isComplete_18 : decode cX0_isComplete 18 = .ok (.goto 4, 3) := by decide +kernel
theorem dX0_isComplete_21 : decode cX0_isComplete 21 = .ok (.iconst 0, 1) := by decide +kernel
theorem dX0_isComplete_22 : decode cX0_isComplete 22 = .ok (.ireturn, 1) := by decide +kernel
theorem dX0_isFitted_0 : decode cX0_isFitted 0 = .ok (.aload_n 0, 1) := by decide +kernel
theorem dX0_isFitted_1 : decode cX0_isFitted 1 = .ok (.invokevirtual 17, 3) := by decide +kernel
theorem dX0_isFitted_4 : decode cX0_isFitted 4 = .ok (.ifCond .eq 14, 3) := by decide +kernel
theorem dX0_isFitted_7 : decode cX0_isFitted 7 = .ok (.aload_n 0, 1) := by decide +kernel
theorem dX0_isFitted_8 : decode cX0_isFitted 8 = .ok (.getfield 21, 3) := by decide +kernel
theorem dX0_isFitted_11 : decode cX0_isFitted 11 = .ok (.ifCond .eq 7, 3) := by decide +kernel
theorem dX0_isFitted_14 : decode cX0_isFitted 14 = .ok (.iconst 1, 1) := by decide +kernel
theorem dX0_isFitted_15 : decode cX0_isFitted 15 = .ok (.goto 4, 3) := by decide +kernel
theorem dX0_isFitted_18 : decode cX0_isFitted 18 = .ok (.iconst 0, 1) := by decide +kernel
theorem dX0_isFitted_19 : decode cX0_isFitted 19 = .ok (.ireturn, 1) := by decide +kernel
theorem dX0_mean_0 : decode cX0_mean 0 = .ok (.aload_n 0, 1) := by decide +kernel
theorem dX0_mean_1 : decode cX0_mean 1 = .ok (.getfield 7, 3) := by decide +kernel
theorem dX0_mean_4 : decode cX0_mean 4 = .ok (.ifCond .le 16, 3) := by decide +kernel
theorem dX0_mean_7 : decode cX0_mean 7 = .ok (.aload_n 0, 1) := by decide +kernel
theorem dX0_mean_8 : decode cX0_mean 8 = .ok (.getfield 25, 3) := by decide +kernel
theorem dX0_mean_11 : decode cX0_mean 11 = .ok (.aload_n 0, 1) := by decide +kernel
theorem dX0_mean_12 : decode cX0_mean 12 = .ok (.getfield 7, 3) := by decide +kernel
theorem dX0_mean_15 : decode cX0_mean 15 = .ok (.i2d, 1) := by decide +kernel
theorem dX0_mean_16 : decode cX0_mean 16 = .ok (.ddiv, 1) := by decide +kernel
theorem dX0_mean_17 : decode cX0_mean 17 = .ok (.goto 4, 3) := by decide +kernel
theorem dX0_mean_20 : decode cX0_mean 20 = .ok (.dconst 0, 1) := by decide +kernel
theorem dX0_mean_21 : decode cX0_mean 21 = .ok (.dreturn, 1) := by decide +kernel
theorem dX0_term_0 : decode cX0_term 0 = .ok (.iload_n 1, 1) := by decide +kernel
theorem dX0_term_1 : decode cX0_term 1 = .ok (.ifCond .ne 5, 3) := by decide +kernel
theorem dX0_term_4 : decode cX0_term 4 = .ok (.dconst 1, 1) := by decide +kernel
theorem dX0_term_5 : decode cX0_term 5 = .ok (.dreturn, 1) := by decide +kernel
theorem dX0_term_6 : decode cX0_term 6 = .ok (.iload_n 1, 1) := by decide +kernel
theorem dX0_term_7 : decode cX0_term 7 = .ok (.iconst 1, 1) := by decide +kernel
theorem dX0_term_8 : decode cX0_term 8 = .ok (.if_icmp .ne 19, 3) := by decide +kernel
theorem dX0_term_11 : decode cX0_term 11 = .ok (.aload_n 0, 1) := by decide +kernel
theorem dX0_term_12 : decode cX0_term 12 = .ok (.invokevirtual 28, 3) := by decide +kernel
theorem dX0_term_15 : decode cX0_term 15 = .ok (.aload_n 0, 1) := by decide +kernel
theorem dX0_term_16 : decode cX0_term 16 = .ok (.getfield 13, 3) := by decide +kernel
theorem dX0_term_19 : decode cX0_term 19 = .ok (.dadd, 1) := by decide +kernel
theorem dX0_term_20 : decode cX0_term 20 = .ok (.ldc2_w 32, 3) := by decide +kernel
theorem dX0_term_23 : decode cX0_term 23 = .ok (.ddiv, 1) := by decide +kernel
theorem dX0_term_24 : decode cX0_term 24 = .ok (.goto 9, 3) := by decide +kernel
theorem dX0_term_27 : decode cX0_term 27 = .ok (.dconst 1, 1) := by decide +kernel
theorem dX0_term_28 : decode cX0_term 28 = .ok (.aload_n 0, 1) := by decide +kernel
theorem dX0_term_29 : decode cX0_term 29 = .ok (.getfield 34, 3) := by decide +kernel
theorem dX0_term_32 : decode cX0_term 32 = .ok (.dsub, 1) := by decide +kernel
theorem dX0_term_33 : decode cX0_term 33 = .ok (.dreturn, 1) := by decide +kernel
theorem dX1_init_0 : decode cX1_init 0 = .ok (.aload_n 0, 1) := by decide +kernel
theorem dX1_init_1 : decode cX1_init 1 = .ok (.invokespecial 3, 3) := by decide +kernel
theorem dX1_init_4 : decode cX1_init 4 = .ok (.aload_n 0, 1) := by decide +kernel
theorem dX1_init_5 : decode cX1_init 5 = .ok (.bipush 10, 2) := by decide +kernel
theorem dX1_init_7 : decode cX1_init 7 = .ok (.putfield 9, 3) := by decide +kernel
theorem dX1_init_10 : decode cX1_init 10 = .ok (.aload_n 0, 1) := by decide +kernel
theorem dX1_init_11 : decode cX1_init 11 = .ok (.iconst 1, 1) := by decide +kernel
theorem dX1_init_12 : decode cX1_init 12 = .ok (.putfield 15, 3) := by decide +kernel
theorem dX1_init_15 : decode cX1_init 15 = .ok (.return_, 1) := by decide +kernel
theorem dX1_begin_0 : decode cX1_begin 0 = .ok (.aload_n 0, 1) := by decide +kernel
theorem dX1_begin_1 : decode cX1_begin 1 = .ok (.iload_n 1, 1) := by decide +kernel
theorem dX1_begin_2 : decode cX1_begin 2 = .ok (.putfield 9, 3) := by decide +kernel
theorem dX1_begin_5 : decode cX1_begin 5 = .ok (.aload_n 0, 1) := by decide +kernel
theorem dX1_begin_6 : decode cX1_begin 6 = .ok (.iload_n 2, 1) := by decide +kernel
theorem dX1_begin_7 : decode cX1_begin 7 = .ok (.putfield 15, 3) := by decide +kernel
theorem dX1_begin_10 : decode cX1_begin 10 = .ok (.aload_n 0, 1) := by decide +kernel
theorem dX1_begin_11 : decode cX1_begin 11 = .ok (.iconst 0, 1) := by decide +kernel
theorem dX1_begin_12 : decode cX1_begin 12 = .ok (.putfield 18, 3) := by decide +kernel
theorem dX1_begin_15 : decode cX1_begin 15 = .ok (.aload_n 0, 1) := by decide +kernel
theorem dX1_begin_16 : decode cX1_begin 16 = .ok (.iconst 0, 1) := by decide +kernel
theorem dX1_begin_17 : decode cX1_begin 17 = .ok (.putfield 21, 3) := by decide +kernel
theorem dX1_begin_20 : decode cX1_begin 20 = .ok (.return_, 1) := by decide +kernel
theorem dX1_actsAt_0 : decode cX1_actsAt 0 = .ok (.aload_n 0, 1) := by decide +kernel
theorem dX1_actsAt_1 : decode cX1_actsAt 1 = .ok (.aload_n 0, 1) := by decide +kernel
theorem dX1_actsAt_2 : decode cX1_actsAt 2 = .ok (.getfield 18, 3) := by decide +kernel
theorem dX1_actsAt_5 : decode cX1_actsAt 5 = .ok (.iconst 1, 1) := by decide +kernel
theorem dX1_actsAt_6 : decode cX1_actsAt 6 = .ok (.ishl, 1) := by decide +kernel
theorem dX1_actsAt_7 : decode cX1_actsAt 7 = .ok (.iload_n 1, 1) := by decide +kernel
theorem dX1_actsAt_8 : decode cX1_actsAt 8 = .ok (.ifCond .eq 7, 3) := by decide +kernel
theorem dX1_actsAt_11 : decode cX1_actsAt 11 = .ok (.iconst 1, 1) := by decide +kernel
theorem dX1_actsAt_12 : decode cX1_actsAt 12 = .ok (.goto 4, 3) := by decide +kernel
theorem dX1_actsAt_15 : decode cX1_actsAt 15 = .ok (.iconst 0, 1) := by decide +kernel
theorem dX1_actsAt_16 : decode cX1_actsAt 16 = .ok (.ior, 1) := by decide +kernel
theorem dX1_actsAt_17 : decode cX1_actsAt 17 = .ok (.iconst 1, 1) := by decide +kernel
theorem dX1_actsAt_18 : decode cX1_actsAt 18 = .ok (.aload_n 0, 1) := by decide +kernel
theorem dX1_actsAt_19 : decode cX1_actsAt 19 = .ok (.getfield 9, 3) := by decide +kernel
theorem dX1_actsAt_22 : decode cX1_actsAt 22 = .ok (.ishl, 1) := by decide +kernel
theorem dX1_actsAt_23 : decode cX1_actsAt 23 = .ok (.iconst 1, 1) := by decide +kernel
theorem dX1_actsAt_24 : decode cX1_actsAt 24 = .ok (.isub, 1) := by decide +kernel
theorem dX1_actsAt_25 : decode cX1_actsAt 25 = .ok (.iand, 1) := by decide +kernel
theorem dX1_actsAt_26 : decode cX1_actsAt 26 = .ok (.putfield 18, 3) := by decide +kernel
theorem dX1_actsAt_29 : decode cX1_actsAt 29 = .ok (.aload_n 0, 1) := by decide +kernel
theorem dX1_actsAt_30 : decode cX1_actsAt 30 = .ok (.getfield 21, 3) := by decide +kernel
theorem dX1_actsAt_33 : decode cX1_actsAt 33 = .ok (.ifCond .le 15, 3) := by decide +kernel
theorem dX1_actsAt_36 : decode cX1_actsAt 36 = .ok (.aload_n 0, 1) := by decide +kernel
theorem dX1_actsAt_37 : decode cX1_actsAt 37 = .ok (.dup, 1) := by decide +kernel
theorem dX1_actsAt_38 : decode cX1_actsAt 38 = .ok (.getfield 21, 3) := by decide +kernel
theorem dX1_actsAt_41 : decode cX1_actsAt 41 = .ok (.iconst 1, 1) := by decide +kernel
theorem dX1_actsAt_42 : decode cX1_actsAt 42 = .ok (.isub, 1) := by decide +kernel
theorem dX1_actsAt_43 : decode cX1_actsAt 43 = .ok (.putfield 21, 3) := by decide +kernel
theorem dX1_actsAt_46 : decode cX1_actsAt 46 = .ok (.iconst 0, 1) := by decide +kernel
theorem dX1_actsAt_47 : decode cX1_actsAt 47 = .ok (.ireturn, 1) := by decide +kernel
theorem dX1_actsAt_48 : decode cX1_actsAt 48 = .ok (.aload_n 0, 1) := by decide +kernel
theorem dX1_actsAt_49 : decode cX1_actsAt 49 = .ok (.getfield 18, 3) := by decide +kernel
theorem dX1_actsAt_52 : decode cX1_actsAt 52 = .ok (.invokestatic 24, 3) := by decide +kernel
theorem dX1_actsAt_55 : decode cX1_actsAt 55 = .ok (.aload_n 0, 1) := by decide +kernel
theorem dX1_actsAt_56 : decode cX1_actsAt 56 = .ok (.getfield 15, 3) := by decide +kernel
theorem dX1_actsAt_59 : decode cX1_actsAt 59 = .ok (.if_icmp .gt 5, 3) := by decide +kernel
theorem dX1_actsAt_62 : decode cX1_actsAt 62 = .ok (.iconst 0, 1) := by decide +kernel
theorem dX1_actsAt_63 : decode cX1_actsAt 63 = .ok (.ireturn, 1) := by decide +kernel
theorem dX1_actsAt_64 : decode cX1_actsAt 64 = .ok (.aload_n 0, 1) := by decide +kernel
theorem dX1_actsAt_65 : decode cX1_actsAt 65 = .ok (.aload_n 0, 1) := by decide +kernel
theorem dX1_actsAt_66 : decode cX1_actsAt 66 = .ok (.getfield 9, 3) := by decide +kernel
theorem dX1_actsAt_69 : decode cX1_actsAt 69 = .ok (.putfield 21, 3) := by decide +kernel
theorem dX1_actsAt_72 : decode cX1_actsAt 72 = .ok (.iconst 1, 1) := by decide +kernel
theorem dX1_actsAt_73 : decode cX1_actsAt 73 = .ok (.ireturn, 1) := by decide +kernel
theorem dX2_init_0 : decode cX2_init 0 = .ok (.aload_n 0, 1) := by decide +kernel
theorem dX2_init_1 : decode cX2_init 1 = .ok (.invokespecial 3, 3) := by decide +kernel
theorem dX2_init_4 : decode cX2_init 4 = .ok (.aload_n 0, 1) := by decide +kernel
theorem dX2_init_5 : decode cX2_init 5 = .ok (.iconst 3, 1) := by decide +kernel
theorem dX2_init_6 : decode cX2_init 6 = .ok (.iconst 3, 1) := by decide +kernel
theorem dX2_init_7 : decode cX2_init 7 = .ok (.multianewarray 9 2, 4) := by decide +kernel
theorem dX2_init_11 : decode cX2_init 11 = .ok (.putfield 11, 3) := by decide +kernel
theorem dX2_init_14 : decode cX2_init 14 = .ok (.aload_n 0, 1) := by decide +kernel
theorem dX2_init_15 : decode cX2_init 15 = .ok (.iconst 3, 1) := by decide +kernel
theorem dX2_init_16 : decode cX2_init 16 = .ok (.newarray .double, 2) := by decide +kernel
theorem dX2_init_18 : decode cX2_init 18 = .ok (.putfield 16, 3) := by decide +kernel
theorem dX2_init_21 : decode cX2_init 21 = .ok (.aload_n 0, 1) := by decide +kernel
theorem dX2_init_22 : decode cX2_init 22 = .ok (.iconst 3, 1) := by decide +kernel
theorem dX2_init_23 : decode cX2_init 23 = .ok (.newarray .double, 2) := by decide +kernel
theorem dX2_init_25 : decode cX2_init 25 = .ok (.putfield 20, 3) := by decide +kernel
theorem dX2_init_28 : decode cX2_init 28 = .ok (.return_, 1) := by decide +kernel
theorem dX2_reckon_0 : decode cX2_reckon 0 = .ok (.aload_n 0, 1) := by decide +kernel
theorem dX2_reckon_1 : decode cX2_reckon 1 = .ok (.invokevirtual 23, 3) := by decide +kernel
theorem dX2_reckon_4 : decode cX2_reckon 4 = .ok (.aload_n 1, 1) := by decide +kernel
theorem dX2_reckon_5 : decode cX2_reckon 5 = .ok (.astore_n 3, 1) := by decide +kernel
theorem dX2_reckon_6 : decode cX2_reckon 6 = .ok (.aload_n 3, 1) := by decide +kernel
theorem dX2_reckon_7 : decode cX2_reckon 7 = .ok (.arraylength, 1) := by decide +kernel
theorem dX2_reckon_8 : decode cX2_reckon 8 = .ok (.istore 4, 2) := by decide +kernel
theorem dX2_reckon_10 : decode cX2_reckon 10 = .ok (.iconst 0, 1) := by decide +kernel
theorem dX2_reckon_11 : decode cX2_reckon 11 = .ok (.istore 5, 2) := by decide +kernel
theorem dX2_reckon_13 : decode cX2_reckon 13 = .ok (.iload 5, 2) := by decide +kernel
theorem dX2_reckon_15 : decode cX2_reckon 15 = .ok (.iload 4, 2) := by decide +kernel
theorem dX2_reckon_17 : decode cX2_reckon 17 = .ok (.if_icmp .ge 35, 3) := by decide +kernel
theorem dX2_reckon_20 : decode cX2_reckon 20 = .ok (.aload_n 3, 1) := by decide +kernel
theorem dX2_reckon_21 : decode cX2_reckon 21 = .ok (.iload 5, 2) := by decide +kernel
theorem dX2_reckon_23 : decode cX2_reckon 23 = .ok (.aaload, 1) := by decide +kernel
theorem dX2_reckon_24 : decode cX2_reckon 24 = .ok (.astore 6, 2) := by decide +kernel
theorem dX2_reckon_26 : decode cX2_reckon 26 = .ok (.aload 6, 2) := by decide +kernel
theorem dX2_reckon_28 : decode cX2_reckon 28 = .ok (.invokevirtual 26, 3) := by decide +kernel
theorem dX2_reckon_31 : decode cX2_reckon 31 = .ok (.ifCond .eq 15, 3) := by decide +kernel
theorem dX2_reckon_34 : decode cX2_reckon 34 = .ok (.aload 6, 2) := by decide +kernel
theorem dX2_reckon_36 : decode cX2_reckon 36 = .ok (.aload_n 2, 1) := by decide +kernel
theorem dX2_reckon_37 : decode cX2_reckon 37 = .ok (.if_acmp .eq 9, 3) := by decide +kernel
theorem dX2_reckon_40 : decode cX2_reckon 40 = .ok (.aload_n 0, 1) := by decide +kernel
theorem dX2_reckon_41 : decode cX2_reckon 41 = .ok (.aload 6, 2) := by decide +kernel
theorem dX2_reckon_43 : decode cX2_reckon 43 = .ok (.invokevirtual 32, 3) := by decide +kernel
theorem dX2_reckon_46 : decode cX2_reckon 46 = .ok (.iinc 5 1, 3) := by decide +kernel
theorem dX2_reckon_49 : decode cX2_reckon 49 = .ok (.goto (-36), 3) := by decide +kernel
theorem dX2_reckon_52 : decode cX2_reckon 52 = .ok (.aload_n 0, 1) := by decide +kernel
theorem dX2_reckon_53 : decode cX2_reckon 53 = .ok (.invokevirtual 36, 3) := by decide +kernel
theorem dX2_reckon_56 : decode cX2_reckon 56 = .ok (.istore_n 3, 1) := by decide +kernel
theorem dX2_reckon_57 : decode cX2_reckon 57 = .ok (.aload_n 0, 1) := by decide +kernel
theorem dX2_reckon_58 : decode cX2_reckon 58 = .ok (.invokevirtual 40, 3) := by decide +kernel
theorem dX2_reckon_61 : decode cX2_reckon 61 = .ok (.iload_n 3, 1) := by decide +kernel
theorem dX2_reckon_62 : decode cX2_reckon 62 = .ok (.ireturn, 1) := by decide +kernel
theorem dX2_foretell_0 : decode cX2_foretell 0 = .ok (.aload_n 0, 1) := by decide +kernel
theorem dX2_foretell_1 : decode cX2_foretell 1 = .ok (.getfield 20, 3) := by decide +kernel
theorem dX2_foretell_4 : decode cX2_foretell 4 = .ok (.iconst 0, 1) := by decide +kernel
theorem dX2_foretell_5 : decode cX2_foretell 5 = .ok (.daload, 1) := by decide +kernel
theorem dX2_foretell_6 : decode cX2_foretell 6 = .ok (.aload_n 1, 1) := by decide +kernel
theorem dX2_foretell_7 : decode cX2_foretell 7 = .ok (.iconst 0, 1) := by decide +kernel
theorem dX2_foretell_8 : decode cX2_foretell 8 = .ok (.invokevirtual 43, 3) := by decide +kernel
theorem dX2_foretell_11 : decode cX2_foretell 11 = .ok (.dmul, 1) := by decide +kernel
theorem dX2_foretell_12 : decode cX2_foretell 12 = .ok (.aload_n 0, 1) := by decide +kernel
theorem dX2_foretell_13 : decode cX2_foretell 13 = .ok (.getfield 20, 3) := by decide +kernel
theorem dX2_foretell_16 : decode cX2_foretell 16 = .ok (.iconst 1, 1) := by decide +kernel
theorem dX2_foretell_17 : decode cX2_foretell 17 = .ok (.daload, 1) := by decide +kernel
theorem dX2_foretell_18 : decode cX2_foretell 18 = .ok (.aload_n 1, 1) := by decide +kernel
theorem dX2_foretell_19 : decode cX2_foretell 19 = .ok (.iconst 1, 1) := by decide +kernel
theorem dX2_foretell_20 : decode cX2_foretell 20 = .ok (.invokevirtual 43, 3) := by decide +kernel
theorem dX2_foretell_23 : decode cX2_foretell 23 = .ok (.dmul, 1) := by decide +kernel
theorem dX2_foretell_24 : decode cX2_foretell 24 = .ok (.dadd, 1) := by decide +kernel
theorem dX2_foretell_25 : decode cX2_foretell 25 = .ok (.aload_n 0, 1) := by decide +kernel
theorem dX2_foretell_26 : decode cX2_foretell 26 = .ok (.getfield 20, 3) := by decide +kernel
theorem dX2_foretell_29 : decode cX2_foretell 29 = .ok (.iconst 2, 1) := by decide +kernel
theorem dX2_foretell_30 : decode cX2_foretell 30 = .ok (.daload, 1) := by decide +kernel
theorem dX2_foretell_31 : decode cX2_foretell 31 = .ok (.aload_n 1, 1) := by decide +kernel
theorem dX2_foretell_32 : decode cX2_foretell 32 = .ok (.iconst 2, 1) := by decide +kernel
theorem dX2_foretell_33 : decode cX2_foretell 33 = .ok (.invokevirtual 43, 3) := by decide +kernel
theorem dX2_foretell_36 : decode cX2_foretell 36 = .ok (.dmul, 1) := by decide +kernel
theorem dX2_foretell_37 : decode cX2_foretell 37 = .ok (.dadd, 1) := by decide +kernel
theorem dX2_foretell_38 : decode cX2_foretell 38 = .ok (.dreturn, 1) := by decide +kernel
theorem dX2_clear_0 : decode cX2_clear 0 = .ok (.iconst 0, 1) := by decide +kernel
theorem dX2_clear_1 : decode cX2_clear 1 = .ok (.istore_n 1, 1) := by decide +kernel
theorem dX2_clear_2 : decode cX2_clear 2 = .ok (.iload_n 1, 1) := by decide +kernel
theorem dX2_clear_3 : decode cX2_clear 3 = .ok (.iconst 3, 1) := by decide +kernel
theorem dX2_clear_4 : decode cX2_clear 4 = .ok (.if_icmp .ge 38, 3) := by decide +kernel
theorem dX2_clear_7 : decode cX2_clear 7 = .ok (.aload_n 0, 1) := by decide +kernel
theorem dX2_clear_8 : decode cX2_clear 8 = .ok (.getfield 16, 3) := by decide +kernel
theorem dX2_clear_11 : decode cX2_clear 11 = .ok (.iload_n 1, 1) := by decide +kernel
theorem dX2_clear_12 : decode cX2_clear 12 = .ok (.dconst 0, 1) := by decide +kernel
theorem dX2_clear_13 : decode cX2_clear 13 = .ok (.dastore, 1) := by decide +kernel
theorem dX2_clear_14 : decode cX2_clear 14 = .ok (.iconst 0, 1) := by decide +kernel
theorem dX2_clear_15 : decode cX2_clear 15 = .ok (.istore_n 2, 1) := by decide +kernel
theorem dX2_clear_16 : decode cX2_clear 16 = .ok (.iload_n 2, 1) := by decide +kernel
theorem dX2_clear_17 : decode cX2_clear 17 = .ok (.iconst 3, 1) := by decide +kernel
theorem dX2_clear_18 : decode cX2_clear 18 = .ok (.if_icmp .ge 18, 3) := by decide +kernel
theorem dX2_clear_21 : decode cX2_clear 21 = .ok (.aload_n 0, 1) := by decide +kernel
theorem dX2_clear_22 : decode cX2_clear 22 = .ok (.getfield 11, 3) := by decide +kernel
theorem dX2_clear_25 : decode cX2_clear 25 = .ok (.iload_n 1, 1) := by decide +kernel
theorem dX2_clear_26 : decode cX2_clear 26 = .ok (.aaload, 1) := by decide +kernel
theorem dX2_clear_27 : decode cX2_clear 27 = .ok (.iload_n 2, 1) := by decide +kernel
theorem dX2_clear_28 : decode cX2_clear 28 = .ok (.dconst 0, 1) := by decide +kernel
theorem dX2_clear_29 : decode cX2_clear 29 = .ok (.dastore, 1) := by decide +kernel
theorem dX2_clear_30 : decode cX2_clear 30 = .ok (.iinc 2 1, 3) := by decide +kernel
theorem dX2_clear_33 : decode cX2_clear 33 = .ok (.goto (-17), 3) := by decide +kernel
theorem dX2_clear_36 : decode cX2_clear 36 = .ok (.iinc 1 1, 3) := by decide +kernel
theorem dX2_clear_39 : decode cX2_clear 39 = .ok (.goto (-37), 3) := by decide +kernel
theorem dX2_clear_42 : decode cX2_clear 42 = .ok (.return_, 1) := by decide +kernel
theorem dX2_add_0 : decode cX2_add 0 = .ok (.iconst 0, 1) := by decide +kernel
theorem dX2_add_1 : decode cX2_add 1 = .ok (.istore_n 2, 1) := by decide +kernel
theorem dX2_add_2 : decode cX2_add 2 = .ok (.iload_n 2, 1) := by decide +kernel
theorem dX2_add_3 : decode cX2_add 3 = .ok (.iconst 3, 1) := by decide +kernel
theorem dX2_add_4 : decode cX2_add 4 = .ok (.if_icmp .ge 73, 3) := by decide +kernel
theorem dX2_add_7 : decode cX2_add 7 = .ok (.aload_n 0, 1) := by decide +kernel
theorem dX2_add_8 : decode cX2_add 8 = .ok (.getfield 16, 3) := by decide +kernel
theorem dX2_add_11 : decode cX2_add 11 = .ok (.iload_n 2, 1) := by decide +kernel
theorem dX2_add_12 : decode cX2_add 12 = .ok (.aload_n 0, 1) := by decide +kernel
theorem dX2_add_13 : decode cX2_add 13 = .ok (.getfield 16, 3) := by decide +kernel
theorem dX2_add_16 : decode cX2_add 16 = .ok (.iload_n 2, 1) := by decide +kernel
theorem dX2_add_17 : decode cX2_add 17 = .ok (.daload, 1) := by decide +kernel
theorem dX2_add_18 : decode cX2_add 18 = .ok (.aload_n 1, 1) := by decide +kernel
theorem dX2_add_19 : decode cX2_add 19 = .ok (.iload_n 2, 1) := by decide +kernel
theorem dX2_add_20 : decode cX2_add 20 = .ok (.invokevirtual 43, 3) := by decide +kernel
theorem dX2_add_23 : decode cX2_add 23 = .ok (.aload_n 1, 1) := by decide +kernel
theorem dX2_add_24 : decode cX2_add 24 = .ok (.getfield 47, 3) := by decide +kernel
theorem dX2_add_27 : decode cX2_add 27 = .ok (.dmul, 1) := by decide +kernel
theorem dX2_add_28 : decode cX2_add 28 = .ok (.dadd, 1) := by decide +kernel
theorem dX2_add_29 : decode cX2_add 29 = .ok (.dastore, 1) := by decide +kernel
theorem dX2_add_30 : decode cX2_add 30 = .ok (.iconst 0, 1) := by decide +kernel
theorem dX2_add_31 : decode cX2_add 31 = .ok (.istore_n 3, 1) := by decide +kernel
theorem dX2_add_32 : decode cX2_add 32 = .ok (.iload_n 3, 1) := by decide +kernel
theorem dX2_add_33 : decode cX2_add 33 = .ok (.iconst 3, 1) := by decide +kernel
theorem dX2_add_34 : decode cX2_add 34 = .ok (.if_icmp .ge 37, 3) := by decide +kernel
theorem dX2_add_37 : decode cX2_add 37 = .ok (.aload_n 0, 1) := by decide +kernel
theorem dX2_add_38 : decode cX2_add 38 = .ok (.getfield 11, 3) := by decide +kernel
theorem dX2_add_41 : decode cX2_add 41 = .ok (.iload_n 2, 1) := by decide +kernel
theorem dX2_add_42 : decode cX2_add 42 = .ok (.aaload, 1) := by decide +kernel
theorem dX2_add_43 : decode cX2_add 43 = .ok (.iload_n 3, 1) := by decide +kernel
theorem dX2_add_44 : decode cX2_add 44 = .ok (.aload_n 0, 1) := by decide +kernel
theorem dX2_add_45 : decode cX2_add 45 = .ok (.getfield 11, 3) := by decide +kernel
theorem dX2_add_48 : decode cX2_add 48 = .ok (.iload_n 2, 1) := by decide +kernel
theorem dX2_add_49 : decode cX2_add 49 = .ok (.aaload, 1) := by decide +kernel
theorem dX2_add_50 : decode cX2_add 50 = .ok (.iload_n 3, 1) := by decide +kernel
theorem dX2_add_51 : decode cX2_add 51 = .ok (.daload, 1) := by decide +kernel
theorem dX2_add_52 : decode cX2_add 52 = .ok (.aload_n 1, 1) := by decide +kernel
theorem dX2_add_53 : decode cX2_add 53 = .ok (.iload_n 2, 1) := by decide +kernel
theorem dX2_add_54 : decode cX2_add 54 = .ok (.invokevirtual 43, 3) := by decide +kernel
theorem dX2_add_57 : decode cX2_add 57 = .ok (.aload_n 1, 1) := by decide +kernel
theorem dX2_add_58 : decode cX2_add 58 = .ok (.iload_n 3, 1) := by decide +kernel
theorem dX2_add_59 : decode cX2_add 59 = .ok (.invokevirtual 43, 3) := by decide +kernel
theorem dX2_add_62 : decode cX2_add 62 = .ok (.dmul, 1) := by decide +kernel
theorem dX2_add_63 : decode cX2_add 63 = .ok (.dadd, 1) := by decide +kernel
theorem dX2_add_64 : decode cX2_add 64 = .ok (.dastore, 1) := by decide +kernel
theorem dX2_add_65 : decode cX2_add 65 = .ok (.iinc 3 1, 3) := by decide +kernel
theorem dX2_add_68 : decode cX2_add 68 = .ok (.goto (-36), 3) := by decide +kernel
theorem dX2_add_71 : decode cX2_add 71 = .ok (.iinc 2 1, 3) := by decide +kernel
theorem dX2_add_74 : decode cX2_add 74 = .ok (.goto (-72), 3) := by decide +kernel
theorem dX2_add_77 : decode cX2_add 77 = .ok (.return_, 1) := by decide +kernel
theorem dX2_eliminate_0 : decode cX2_eliminate 0 = .ok (.iconst 0, 1) := by decide +kernel
theorem dX2_eliminate_1 : decode cX2_eliminate 1 = .ok (.istore_n 1, 1) := by decide +kernel
theorem dX2_eliminate_2 : decode cX2_eliminate 2 = .ok (.iconst 0, 1) := by decide +kernel
theorem dX2_eliminate_3 : decode cX2_eliminate 3 = .ok (.istore_n 2, 1) := by decide +kernel
theorem dX2_eliminate_4 : decode cX2_eliminate 4 = .ok (.iload_n 2, 1) := by decide +kernel
theorem dX2_eliminate_5 : decode cX2_eliminate 5 = .ok (.iconst 3, 1) := by decide +kernel
theorem dX2_eliminate_6 : decode cX2_eliminate 6 = .ok (.if_icmp .ge 58, 3) := by decide +kernel
theorem dX2_eliminate_9 : decode cX2_eliminate 9 = .ok (.aload_n 0, 1) := by decide +kernel
theorem dX2_eliminate_10 : decode cX2_eliminate 10 = .ok (.iload_n 2, 1) := by decide +kernel
theorem dX2_eliminate_11 : decode cX2_eliminate 11 = .ok (.invokevirtual 51, 3) := by decide +kernel
theorem dX2_eliminate_14 : decode cX2_eliminate 14 = .ok (.ifCond .ne 44, 3) := by decide +kernel
theorem dX2_eliminate_17 : decode cX2_eliminate 17 = .ok (.iinc 1 1, 3) := by decide +kernel
theorem dX2_eliminate_20 : decode cX2_eliminate 20 = .ok (.iload_n 2, 1) := by decide +kernel
theorem dX2_eliminate_21 : decode cX2_eliminate 21 = .ok (.iconst 1, 1) := by decide +kernel
theorem dX2_eliminate_22 : decode cX2_eliminate 22 = .ok (.iadd, 1) := by decide +kernel
theorem dX2_eliminate_23 : decode cX2_eliminate 23 = .ok (.istore_n 3, 1) := by decide +kernel
theorem dX2_eliminate_24 : decode cX2_eliminate 24 = .ok (.iload_n 3, 1) := by decide +kernel
theorem dX2_eliminate_25 : decode cX2_eliminate 25 = .ok (.iconst 3, 1) := by decide +kernel
theorem dX2_eliminate_26 : decode cX2_eliminate 26 = .ok (.if_icmp .ge 32, 3) := by decide +kernel
theorem dX2_eliminate_29 : decode cX2_eliminate 29 = .ok (.aload_n 0, 1) := by decide +kernel
theorem dX2_eliminate_30 : decode cX2_eliminate 30 = .ok (.iload_n 3, 1) := by decide +kernel
theorem dX2_eliminate_31 : decode cX2_eliminate 31 = .ok (.iload_n 2, 1) := by decide +kernel
theorem dX2_eliminate_32 : decode cX2_eliminate 32 = .ok (.aload_n 0, 1) := by decide +kernel
theorem dX2_eliminate_33 : decode cX2_eliminate 33 = .ok (.getfield 11, 3) := by decide +kernel
theorem dX2_eliminate_36 : decode cX2_eliminate 36 = .ok (.iload_n 3, 1) := by decide +kernel
theorem dX2_eliminate_37 : decode cX2_eliminate 37 = .ok (.aaload, 1) := by decide +kernel
theorem dX2_eliminate_38 : decode cX2_eliminate 38 = .ok (.iload_n 2, 1) := by decide +kernel
theorem dX2_eliminate_39 : decode cX2_eliminate 39 = .ok (.daload, 1) := by decide +kernel
theorem dX2_eliminate_40 : decode cX2_eliminate 40 = .ok (.aload_n 0, 1) := by decide +kernel
theorem dX2_eliminate_41 : decode cX2_eliminate 41 = .ok (.getfield 11, 3) := by decide +kernel
theorem dX2_eliminate_44 : decode cX2_eliminate 44 = .ok (.iload_n 2, 1) := by decide +kernel
theorem dX2_eliminate_45 : decode cX2_eliminate 45 = .ok (.aaload, 1) := by decide +kernel
theorem dX2_eliminate_46 : decode cX2_eliminate 46 = .ok (.iload_n 2, 1) := by decide +kernel
theorem dX2_eliminate_47 : decode cX2_eliminate 47 = .ok (.daload, 1) := by decide +kernel
theorem dX2_eliminate_48 : decode cX2_eliminate 48 = .ok (.ddiv, 1) := by decide +kernel
theorem dX2_eliminate_49 : decode cX2_eliminate 49 = .ok (.invokevirtual 55, 3) := by decide +kernel
theorem dX2_eliminate_52 : decode cX2_eliminate 52 = .ok (.iinc 3 1, 3) := by decide +kernel
theorem dX2_eliminate_55 : decode cX2_eliminate 55 = .ok (.goto (-31), 3) := by decide +kernel
theorem dX2_eliminate_58 : decode cX2_eliminate 58 = .ok (.iinc 2 1, 3) := by decide +kernel
theorem dX2_eliminate_61 : decode cX2_eliminate 61 = .ok (.goto (-57), 3) := by decide +kernel
theorem dX2_eliminate_64 : decode cX2_eliminate 64 = .ok (.iload_n 1, 1) := by decide +kernel
theorem dX2_eliminate_65 : decode cX2_eliminate 65 = .ok (.ireturn, 1) := by decide +kernel
theorem dX2_lessen_0 : decode cX2_lessen 0 = .ok (.iload_n 2, 1) := by decide +kernel
theorem dX2_lessen_1 : decode cX2_lessen 1 = .ok (.istore 5, 2) := by decide +kernel
theorem dX2_lessen_3 : decode cX2_lessen 3 = .ok (.iload 5, 2) := by decide +kernel
theorem dX2_lessen_5 : decode cX2_lessen 5 = .ok (.iconst 3, 1) := by decide +kernel
theorem dX2_lessen_6 : decode cX2_lessen 6 = .ok (.if_icmp .ge 39, 3) := by decide +kernel
theorem dX2_lessen_9 : decode cX2_lessen 9 = .ok (.aload_n 0, 1) := by decide +kernel
theorem dX2_lessen_10 : decode cX2_lessen 10 = .ok (.getfield 11, 3) := by decide +kernel
theorem dX2_lessen_13 : decode cX2_lessen 13 = .ok (.iload_n 1, 1) := by decide +kernel
theorem dX2_lessen_14 : decode cX2_lessen 14 = .ok (.aaload, 1) := by decide +kernel
theorem dX2_lessen_15 : decode cX2_lessen 15 = .ok (.iload 5, 2) := by decide +kernel
theorem dX2_lessen_17 : decode cX2_lessen 17 = .ok (.aload_n 0, 1) := by decide +kernel
theorem dX2_lessen_18 : decode cX2_lessen 18 = .ok (.getfield 11, 3) := by decide +kernel
theorem dX2_lessen_21 : decode cX2_lessen 21 = .ok (.iload_n 1, 1) := by decide +kernel
theorem dX2_lessen_22 : decode cX2_lessen 22 = .ok (.aaload, 1) := by decide +kernel
theorem dX2_lessen_23 : decode cX2_lessen 23 = .ok (.iload 5, 2) := by decide +kernel
theorem dX2_lessen_25 : decode cX2_lessen 25 = .ok (.daload, 1) := by decide +kernel
theorem dX2_lessen_26 : decode cX2_lessen 26 = .ok (.dload_n 3, 1) := by decide +kernel
theorem dX2_lessen_27 : decode cX2_lessen 27 = .ok (.aload_n 0, 1) := by decide +kernel
theorem dX2_lessen_28 : decode cX2_lessen 28 = .ok (.getfield 11, 3) := by decide +kernel
theorem dX2_lessen_31 : decode cX2_lessen 31 = .ok (.iload_n 2, 1) := by decide +kernel
theorem dX2_lessen_32 : decode cX2_lessen 32 = .ok (.aaload, 1) := by decide +kernel
theorem dX2_lessen_33 : decode cX2_lessen 33 = .ok (.iload 5, 2) := by decide +kernel
theorem dX2_lessen_35 : decode cX2_lessen 35 = .ok (.daload, 1) := by decide +kernel
theorem dX2_lessen_36 : decode cX2_lessen 36 = .ok (.dmul, 1) := by decide +kernel
theorem dX2_lessen_37 : decode cX2_lessen 37 = .ok (.dsub, 1) := by decide +kernel
theorem dX2_lessen_38 : decode cX2_lessen 38 = .ok (.dastore, 1) := by decide +kernel
theorem dX2_lessen_39 : decode cX2_lessen 39 = .ok (.iinc 5 1, 3) := by decide +kernel
theorem dX2_lessen_42 : decode cX2_lessen 42 = .ok (.goto (-39), 3) := by decide +kernel
theorem dX2_lessen_45 : decode cX2_lessen 45 = .ok (.aload_n 0, 1) := by decide +kernel
theorem dX2_lessen_46 : decode cX2_lessen 46 = .ok (.getfield 16, 3) := by decide +kernel
theorem dX2_lessen_49 : decode cX2_lessen 49 = .ok (.iload_n 1, 1) := by decide +kernel
theorem dX2_lessen_50 : decode cX2_lessen 50 = .ok (.aload_n 0, 1) := by decide +kernel
theorem dX2_lessen_51 : decode cX2_lessen 51 = .ok (.getfield 16, 3) := by decide +kernel
theorem dX2_lessen_54 : decode cX2_lessen 54 = .ok (.iload_n 1, 1) := by decide +kernel
theorem dX2_lessen_55 : decode cX2_lessen 55 = .ok (.daload, 1) := by decide +kernel
theorem dX2_lessen_56 : decode cX2_lessen 56 = .ok (.dload_n 3, 1) := by decide +kernel
theorem dX2_lessen_57 : decode cX2_lessen 57 = .ok (.aload_n 0, 1) := by decide +kernel
theorem dX2_lessen_58 : decode cX2_lessen 58 = .ok (.getfield 16, 3) := by decide +kernel
theorem dX2_lessen_61 : decode cX2_lessen 61 = .ok (.iload_n 2, 1) := by decide +kernel
theorem dX2_lessen_62 : decode cX2_lessen 62 = .ok (.daload, 1) := by decide +kernel
theorem dX2_lessen_63 : decode cX2_lessen 63 = .ok (.dmul, 1) := by decide +kernel
theorem dX2_lessen_64 : decode cX2_lessen 64 = .ok (.dsub, 1) := by decide +kernel
theorem dX2_lessen_65 : decode cX2_lessen 65 = .ok (.dastore, 1) := by decide +kernel
theorem dX2_lessen_66 : decode cX2_lessen 66 = .ok (.return_, 1) := by decide +kernel
theorem dX2_substitute_0 : decode cX2_substitute 0 = .ok (.iconst 2, 1) := by decide +kernel
theorem dX2_substitute_1 : decode cX2_substitute 1 = .ok (.istore_n 1, 1) := by decide +kernel
theorem dX2_substitute_2 : decode cX2_substitute 2 = .ok (.iload_n 1, 1) := by decide +kernel
theorem dX2_substitute_3 : decode cX2_substitute 3 = .ok (.ifCond .lt 87, 3) := by decide +kernel
theorem dX2_substitute_6 : decode cX2_substitute 6 = .ok (.aload_n 0, 1) := by decide +kernel
theorem dX2_substitute_7 : decode cX2_substitute 7 = .ok (.iload_n 1, 1) := by decide +kernel
theorem dX2_substitute_8 : decode cX2_substitute 8 = .ok (.invokevirtual 51, 3) := by decide +kernel
theorem dX2_substitute_11 : decode cX2_substitute 11 = .ok (.ifCond .eq 13, 3) := by decide +kernel
theorem dX2_substitute_14 : decode cX2_substitute 14 = .ok (.aload_n 0, 1) := by decide +kernel
theorem dX2_substitute_15 : decode cX2_substitute 15 = .ok (.getfield 20, 3) := by decide +kernel
theorem dX2_substitute_18 : decode cX2_substitute 18 = .ok (.iload_n 1, 1) := by decide +kernel
theorem dX2_substitute_19 : decode cX2_substitute 19 = .ok (.dconst 0, 1) := by decide +kernel
theorem dX2_substitute_20 : decode cX2_substitute 20 = .ok (.dastore, 1) := by decide +kernel
theorem dX2_substitute_21 : decode cX2_substitute 21 = .ok (.goto 63, 3) := by decide +kernel
theorem dX2_substitute_24 : decode cX2_substitute 24 = .ok (.aload_n 0, 1) := by decide +kernel
theorem dX2_substitute_25 : decode cX2_substitute 25 = .ok (.getfield 16, 3) := by decide +kernel
theorem dX2_substitute_28 : decode cX2_substitute 28 = .ok (.iload_n 1, 1) := by decide +kernel
theorem dX2_substitute_29 : decode cX2_substitute 29 = .ok (.daload, 1) := by decide +kernel
theorem dX2_substitute_30 : decode cX2_substitute 30 = .ok (.dstore_n 2, 1) := by decide +kernel
theorem dX2_substitute_31 : decode cX2_substitute 31 = .ok (.iload_n 1, 1) := by decide +kernel
theorem dX2_substitute_32 : decode cX2_substitute 32 = .ok (.iconst 1, 1) := by decide +kernel
theorem dX2_substitute_33 : decode cX2_substitute 33 = .ok (.iadd, 1) := by decide +kernel
theorem dX2_substitute_34 : decode cX2_substitute 34 = .ok (.istore 4, 2) := by decide +kernel
theorem dX2_substitute_36 : decode cX2_substitute 36 = .ok (.iload 4, 2) := by decide +kernel
theorem dX2_substitute_38 : decode cX2_substitute 38 = .ok (.iconst 3, 1) := by decide +kernel
theorem dX2_substitute_39 : decode cX2_substitute 39 = .ok (.if_icmp .ge 29, 3) := by decide +kernel
theorem dX2_substitute_42 : decode cX2_substitute 42 = .ok (.dload_n 2, 1) := by decide +kernel
theorem dX2_substitute_43 : decode cX2_substitute 43 = .ok (.aload_n 0, 1) := by decide +kernel
theorem dX2_substitute_44 : decode cX2_substitute 44 = .ok (.getfield 11, 3) := by decide +kernel
theorem dX2_substitute_47 : decode cX2_substitute 47 = .ok (.iload_n 1, 1) := by decide +kernel
theorem dX2_substitute_48 : decode cX2_substitute 48 = .ok (.aaload, 1) := by decide +kernel
theorem dX2_substitute_49 : decode cX2_substitute 49 = .ok (.iload 4, 2) := by decide +kernel
theorem dX2_substitute_51 : decode cX2_substitute 51 = .ok (.daload, 1) := by decide +kernel
theorem dX2_substitute_52 : decode cX2_substitute 52 = .ok (.aload_n 0, 1) := by decide +kernel
theorem dX2_substitute_53 : decode cX2_substitute 53 = .ok (.getfield 20, 3) := by decide +kernel
theorem dX2_substitute_56 : decode cX2_substitute 56 = .ok (.iload 4, 2) := by decide +kernel
theorem dX2_substitute_58 : decode cX2_substitute 58 = .ok (.daload, 1) := by decide +kernel
theorem dX2_substitute_59 : decode cX2_substitute 59 = .ok (.dmul, 1) := by decide +kernel
theorem dX2_substitute_60 : decode cX2_substitute 60 = .ok (.dsub, 1) := by decide +kernel
theorem dX2_substitute_61 : decode cX2_substitute 61 = .ok (.dstore_n 2, 1) := by decide +kernel
theorem dX2_substitute_62 : decode cX2_substitute 62 = .ok (.iinc 4 1, 3) := by decide +kernel
theorem dX2_substitute_65 : decode cX2_substitute 65 = .ok (.goto (-29), 3) := by decide +kernel
theorem dX2_substitute_68 : decode cX2_substitute 68 = .ok (.aload_n 0, 1) := by decide +kernel
theorem dX2_substitute_69 : decode cX2_substitute 69 = .ok (.getfield 20, 3) := by decide +kernel
theorem dX2_substitute_72 : decode cX2_substitute 72 = .ok (.iload_n 1, 1) := by decide +kernel
theorem dX2_substitute_73 : decode cX2_substitute 73 = .ok (.dload_n 2, 1) := by decide +kernel
theorem dX2_substitute_74 : decode cX2_substitute 74 = .ok (.aload_n 0, 1) := by decide +kernel
theorem dX2_substitute_75 : decode cX2_substitute 75 = .ok (.getfield 11, 3) := by decide +kernel
theorem dX2_substitute_78 : decode cX2_substitute 78 = .ok (.iload_n 1, 1) := by decide +kernel
theorem dX2_substitute_79 : decode cX2_substitute 79 = .ok (.aaload, 1) := by decide +kernel
theorem dX2_substitute_80 : decode cX2_substitute 80 = .ok (.iload_n 1, 1) := by decide +kernel
theorem dX2_substitute_81 : decode cX2_substitute 81 = .ok (.daload, 1) := by decide +kernel
theorem dX2_substitute_82 : decode cX2_substitute 82 = .ok (.ddiv, 1) := by decide +kernel
theorem dX2_substitute_83 : decode cX2_substitute 83 = .ok (.dastore, 1) := by decide +kernel
theorem dX2_substitute_84 : decode cX2_substitute 84 = .ok (.iinc 1 (-1), 3) := by decide +kernel
theorem dX2_substitute_87 : decode cX2_substitute 87 = .ok (.goto (-85), 3) := by decide +kernel
theorem dX2_substitute_90 : decode cX2_substitute 90 = .ok (.return_, 1) := by decide +kernel
theorem dX2_isPassedOver_0 : decode cX2_isPassedOver 0 = .ok (.aload_n 0, 1) := by decide +kernel
theorem dX2_isPassedOver_1 : decode cX2_isPassedOver 1 = .ok (.getfield 11, 3) := by decide +kernel
theorem dX2_isPassedOver_4 : decode cX2_isPassedOver 4 = .ok (.iload_n 1, 1) := by decide +kernel
theorem dX2_isPassedOver_5 : decode cX2_isPassedOver 5 = .ok (.aaload, 1) := by decide +kernel
theorem dX2_isPassedOver_6 : decode cX2_isPassedOver 6 = .ok (.iload_n 1, 1) := by decide +kernel
theorem dX2_isPassedOver_7 : decode cX2_isPassedOver 7 = .ok (.daload, 1) := by decide +kernel
theorem dX2_isPassedOver_8 : decode cX2_isPassedOver 8 = .ok (.dstore_n 2, 1) := by decide +kernel
theorem dX2_isPassedOver_9 : decode cX2_isPassedOver 9 = .ok (.dload_n 2, 1) := by decide +kernel
theorem dX2_isPassedOver_10 : decode cX2_isPassedOver 10 = .ok (.dconst 0, 1) := by decide +kernel
theorem dX2_isPassedOver_11 : decode cX2_isPassedOver 11 = .ok (.dcmp .g, 1) := by decide +kernel
theorem dX2_isPassedOver_12 : decode cX2_isPassedOver 12 = .ok (.ifCond .ge 8, 3) := by decide +kernel
theorem dX2_isPassedOver_15 : decode cX2_isPassedOver 15 = .ok (.dload_n 2, 1) := by decide +kernel
theorem dX2_isPassedOver_16 : decode cX2_isPassedOver 16 = .ok (.dneg, 1) := by decide +kernel
theorem dX2_isPassedOver_17 : decode cX2_isPassedOver 17 = .ok (.goto 4, 3) := by decide +kernel
theorem dX2_isPassedOver_20 : decode cX2_isPassedOver 20 = .ok (.dload_n 2, 1) := by decide +kernel
theorem dX2_isPassedOver_21 : decode cX2_isPassedOver 21 = .ok (.dstore 4, 2) := by decide +kernel
theorem dX2_isPassedOver_23 : decode cX2_isPassedOver 23 = .ok (.dload 4, 2) := by decide +kernel
theorem dX2_isPassedOver_25 : decode cX2_isPassedOver 25 = .ok (.ldc2_w 59, 3) := by decide +kernel
theorem dX2_isPassedOver_28 : decode cX2_isPassedOver 28 = .ok (.dcmp .g, 1) := by decide +kernel
theorem dX2_isPassedOver_29 : decode cX2_isPassedOver 29 = .ok (.ifCond .ge 7, 3) := by decide +kernel
theorem dX2_isPassedOver_32 : decode cX2_isPassedOver 32 = .ok (.iconst 1, 1) := by decide +kernel
theorem dX2_isPassedOver_33 : decode cX2_isPassedOver 33 = .ok (.goto 4, 3) := by decide +kernel
theorem dX2_isPassedOver_36 : decode cX2_isPassedOver 36 = .ok (.iconst 0, 1) := by decide +kernel
theorem dX2_isPassedOver_37 : decode cX2_isPassedOver 37 = .ok (.ireturn, 1) := by decide +kernel
theorem dX3_init_0 : decode cX3_init 0 = .ok (.aload_n 0, 1) := by decide +kernel
theorem dX3_init_1 : decode cX3_init 1 = .ok (.invokespecial 3, 3) := by decide +kernel
theorem dX3_init_4 : decode cX3_init 4 = .ok (.aload_n 0, 1) := by decide +kernel
theorem dX3_init_5 : decode cX3_init 5 = .ok (.bipush 16, 2) := by decide +kernel
theorem dX3_init_7 : decode cX3_init 7 = .ok (.newarray .int, 2) := by decide +kernel
theorem dX3_init_9 : decode cX3_init 9 = .ok (.putfield 9, 3) := by decide +kernel
theorem dX3_init_12 : decode cX3_init 12 = .ok (.aload_n 0, 1) := by decide +kernel
theorem dX3_init_13 : decode cX3_init 13 = .ok (.bipush 16, 2) := by decide +kernel
theorem dX3_init_15 : decode cX3_init 15 = .ok (.newarray .double, 2) := by decide +kernel
theorem dX3_init_17 : decode cX3_init 17 = .ok (.putfield 15, 3) := by decide +kernel
theorem dX3_init_20 : decode cX3_init 20 = .ok (.aload_n 0, 1) := by decide +kernel
theorem dX3_init_21 : decode cX3_init 21 = .ok (.iconst (-1), 1) := by decide +kernel
theorem dX3_init_22 : decode cX3_init 22 = .ok (.putfield 19, 3) := by decide +kernel
theorem dX3_init_25 : decode cX3_init 25 = .ok (.return_, 1) := by decide +kernel
theorem dX3_isBehindLast_0 : decode cX3_isBehindLast 0 = .ok (.iload_n 1, 1) := by decide +kernel
theorem dX3_isBehindLast_1 : decode cX3_isBehindLast 1 = .ok (.aload_n 0, 1) := by decide +kernel
theorem dX3_isBehindLast_2 : decode cX3_isBehindLast 2 = .ok (.getfield 19, 3) := by decide +kernel
theorem dX3_isBehindLast_5 : decode cX3_isBehindLast 5 = .ok (.if_icmp .le 7, 3) := by decide +kernel
theorem dX3_isBehindLast_8 : decode cX3_isBehindLast 8 = .ok (.iconst 1, 1) := by decide +kernel
theorem dX3_isBehindLast_9 : decode cX3_isBehindLast 9 = .ok (.goto 4, 3) := by decide +kernel
theorem dX3_isBehindLast_12 : decode cX3_isBehindLast 12 = .ok (.iconst 0, 1) := by decide +kernel
theorem dX3_isBehindLast_13 : decode cX3_isBehindLast 13 = .ok (.ireturn, 1) := by decide +kernel
theorem dX3_isFull_0 : decode cX3_isFull 0 = .ok (.aload_n 0, 1) := by decide +kernel
theorem dX3_isFull_1 : decode cX3_isFull 1 = .ok (.getfield 23, 3) := by decide +kernel
theorem dX3_isFull_4 : decode cX3_isFull 4 = .ok (.bipush 16, 2) := by decide +kernel
theorem dX3_isFull_6 : decode cX3_isFull 6 = .ok (.if_icmp .lt 7, 3) := by decide +kernel
theorem dX3_isFull_9 : decode cX3_isFull 9 = .ok (.iconst 1, 1) := by decide +kernel
theorem dX3_isFull_10 : decode cX3_isFull 10 = .ok (.goto 4, 3) := by decide +kernel
theorem dX3_isFull_13 : decode cX3_isFull 13 = .ok (.iconst 0, 1) := by decide +kernel
theorem dX3_isFull_14 : decode cX3_isFull 14 = .ok (.ireturn, 1) := by decide +kernel
theorem dX3_append_0 : decode cX3_append 0 = .ok (.aload_n 0, 1) := by decide +kernel
theorem dX3_append_1 : decode cX3_append 1 = .ok (.getfield 9, 3) := by decide +kernel
theorem dX3_append_4 : decode cX3_append 4 = .ok (.aload_n 0, 1) := by decide +kernel
theorem dX3_append_5 : decode cX3_append 5 = .ok (.getfield 23, 3) := by decide +kernel
theorem dX3_append_8 : decode cX3_append 8 = .ok (.iload_n 1, 1) := by decide +kernel
theorem dX3_append_9 : decode cX3_append 9 = .ok (.iastore, 1) := by decide +kernel
theorem dX3_append_10 : decode cX3_append 10 = .ok (.aload_n 0, 1) := by decide +kernel
theorem dX3_append_11 : decode cX3_append 11 = .ok (.getfield 15, 3) := by decide +kernel
theorem dX3_append_14 : decode cX3_append 14 = .ok (.aload_n 0, 1) := by decide +kernel
theorem dX3_append_15 : decode cX3_append 15 = .ok (.getfield 23, 3) := by decide +kernel
theorem dX3_append_18 : decode cX3_append 18 = .ok (.dload_n 2, 1) := by decide +kernel
theorem dX3_append_19 : decode cX3_append 19 = .ok (.dastore, 1) := by decide +kernel
theorem dX3_append_20 : decode cX3_append 20 = .ok (.aload_n 0, 1) := by decide +kernel
theorem dX3_append_21 : decode cX3_append 21 = .ok (.iload_n 1, 1) := by decide +kernel
theorem dX3_append_22 : decode cX3_append 22 = .ok (.putfield 19, 3) := by decide +kernel
theorem dX3_append_25 : decode cX3_append 25 = .ok (.aload_n 0, 1) := by decide +kernel
theorem dX3_append_26 : decode cX3_append 26 = .ok (.dup, 1) := by decide +kernel
theorem dX3_append_27 : decode cX3_append 27 = .ok (.getfield 23, 3) := by decide +kernel
theorem dX3_append_30 : decode cX3_append 30 = .ok (.iconst 1, 1) := by decide +kernel
theorem dX3_append_31 : decode cX3_append 31 = .ok (.iadd, 1) := by decide +kernel
theorem dX3_append_32 : decode cX3_append 32 = .ok (.putfield 23, 3) := by decide +kernel
theorem dX3_append_35 : decode cX3_append 35 = .ok (.aload_n 0, 1) := by decide +kernel
theorem dX3_append_36 : decode cX3_append 36 = .ok (.getfield 23, 3) := by decide +kernel
theorem dX3_append_39 : decode cX3_append 39 = .ok (.ireturn, 1) := by decide +kernel
theorem dX3_valueAt_0 : decode cX3_valueAt 0 = .ok (.dconst 0, 1) := by decide +kernel
theorem dX3_valueAt_1 : decode cX3_valueAt 1 = .ok (.dstore_n 2, 1) := by decide +kernel
theorem dX3_valueAt_2 : decode cX3_valueAt 2 = .ok (.iconst 0, 1) := by decide +kernel
theorem dX3_valueAt_3 : decode cX3_valueAt 3 = .ok (.istore 4, 2) := by decide +kernel
theorem dX3_valueAt_5 : decode cX3_valueAt 5 = .ok (.iload 4, 2) := by decide +kernel
theorem dX3_valueAt_7 : decode cX3_valueAt 7 = .ok (.aload_n 0, 1) := by decide +kernel
theorem dX3_valueAt_8 : decode cX3_valueAt 8 = .ok (.getfield 23, 3) := by decide +kernel
theorem dX3_valueAt_11 : decode cX3_valueAt 11 = .ok (.if_icmp .ge 93, 3) := by decide +kernel
theorem dX3_valueAt_14 : decode cX3_valueAt 14 = .ok (.iload_n 1, 1) := by decide +kernel
theorem dX3_valueAt_15 : decode cX3_valueAt 15 = .ok (.aload_n 0, 1) := by decide +kernel
theorem dX3_valueAt_16 : decode cX3_valueAt 16 = .ok (.getfield 9, 3) := by decide +kernel
theorem dX3_valueAt_19 : decode cX3_valueAt 19 = .ok (.iload 4, 2) := by decide +kernel
theorem dX3_valueAt_21 : decode cX3_valueAt 21 = .ok (.iaload, 1) := by decide +kernel
theorem dX3_valueAt_22 : decode cX3_valueAt 22 = .ok (.if_icmp .eq 19, 3) := by decide +kernel
theorem dX3_valueAt_25 : decode cX3_valueAt 25 = .ok (.iload 4, 2) := by decide +kernel
theorem dX3_valueAt_27 : decode cX3_valueAt 27 = .ok (.ifCond .ne 22, 3) := by decide +kernel
theorem dX3_valueAt_30 : decode cX3_valueAt 30 = .ok (.iload_n 1, 1) := by decide +kernel
theorem dX3_valueAt_31 : decode cX3_valueAt 31 = .ok (.aload_n 0, 1) := by decide +kernel
theorem dX3_valueAt_32 : decode cX3_valueAt 32 = .ok (.getfield 9, 3) := by decide +kernel
theorem dX3_valueAt_35 : decode cX3_valueAt 35 = .ok (.iload 4, 2) := by decide +kernel
theorem dX3_valueAt_37 : decode cX3_valueAt 37 = .ok (.iaload, 1) := by decide +kernel
theorem dX3_valueAt_38 : decode cX3_valueAt 38 = .ok (.if_icmp .ge 11, 3) := by decide +kernel
theorem dX3_valueAt_41 : decode cX3_valueAt 41 = .ok (.aload_n 0, 1) := by decide +kernel
theorem dX3_valueAt_42 : decode cX3_valueAt 42 = .ok (.getfield 15, 3) := by decide +kernel
theorem dX3_valueAt_45 : decode cX3_valueAt 45 = .ok (.iload 4, 2) := by decide +kernel
theorem dX3_valueAt_47 : decode cX3_valueAt 47 = .ok (.daload, 1) := by decide +kernel
theorem dX3_valueAt_48 : decode cX3_valueAt 48 = .ok (.dreturn, 1) := by decide +kernel
theorem dX3_valueAt_49 : decode cX3_valueAt 49 = .ok (.iload 4, 2) := by decide +kernel
theorem dX3_valueAt_51 : decode cX3_valueAt 51 = .ok (.ifCond .le 39, 3) := by decide +kernel
theorem dX3_valueAt_54 : decode cX3_valueAt 54 = .ok (.aload_n 0, 1) := by decide +kernel
theorem dX3_valueAt_55 : decode cX3_valueAt 55 = .ok (.getfield 9, 3) := by decide +kernel
theorem dX3_valueAt_58 : decode cX3_valueAt 58 = .ok (.iload 4, 2) := by decide +kernel
theorem dX3_valueAt_60 : decode cX3_valueAt 60 = .ok (.iconst 1, 1) := by decide +kernel
theorem dX3_valueAt_61 : decode cX3_valueAt 61 = .ok (.isub, 1) := by decide +kernel
theorem dX3_valueAt_62 : decode cX3_valueAt 62 = .ok (.iaload, 1) := by decide +kernel
theorem dX3_valueAt_63 : decode cX3_valueAt 63 = .ok (.iload_n 1, 1) := by decide +kernel
theorem dX3_valueAt_64 : decode cX3_valueAt 64 = .ok (.if_icmp .ge 26, 3) := by decide +kernel
theorem dX3_valueAt_67 : decode cX3_valueAt 67 = .ok (.iload_n 1, 1) := by decide +kernel
theorem dX3_valueAt_68 : decode cX3_valueAt 68 = .ok (.aload_n 0, 1) := by decide +kernel
theorem dX3_valueAt_69 : decode cX3_valueAt 69 = .ok (.getfield 9, 3) := by decide +kernel
theorem dX3_valueAt_72 : decode cX3_valueAt 72 = .ok (.iload 4, 2) := by decide +kernel
theorem dX3_valueAt_74 : decode cX3_valueAt 74 = .ok (.iaload, 1) := by decide +kernel
theorem dX3_valueAt_75 : decode cX3_valueAt 75 = .ok (.if_icmp .ge 15, 3) := by decide +kernel
theorem dX3_valueAt_78 : decode cX3_valueAt 78 = .ok (.aload_n 0, 1) := by decide +kernel
theorem dX3_valueAt_79 : decode cX3_valueAt 79 = .ok (.iload 4, 2) := by decide +kernel
theorem dX3_valueAt_81 : decode cX3_valueAt 81 = .ok (.iconst 1, 1) := by decide +kernel
theorem dX3_valueAt_82 : decode cX3_valueAt 82 = .ok (.isub, 1) := by decide +kernel
theorem dX3_valueAt_83 : decode cX3_valueAt 83 = .ok (.iload 4, 2) := by decide +kernel
theorem dX3_valueAt_85 : decode cX3_valueAt 85 = .ok (.iload_n 1, 1) := by decide +kernel
theorem dX3_valueAt_86 : decode cX3_valueAt 86 = .ok (.invokevirtual 26, 3) := by decide +kernel
theorem dX3_valueAt_89 : decode cX3_valueAt 89 = .ok (.dreturn, 1) := by decide +kernel
theorem dX3_valueAt_90 : decode cX3_valueAt 90 = .ok (.aload_n 0, 1) := by decide +kernel
theorem dX3_valueAt_91 : decode cX3_valueAt 91 = .ok (.getfield 15, 3) := by decide +kernel
theorem dX3_valueAt_94 : decode cX3_valueAt 94 = .ok (.iload 4, 2) := by decide +kernel
theorem dX3_valueAt_96 : decode cX3_valueAt 96 = .ok (.daload, 1) := by decide +kernel
theorem dX3_valueAt_97 : decode cX3_valueAt 97 = .ok (.dstore_n 2, 1) := by decide +kernel
theorem dX3_valueAt_98 : decode cX3_valueAt 98 = .ok (.iinc 4 1, 3) := by decide +kernel
theorem dX3_valueAt_101 : decode cX3_valueAt 101 = .ok (.goto (-96), 3) := by decide +kernel
theorem dX3_valueAt_104 : decode cX3_valueAt 104 = .ok (.dload_n 2, 1) := by decide +kernel
theorem dX3_valueAt_105 : decode cX3_valueAt 105 = .ok (.dreturn, 1) := by decide +kernel
theorem dX3_between_0 : decode cX3_between 0 = .ok (.iload_n 3, 1) := by decide +kernel
theorem dX3_between_1 : decode cX3_between 1 = .ok (.aload_n 0, 1) := by decide +kernel
theorem dX3_between_2 : decode cX3_between 2 = .ok (.getfield 9, 3) := by decide +kernel
theorem dX3_between_5 : decode cX3_between 5 = .ok (.iload_n 1, 1) := by decide +kernel
theorem dX3_between_6 : decode cX3_between 6 = .ok (.iaload, 1) := by decide +kernel
theorem dX3_between_7 : decode cX3_between 7 = .ok (.isub, 1) := by decide +kernel
theorem dX3_between_8 : decode cX3_between 8 = .ok (.i2d, 1) := by decide +kernel
theorem dX3_between_9 : decode cX3_between 9 = .ok (.dstore 4, 2) := by decide +kernel
theorem dX3_between_11 : decode cX3_between 11 = .ok (.aload_n 0, 1) := by decide +kernel
theorem dX3_between_12 : decode cX3_between 12 = .ok (.getfield 9, 3) := by decide +kernel
theorem dX3_between_15 : decode cX3_between 15 = .ok (.iload_n 2, 1) := by decide +kernel
theorem dX3_between_16 : decode cX3_between 16 = .ok (.iaload, 1) := by decide +kernel
theorem dX3_between_17 : decode cX3_between 17 = .ok (.aload_n 0, 1) := by decide +kernel
theorem dX3_between_18 : decode cX3_between 18 = .ok (.getfield 9, 3) := by decide +kernel
theorem dX3_between_21 : decode cX3_between 21 = .ok (.iload_n 1, 1) := by decide +kernel
theorem dX3_between_22 : decode cX3_between 22 = .ok (.iaload, 1) := by decide +kernel
theorem dX3_between_23 : decode cX3_between 23 = .ok (.isub, 1) := by decide +kernel
theorem dX3_between_24 : decode cX3_between 24 = .ok (.i2d, 1) := by decide +kernel
theorem dX3_between_25 : decode cX3_between 25 = .ok (.dstore 6, 2) := by decide +kernel
theorem dX3_between_27 : decode cX3_between 27 = .ok (.aload_n 0, 1) := by decide +kernel
theorem dX3_between_28 : decode cX3_between 28 = .ok (.getfield 15, 3) := by decide +kernel
theorem dX3_between_31 : decode cX3_between 31 = .ok (.iload_n 1, 1) := by decide +kernel
theorem dX3_between_32 : decode cX3_between 32 = .ok (.daload, 1) := by decide +kernel
theorem dX3_between_33 : decode cX3_between 33 = .ok (.dload 4, 2) := by decide +kernel
theorem dX3_between_35 : decode cX3_between 35 = .ok (.aload_n 0, 1) := by decide +kernel
theorem dX3_between_36 : decode cX3_between 36 = .ok (.getfield 15, 3) := by decide +kernel
theorem dX3_between_39 : decode cX3_between 39 = .ok (.iload_n 2, 1) := by decide +kernel
theorem dX3_between_40 : decode cX3_between 40 = .ok (.daload, 1) := by decide +kernel
theorem dX3_between_41 : decode cX3_between 41 = .ok (.aload_n 0, 1) := by decide +kernel
theorem dX3_between_42 : decode cX3_between 42 = .ok (.getfield 15, 3) := by decide +kernel
theorem dX3_between_45 : decode cX3_between 45 = .ok (.iload_n 1, 1) := by decide +kernel
theorem dX3_between_46 : decode cX3_between 46 = .ok (.daload, 1) := by decide +kernel
theorem dX3_between_47 : decode cX3_between 47 = .ok (.dsub, 1) := by decide +kernel
theorem dX3_between_48 : decode cX3_between 48 = .ok (.dmul, 1) := by decide +kernel
theorem dX3_between_49 : decode cX3_between 49 = .ok (.dload 6, 2) := by decide +kernel
theorem dX3_between_51 : decode cX3_between 51 = .ok (.ddiv, 1) := by decide +kernel
theorem dX3_between_52 : decode cX3_between 52 = .ok (.dadd, 1) := by decide +kernel
theorem dX3_between_53 : decode cX3_between 53 = .ok (.dreturn, 1) := by decide +kernel
theorem dX4_init_0 : decode cX4_init 0 = .ok (.aload_n 0, 1) := by decide +kernel
theorem dX4_init_1 : decode cX4_init 1 = .ok (.invokespecial 1, 3) := by decide +kernel
theorem dX4_init_4 : decode cX4_init 4 = .ok (.aload_n 0, 1) := by decide +kernel
theorem dX4_init_5 : decode cX4_init 5 = .ok (.iload_n 1, 1) := by decide +kernel
theorem dX4_init_6 : decode cX4_init 6 = .ok (.putfield 7, 3) := by decide +kernel
theorem dX4_init_9 : decode cX4_init 9 = .ok (.aload_n 0, 1) := by decide +kernel
theorem dX4_init_10 : decode cX4_init 10 = .ok (.bipush 32, 2) := by decide +kernel
theorem dX4_init_12 : decode cX4_init 12 = .ok (.anewarray 13, 3) := by decide +kernel
theorem dX4_init_15 : decode cX4_init 15 = .ok (.putfield 15, 3) := by decide +kernel
theorem dX4_init_18 : decode cX4_init 18 = .ok (.iconst 0, 1) := by decide +kernel
theorem dX4_init_19 : decode cX4_init 19 = .ok (.istore_n 2, 1) := by decide +kernel
theorem dX4_init_20 : decode cX4_init 20 = .ok (.iload_n 2, 1) := by decide +kernel
theorem dX4_init_21 : decode cX4_init 21 = .ok (.bipush 32, 2) := by decide +kernel
theorem dX4_init_23 : decode cX4_init 23 = .ok (.if_icmp .ge 22, 3) := by decide +kernel
theorem dX4_init_26 : decode cX4_init 26 = .ok (.aload_n 0, 1) := by decide +kernel
theorem dX4_init_27 : decode cX4_init 27 = .ok (.getfield 15, 3) := by decide +kernel
theorem dX4_init_30 : decode cX4_init 30 = .ok (.iload_n 2, 1) := by decide +kernel
theorem dX4_init_31 : decode cX4_init 31 = .ok (.new 13, 3) := by decide +kernel
theorem dX4_init_34 : decode cX4_init 34 = .ok (.dup, 1) := by decide +kernel
theorem dX4_init_35 : decode cX4_init 35 = .ok (.invokespecial 19, 3) := by decide +kernel
theorem dX4_init_38 : decode cX4_init 38 = .ok (.aastore, 1) := by decide +kernel
theorem dX4_init_39 : decode cX4_init 39 = .ok (.iinc 2 1, 3) := by decide +kernel
theorem dX4_init_42 : decode cX4_init 42 = .ok (.goto (-22), 3) := by decide +kernel
theorem dX4_init_45 : decode cX4_init 45 = .ok (.aload_n 0, 1) := by decide +kernel
theorem dX4_init_46 : decode cX4_init 46 = .ok (.new 20, 3) := by decide +kernel
theorem dX4_init_49 : decode cX4_init 49 = .ok (.dup, 1) := by decide +kernel
theorem dX4_init_50 : decode cX4_init 50 = .ok (.invokespecial 22, 3) := by decide +kernel
theorem dX4_init_53 : decode cX4_init 53 = .ok (.putfield 23, 3) := by decide +kernel
theorem dX4_init_56 : decode cX4_init 56 = .ok (.aload_n 0, 1) := by decide +kernel
theorem dX4_init_57 : decode cX4_init 57 = .ok (.new 20, 3) := by decide +kernel
theorem dX4_init_60 : decode cX4_init 60 = .ok (.dup, 1) := by decide +kernel
theorem dX4_init_61 : decode cX4_init 61 = .ok (.invokespecial 22, 3) := by decide +kernel
theorem dX4_init_64 : decode cX4_init 64 = .ok (.putfield 27, 3) := by decide +kernel
theorem dX4_init_67 : decode cX4_init 67 = .ok (.aload_n 0, 1) := by decide +kernel
theorem dX4_init_68 : decode cX4_init 68 = .ok (.iconst 4, 1) := by decide +kernel
theorem dX4_init_69 : decode cX4_init 69 = .ok (.newarray .double, 2) := by decide +kernel
theorem dX4_init_71 : decode cX4_init 71 = .ok (.putfield 30, 3) := by decide +kernel
theorem dX4_init_74 : decode cX4_init 74 = .ok (.iconst 0, 1) := by decide +kernel
theorem dX4_init_75 : decode cX4_init 75 = .ok (.istore_n 2, 1) := by decide +kernel
theorem dX4_init_76 : decode cX4_init 76 = .ok (.iload_n 2, 1) := by decide +kernel
theorem dX4_init_77 : decode cX4_init 77 = .ok (.iconst 4, 1) := by decide +kernel
theorem dX4_init_78 : decode cX4_init 78 = .ok (.if_icmp .ge 18, 3) := by decide +kernel
theorem dX4_init_81 : decode cX4_init 81 = .ok (.aload_n 0, 1) := by decide +kernel
theorem dX4_init_82 : decode cX4_init 82 = .ok (.getfield 30, 3) := by decide +kernel
theorem dX4_init_85 : decode cX4_init 85 = .ok (.iload_n 2, 1) := by decide +kernel
theorem dX4_init_86 : decode cX4_init 86 = .ok (.ldc2_w 34, 3) := by decide +kernel
theorem dX4_init_89 : decode cX4_init 89 = .ok (.dastore, 1) := by decide +kernel
theorem dX4_init_90 : decode cX4_init 90 = .ok (.iinc 2 1, 3) := by decide +kernel
theorem dX4_init_93 : decode cX4_init 93 = .ok (.goto (-17), 3) := by decide +kernel
theorem dX4_init_96 : decode cX4_init 96 = .ok (.aload_n 0, 1) := by decide +kernel
theorem dX4_init_97 : decode cX4_init 97 = .ok (.new 36, 3) := by decide +kernel
theorem dX4_init_100 : decode cX4_init 100 = .ok (.dup, 1) := by decide +kernel
theorem dX4_init_101 : decode cX4_init 101 = .ok (.invokespecial 38, 3) := by decide +kernel
theorem dX4_init_104 : decode cX4_init 104 = .ok (.putfield 39, 3) := by decide +kernel
theorem dX4_init_107 : decode cX4_init 107 = .ok (.aload_n 0, 1) := by decide +kernel
theorem dX4_init_108 : decode cX4_init 108 = .ok (.new 43, 3) := by decide +kernel
theorem dX4_init_111 : decode cX4_init 111 = .ok (.dup, 1) := by decide +kernel
theorem dX4_init_112 : decode cX4_init 112 = .ok (.invokespecial 45, 3) := by decide +kernel
theorem dX4_init_115 : decode cX4_init 115 = .ok (.putfield 46, 3) := by decide +kernel
theorem dX4_init_118 : decode cX4_init 118 = .ok (.return_, 1) := by decide +kernel
theorem dX4_board_0 : decode cX4_board 0 = .ok (.aload_n 0, 1) := by decide +kernel
theorem dX4_board_1 : decode cX4_board 1 = .ok (.getfield 50, 3) := by decide +kernel
theorem dX4_board_4 : decode cX4_board 4 = .ok (.bipush 32, 2) := by decide +kernel
theorem dX4_board_6 : decode cX4_board 6 = .ok (.if_icmp .lt 13, 3) := by decide +kernel
theorem dX4_board_9 : decode cX4_board 9 = .ok (.new 53, 3) := by decide +kernel
theorem dX4_board_12 : decode cX4_board 12 = .ok (.dup, 1) := by decide +kernel
theorem dX4_board_13 : decode cX4_board 13 = .ok (.ldc 55, 2) := by decide +kernel
theorem dX4_board_15 : decode cX4_board 15 = .ok (.invokespecial 57, 3) := by decide +kernel
theorem dX4_board_18 : decode cX4_board 18 = .ok (.athrow, 1) := by decide +kernel
theorem dX4_board_19 : decode cX4_board 19 = .ok (.aload_n 0, 1) := by decide +kernel
theorem dX4_board_20 : decode cX4_board 20 = .ok (.dup, 1) := by decide +kernel
theorem dX4_board_21 : decode cX4_board 21 = .ok (.getfield 50, 3) := by decide +kernel
theorem dX4_board_24 : decode cX4_board 24 = .ok (.iconst 1, 1) := by decide +kernel
theorem dX4_board_25 : decode cX4_board 25 = .ok (.iadd, 1) := by decide +kernel
theorem dX4_board_26 : decode cX4_board 26 = .ok (.putfield 50, 3) := by decide +kernel
theorem dX4_board_29 : decode cX4_board 29 = .ok (.aload_n 0, 1) := by decide +kernel
theorem dX4_board_30 : decode cX4_board 30 = .ok (.getfield 50, 3) := by decide +kernel
theorem dX4_board_33 : decode cX4_board 33 = .ok (.iconst 1, 1) := by decide +kernel
theorem dX4_board_34 : decode cX4_board 34 = .ok (.isub, 1) := by decide +kernel
theorem dX4_board_35 : decode cX4_board 35 = .ok (.ireturn, 1) := by decide +kernel
theorem dX4_row_0 : decode cX4_row 0 = .ok (.aload_n 0, 1) := by decide +kernel
theorem dX4_row_1 : decode cX4_row 1 = .ok (.iload_n 1, 1) := by decide +kernel
theorem dX4_row_2 : decode cX4_row 2 = .ok (.invokevirtual 60, 3) := by decide +kernel
theorem dX4_row_5 : decode cX4_row 5 = .ok (.astore 4, 2) := by decide +kernel
theorem dX4_row_7 : decode cX4_row 7 = .ok (.dload_n 2, 1) := by decide +kernel
theorem dX4_row_8 : decode cX4_row 8 = .ok (.iconst 0, 1) := by decide +kernel
theorem dX4_row_9 : decode cX4_row 9 = .ok (.sipush 1000, 3) := by decide +kernel
theorem dX4_row_12 : decode cX4_row 12 = .ok (.invokestatic 64, 3) := by decide +kernel
theorem dX4_row_15 : decode cX4_row 15 = .ok (.invokestatic 68, 3) := by decide +kernel
theorem dX4_row_18 : decode cX4_row 18 = .ok (.aload 4, 2) := by decide +kernel
theorem dX4_row_20 : decode cX4_row 20 = .ok (.getfield 72, 3) := by decide +kernel
theorem dX4_row_23 : decode cX4_row 23 = .ok (.bipush 8, 2) := by decide +kernel
theorem dX4_row_25 : decode cX4_row 25 = .ok (.if_icmp .lt 13, 3) := by decide +kernel
theorem dX4_row_28 : decode cX4_row 28 = .ok (.new 53, 3) := by decide +kernel
theorem dX4_row_31 : decode cX4_row 31 = .ok (.dup, 1) := by decide +kernel
theorem dX4_row_32 : decode cX4_row 32 = .ok (.ldc 75, 2) := by decide +kernel
theorem dX4_row_34 : decode cX4_row 34 = .ok (.invokespecial 57, 3) := by decide +kernel
theorem dX4_row_37 : decode cX4_row 37 = .ok (.athrow, 1) := by decide +kernel
theorem dX4_row_38 : decode cX4_row 38 = .ok (.aload 4, 2) := by decide +kernel
theorem dX4_row_40 : decode cX4_row 40 = .ok (.aload 4, 2) := by decide +kernel
theorem dX4_row_42 : decode cX4_row 42 = .ok (.getfield 77, 3) := by decide +kernel
theorem dX4_row_45 : decode cX4_row 45 = .ok (.dload_n 2, 1) := by decide +kernel
theorem dX4_row_46 : decode cX4_row 46 = .ok (.dadd, 1) := by decide +kernel
theorem dX4_row_47 : decode cX4_row 47 = .ok (.putfield 77, 3) := by decide +kernel
theorem dX4_row_50 : decode cX4_row 50 = .ok (.aload 4, 2) := by decide +kernel
theorem dX4_row_52 : decode cX4_row 52 = .ok (.dup, 1) := by decide +kernel
theorem dX4_row_53 : decode cX4_row 53 = .ok (.getfield 72, 3) := by decide +kernel
theorem dX4_row_56 : decode cX4_row 56 = .ok (.iconst 1, 1) := by decide +kernel
theorem dX4_row_57 : decode cX4_row 57 = .ok (.iadd, 1) := by decide +kernel
theorem dX4_row_58 : decode cX4_row 58 = .ok (.putfield 72, 3) := by decide +kernel
theorem dX4_row_61 : decode cX4_row 61 = .ok (.aload 4, 2) := by decide +kernel
theorem dX4_row_63 : decode cX4_row 63 = .ok (.getfield 72, 3) := by decide +kernel
theorem dX4_row_66 : decode cX4_row 66 = .ok (.ireturn, 1) := by decide +kernel
theorem dX4_echo_0 : decode cX4_echo 0 = .ok (.aload_n 0, 1) := by decide +kernel
theorem dX4_echo_1 : decode cX4_echo 1 = .ok (.iload_n 1, 1) := by decide +kernel
theorem dX4_echo_2 : decode cX4_echo 2 = .ok (.invokevirtual 60, 3) := by decide +kernel
theorem dX4_echo_5 : decode cX4_echo 5 = .ok (.astore 6, 2) := by decide +kernel
theorem dX4_echo_7 : decode cX4_echo 7 = .ok (.dload_n 2, 1) := by decide +kernel
theorem dX4_echo_8 : decode cX4_echo 8 = .ok (.iconst 0, 1) := by decide +kernel
theorem dX4_echo_9 : decode cX4_echo 9 = .ok (.bipush 100, 2) := by decide +kernel
theorem dX4_echo_11 : decode cX4_echo 11 = .ok (.invokestatic 64, 3) := by decide +kernel
theorem dX4_echo_14 : decode cX4_echo 14 = .ok (.ifCond .eq 18, 3) := by decide +kernel
theorem dX4_echo_17 : decode cX4_echo 17 = .ok (.dload 4, 2) := by decide +kernel
theorem dX4_echo_19 : decode cX4_echo 19 = .ok (.iconst 0, 1) := by decide +kernel
theorem dX4_echo_20 : decode cX4_echo 20 = .ok (.bipush 10, 2) := by decide +kernel
theorem dX4_echo_22 : decode cX4_echo 22 = .ok (.invokestatic 64, 3) := by decide +kernel
theorem dX4_echo_25 : decode cX4_echo 25 = .ok (.ifCond .eq 7, 3) := by decide +kernel
theorem dX4_echo_28 : decode cX4_echo 28 = .ok (.iconst 1, 1) := by decide +kernel
theorem dX4_echo_29 : decode cX4_echo 29 = .ok (.goto 4, 3) := by decide +kernel
theorem dX4_echo_32 : decode cX4_echo 32 = .ok (.iconst 0, 1) := by decide +kernel
theorem dX4_echo_33 : decode cX4_echo 33 = .ok (.invokestatic 68, 3) := by decide +kernel
theorem dX4_echo_36 : decode cX4_echo 36 = .ok (.aload 6, 2) := by decide +kernel
theorem dX4_echo_38 : decode cX4_echo 38 = .ok (.dload 4, 2) := by decide +kernel
theorem dX4_echo_40 : decode cX4_echo 40 = .ok (.dload_n 2, 1) := by decide +kernel
theorem dX4_echo_41 : decode cX4_echo 41 = .ok (.dmul, 1) := by decide +kernel
theorem dX4_echo_42 : decode cX4_echo 42 = .ok (.dload_n 2, 1) := by decide +kernel
theorem dX4_echo_43 : decode cX4_echo 43 = .ok (.dmul, 1) := by decide +kernel
theorem dX4_echo_44 : decode cX4_echo 44 = .ok (.putfield 81, 3) := by decide +kernel
theorem dX4_echo_47 : decode cX4_echo 47 = .ok (.return_, 1) := by decide +kernel
theorem dX4_knots_0 : decode cX4_knots 0 = .ok (.aload_n 0, 1) := by decide +kernel
theorem dX4_knots_1 : decode cX4_knots 1 = .ok (.iload_n 1, 1) := by decide +kernel
theorem dX4_knots_2 : decode cX4_knots 2 = .ok (.invokevirtual 60, 3) := by decide +kernel
theorem dX4_knots_5 : decode cX4_knots 5 = .ok (.astore 4, 2) := by decide +kernel
theorem dX4_knots_7 : decode cX4_knots 7 = .ok (.dload_n 2, 1) := by decide +kernel
theorem dX4_knots_8 : decode cX4_knots 8 = .ok (.iconst 0, 1) := by decide +kernel
theorem dX4_knots_9 : decode cX4_knots 9 = .ok (.iconst 1, 1) := by decide +kernel
theorem dX4_knots_10 : decode cX4_knots 10 = .ok (.invokestatic 64, 3) := by decide +kernel
theorem dX4_knots_13 : decode cX4_knots 13 = .ok (.invokestatic 68, 3) := by decide +kernel
theorem dX4_knots_16 : decode cX4_knots 16 = .ok (.aload 4, 2) := by decide +kernel
theorem dX4_knots_18 : decode cX4_knots 18 = .ok (.dload_n 2, 1) := by decide +kernel
theorem dX4_knots_19 : decode cX4_knots 19 = .ok (.putfield 84, 3) := by decide +kernel
theorem dX4_knots_22 : decode cX4_knots 22 = .ok (.return_, 1) := by decide +kernel
theorem dX4_broken_0 : decode cX4_broken 0 = .ok (.aload_n 0, 1) := by decide +kernel
theorem dX4_broken_1 : decode cX4_broken 1 = .ok (.iload_n 1, 1) := by decide +kernel
theorem dX4_broken_2 : decode cX4_broken 2 = .ok (.invokevirtual 60, 3) := by decide +kernel
theorem dX4_broken_5 : decode cX4_broken 5 = .ok (.astore 4, 2) := by decide +kernel
theorem dX4_broken_7 : decode cX4_broken 7 = .ok (.dload_n 2, 1) := by decide +kernel
theorem dX4_broken_8 : decode cX4_broken 8 = .ok (.iconst 0, 1) := by decide +kernel
theorem dX4_broken_9 : decode cX4_broken 9 = .ok (.sipush 1000, 3) := by decide +kernel
theorem dX4_broken_12 : decode cX4_broken 12 = .ok (.invokestatic 64, 3) := by decide +kernel
theorem dX4_broken_15 : decode cX4_broken 15 = .ok (.invokestatic 68, 3) := by decide +kernel
theorem dX4_broken_18 : decode cX4_broken 18 = .ok (.aload 4, 2) := by decide +kernel
theorem dX4_broken_20 : decode cX4_broken 20 = .ok (.getfield 87, 3) := by decide +kernel
theorem dX4_broken_23 : decode cX4_broken 23 = .ok (.ifCond .ne 11, 3) := by decide +kernel
theorem dX4_broken_26 : decode cX4_broken 26 = .ok (.aload 4, 2) := by decide +kernel
theorem dX4_broken_28 : decode cX4_broken 28 = .ok (.getfield 91, 3) := by decide +kernel
theorem dX4_broken_31 : decode cX4_broken 31 = .ok (.ifCond .eq 13, 3) := by decide +kernel
theorem dX4_broken_34 : decode cX4_broken 34 = .ok (.new 53, 3) := by decide +kernel
theorem dX4_broken_37 : decode cX4_broken 37 = .ok (.dup, 1) := by decide +kernel
theorem dX4_broken_38 : decode cX4_broken 38 = .ok (.ldc 94, 2) := by decide +kernel
theorem dX4_broken_40 : decode cX4_broken 40 = .ok (.invokespecial 57, 3) := by decide +kernel
theorem dX4_broken_43 : decode cX4_broken 43 = .ok (.athrow, 1) := by decide +kernel
theorem dX4_broken_44 : decode cX4_broken 44 = .ok (.aload 4, 2) := by decide +kernel
theorem dX4_broken_46 : decode cX4_broken 46 = .ok (.dload_n 2, 1) := by decide +kernel
theorem dX4_broken_47 : decode cX4_broken 47 = .ok (.putfield 96, 3) := by decide +kernel
theorem dX4_broken_50 : decode cX4_broken 50 = .ok (.aload 4, 2) := by decide +kernel
theorem dX4_broken_52 : decode cX4_broken 52 = .ok (.iconst 1, 1) := by decide +kernel
theorem dX4_broken_53 : decode cX4_broken 53 = .ok (.putfield 87, 3) := by decide +kernel
theorem dX4_broken_56 : decode cX4_broken 56 = .ok (.return_, 1) := by decide +kernel
theorem dX4_fit_0 : decode cX4_fit 0 = .ok (.aload_n 0, 1) := by decide +kernel
theorem dX4_fit_1 : decode cX4_fit 1 = .ok (.getfield 23, 3) := by decide +kernel
theorem dX4_fit_4 : decode cX4_fit 4 = .ok (.aload_n 0, 1) := by decide +kernel
theorem dX4_fit_5 : decode cX4_fit 5 = .ok (.getfield 15, 3) := by decide +kernel
theorem dX4_fit_8 : decode cX4_fit 8 = .ok (.aconst_null, 1) := by decide +kernel
theorem dX4_fit_9 : decode cX4_fit 9 = .ok (.invokevirtual 99, 3) := by decide +kernel
theorem dX4_fit_12 : decode cX4_fit 12 = .ok (.ireturn, 1) := by decide +kernel
theorem dX4_number_0 : decode cX4_number 0 = .ok (.iload_n 1, 1) := by decide +kernel
theorem dX4_number_1 : decode cX4_number 1 = .ok (.ifCond .lt 8, 3) := by decide +kernel
theorem dX4_number_4 : decode cX4_number 4 = .ok (.iload_n 1, 1) := by decide +kernel
theorem dX4_number_5 : decode cX4_number 5 = .ok (.iconst 3, 1) := by decide +kernel
theorem dX4_number_6 : decode cX4_number 6 = .ok (.if_icmp .lt 13, 3) := by decide +kernel
theorem dX4_number_9 : decode cX4_number 9 = .ok (.new 103, 3) := by decide +kernel
theorem dX4_number_12 : decode cX4_number 12 = .ok (.dup, 1) := by decide +kernel
theorem dX4_number_13 : decode cX4_number 13 = .ok (.ldc 105, 2) := by decide +kernel
theorem dX4_number_15 : decode cX4_number 15 = .ok (.invokespecial 107, 3) := by decide +kernel
theorem dX4_number_18 : decode cX4_number 18 = .ok (.athrow, 1) := by decide +kernel
theorem dX4_number_19 : decode cX4_number 19 = .ok (.aload_n 0, 1) := by decide +kernel
theorem dX4_number_20 : decode cX4_number 20 = .ok (.getfield 23, 3) := by decide +kernel
theorem dX4_number_23 : decode cX4_number 23 = .ok (.getfield 108, 3) := by decide +kernel
theorem dX4_number_26 : decode cX4_number 26 = .ok (.iload_n 1, 1) := by decide +kernel
theorem dX4_number_27 : decode cX4_number 27 = .ok (.daload, 1) := by decide +kernel
theorem dX4_number_28 : decode cX4_number 28 = .ok (.dreturn, 1) := by decide +kernel
theorem dX4_foretold_0 : decode cX4_foretold 0 = .ok (.aload_n 0, 1) := by decide +kernel
theorem dX4_foretold_1 : decode cX4_foretold 1 = .ok (.getfield 23, 3) := by decide +kernel
theorem dX4_foretold_4 : decode cX4_foretold 4 = .ok (.aload_n 0, 1) := by decide +kernel
theorem dX4_foretold_5 : decode cX4_foretold 5 = .ok (.iload_n 1, 1) := by decide +kernel
theorem dX4_foretold_6 : decode cX4_foretold 6 = .ok (.invokevirtual 111, 3) := by decide +kernel
theorem dX4_foretold_9 : decode cX4_foretold 9 = .ok (.invokevirtual 114, 3) := by decide +kernel
theorem dX4_foretold_12 : decode cX4_foretold 12 = .ok (.dreturn, 1) := by decide +kernel
theorem dX4_leftOut_0 : decode cX4_leftOut 0 = .ok (.aload_n 0, 1) := by decide +kernel
theorem dX4_leftOut_1 : decode cX4_leftOut 1 = .ok (.iload_n 1, 1) := by decide +kernel
theorem dX4_leftOut_2 : decode cX4_leftOut 2 = .ok (.invokevirtual 111, 3) := by decide +kernel
theorem dX4_leftOut_5 : decode cX4_leftOut 5 = .ok (.astore_n 2, 1) := by decide +kernel
theorem dX4_leftOut_6 : decode cX4_leftOut 6 = .ok (.aload_n 0, 1) := by decide +kernel
theorem dX4_leftOut_7 : decode cX4_leftOut 7 = .ok (.getfield 27, 3) := by decide +kernel
theorem dX4_leftOut_10 : decode cX4_leftOut 10 = .ok (.aload_n 0, 1) := by decide +kernel
theorem dX4_leftOut_11 : decode cX4_leftOut 11 = .ok (.getfield 15, 3) := by decide +kernel
theorem dX4_leftOut_14 : decode cX4_leftOut 14 = .ok (.aload_n 2, 1) := by decide +kernel
theorem dX4_leftOut_15 : decode cX4_leftOut 15 = .ok (.invokevirtual 99, 3) := by decide +kernel
theorem dX4_leftOut_18 : decode cX4_leftOut 18 = .ok (.pop, 1) := by decide +kernel
theorem dX4_leftOut_19 : decode cX4_leftOut 19 = .ok (.aload_n 0, 1) := by decide +kernel
theorem dX4_leftOut_20 : decode cX4_leftOut 20 = .ok (.getfield 27, 3) := by decide +kernel
theorem dX4_leftOut_23 : decode cX4_leftOut 23 = .ok (.aload_n 2, 1) := by decide +kernel
theorem dX4_leftOut_24 : decode cX4_leftOut 24 = .ok (.invokevirtual 114, 3) := by decide +kernel
theorem dX4_leftOut_27 : decode cX4_leftOut 27 = .ok (.dreturn, 1) := by decide +kernel
theorem dX4_limit_0 : decode cX4_limit 0 = .ok (.iload_n 1, 1) := by decide +kernel
theorem dX4_limit_1 : decode cX4_limit 1 = .ok (.invokestatic 118, 3) := by decide +kernel
theorem dX4_limit_4 : decode cX4_limit 4 = .ok (.dload_n 2, 1) := by decide +kernel
theorem dX4_limit_5 : decode cX4_limit 5 = .ok (.iconst 0, 1) := by decide +kernel
theorem dX4_limit_6 : decode cX4_limit 6 = .ok (.sipush 1000, 3) := by decide +kernel
theorem dX4_limit_9 : decode cX4_limit 9 = .ok (.invokestatic 64, 3) := by decide +kernel
theorem dX4_limit_12 : decode cX4_limit 12 = .ok (.invokestatic 68, 3) := by decide +kernel
theorem dX4_limit_15 : decode cX4_limit 15 = .ok (.aload_n 0, 1) := by decide +kernel
theorem dX4_limit_16 : decode cX4_limit 16 = .ok (.getfield 30, 3) := by decide +kernel
theorem dX4_limit_19 : decode cX4_limit 19 = .ok (.iload_n 1, 1) := by decide +kernel
theorem dX4_limit_20 : decode cX4_limit 20 = .ok (.dload_n 2, 1) := by decide +kernel
theorem dX4_limit_21 : decode cX4_limit 21 = .ok (.dastore, 1) := by decide +kernel
theorem dX4_limit_22 : decode cX4_limit 22 = .ok (.return_, 1) := by decide +kernel
theorem dX4_setting_0 : decode cX4_setting 0 = .ok (.iload_n 1, 1) := by decide +kernel
theorem dX4_setting_1 : decode cX4_setting 1 = .ok (.invokestatic 118, 3) := by decide +kernel
theorem dX4_setting_4 : decode cX4_setting 4 = .ok (.iload_n 2, 1) := by decide +kernel
theorem dX4_setting_5 : decode cX4_setting 5 = .ok (.iload_n 3, 1) := by decide +kernel
theorem dX4_setting_6 : decode cX4_setting 6 = .ok (.sipush 1000, 3) := by decide +kernel
theorem dX4_setting_9 : decode cX4_setting 9 = .ok (.invokestatic 122, 3) := by decide +kernel
theorem dX4_setting_12 : decode cX4_setting 12 = .ok (.invokestatic 68, 3) := by decide +kernel
theorem dX4_setting_15 : decode cX4_setting 15 = .ok (.aload_n 0, 1) := by decide +kernel
theorem dX4_setting_16 : decode cX4_setting 16 = .ok (.invokevirtual 126, 3) := by decide +kernel
theorem dX4_setting_19 : decode cX4_setting 19 = .ok (.iconst 0, 1) := by decide +kernel
theorem dX4_setting_20 : decode cX4_setting 20 = .ok (.istore 4, 2) := by decide +kernel
theorem dX4_setting_22 : decode cX4_setting 22 = .ok (.iload 4, 2) := by decide +kernel
theorem dX4_setting_24 : decode cX4_setting 24 = .ok (.sipush 200, 3) := by decide +kernel
theorem dX4_setting_27 : decode cX4_setting 27 = .ok (.if_icmp .gt 34, 3) := by decide +kernel
theorem dX4_setting_30 : decode cX4_setting 30 = .ok (.aload_n 0, 1) := by decide +kernel
theorem dX4_setting_31 : decode cX4_setting 31 = .ok (.iload 4, 2) := by decide +kernel
theorem dX4_setting_33 : decode cX4_setting 33 = .ok (.i2d, 1) := by decide +kernel
theorem dX4_setting_34 : decode cX4_setting 34 = .ok (.ldc2_w 129, 3) := by decide +kernel
theorem dX4_setting_37 : decode cX4_setting 37 = .ok (.ddiv, 1) := by decide +kernel
theorem dX4_setting_38 : decode cX4_setting 38 = .ok (.aload_n 0, 1) := by decide +kernel
theorem dX4_setting_39 : decode cX4_setting 39 = .ok (.getfield 30, 3) := by decide +kernel
theorem dX4_setting_42 : decode cX4_setting 42 = .ok (.iload_n 1, 1) := by decide +kernel
theorem dX4_setting_43 : decode cX4_setting 43 = .ok (.daload, 1) := by decide +kernel
theorem dX4_setting_44 : decode cX4_setting 44 = .ok (.iload_n 2, 1) := by decide +kernel
theorem dX4_setting_45 : decode cX4_setting 45 = .ok (.iload_n 3, 1) := by decide +kernel
theorem dX4_setting_46 : decode cX4_setting 46 = .ok (.invokevirtual 131, 3) := by decide +kernel
theorem dX4_setting_49 : decode cX4_setting 49 = .ok (.ifCond .eq 6, 3) := by decide +kernel
theorem dX4_setting_52 : decode cX4_setting 52 = .ok (.iload 4, 2) := by decide +kernel
theorem dX4_setting_54 : decode cX4_setting 54 = .ok (.ireturn, 1) := by decide +kernel
theorem dX4_setting_55 : decode cX4_setting 55 = .ok (.iinc 4 1, 3) := by decide +kernel
theorem dX4_setting_58 : decode cX4_setting 58 = .ok (.goto (-36), 3) := by decide +kernel
theorem dX4_setting_61 : decode cX4_setting 61 = .ok (.iconst (-1), 1) := by decide +kernel
theorem dX4_setting_62 : decode cX4_setting 62 = .ok (.ireturn, 1) := by decide +kernel
theorem dX4_odds_0 : decode cX4_odds 0 = .ok (.iload 5, 2) := by decide +kernel
theorem dX4_odds_2 : decode cX4_odds 2 = .ok (.ifCond .lt 9, 3) := by decide +kernel
theorem dX4_odds_5 : decode cX4_odds 5 = .ok (.iload 5, 2) := by decide +kernel
theorem dX4_odds_7 : decode cX4_odds 7 = .ok (.iconst 1, 1) := by decide +kernel
theorem dX4_odds_8 : decode cX4_odds 8 = .ok (.if_icmp .le 13, 3) := by decide +kernel
theorem dX4_odds_11 : decode cX4_odds 11 = .ok (.new 103, 3) := by decide +kernel
theorem dX4_odds_14 : decode cX4_odds 14 = .ok (.dup, 1) := by decide +kernel
theorem dX4_odds_15 : decode cX4_odds 15 = .ok (.ldc 135, 2) := by decide +kernel
theorem dX4_odds_17 : decode cX4_odds 17 = .ok (.invokespecial 107, 3) := by decide +kernel
theorem dX4_odds_20 : decode cX4_odds 20 = .ok (.athrow, 1) := by decide +kernel
theorem dX4_odds_21 : decode cX4_odds 21 = .ok (.iload_n 1, 1) := by decide +kernel
theorem dX4_odds_22 : decode cX4_odds 22 = .ok (.ifCond .lt 28, 3) := by decide +kernel
theorem dX4_odds_25 : decode cX4_odds 25 = .ok (.iload_n 1, 1) := by decide +kernel
theorem dX4_odds_26 : decode cX4_odds 26 = .ok (.bipush 12, 2) := by decide +kernel
theorem dX4_odds_28 : decode cX4_odds 28 = .ok (.if_icmp .gt 22, 3) := by decide +kernel
theorem dX4_odds_31 : decode cX4_odds 31 = .ok (.iload_n 2, 1) := by decide +kernel
theorem dX4_odds_32 : decode cX4_odds 32 = .ok (.ifCond .lt 18, 3) := by decide +kernel
theorem dX4_odds_35 : decode cX4_odds 35 = .ok (.iload_n 3, 1) := by decide +kernel
theorem dX4_odds_36 : decode cX4_odds 36 = .ok (.iload 4, 2) := by decide +kernel
theorem dX4_odds_38 : decode cX4_odds 38 = .ok (.bipush 16, 2) := by decide +kernel
theorem dX4_odds_40 : decode cX4_odds 40 = .ok (.invokestatic 122, 3) := by decide +kernel
theorem dX4_odds_43 : decode cX4_odds 43 = .ok (.ifCond .eq 7, 3) := by decide +kernel
theorem dX4_odds_46 : decode cX4_odds 46 = .ok (.iconst 1, 1) := by decide +kernel
theorem dX4_odds_47 : decode cX4_odds 47 = .ok (.goto 4, 3) := by decide +kernel
theorem dX4_odds_50 : decode cX4_odds 50 = .ok (.iconst 0, 1) := by decide +kernel
theorem dX4_odds_51 : decode cX4_odds 51 = .ok (.invokestatic 68, 3) := by decide +kernel
theorem dX4_odds_54 : decode cX4_odds 54 = .ok (.iload_n 1, 1) := by decide +kernel
theorem dX4_odds_55 : decode cX4_odds 55 = .ok (.iload_n 2, 1) := by decide +kernel
theorem dX4_odds_56 : decode cX4_odds 56 = .ok (.iload_n 3, 1) := by decide +kernel
theorem dX4_odds_57 : decode cX4_odds 57 = .ok (.iload 4, 2) := by decide +kernel
theorem dX4_odds_59 : decode cX4_odds 59 = .ok (.iload_n 3, 1) := by decide +kernel
theorem dX4_odds_60 : decode cX4_odds 60 = .ok (.isub, 1) := by decide +kernel
theorem dX4_odds_61 : decode cX4_odds 61 = .ok (.invokestatic 137, 3) := by decide +kernel
theorem dX4_odds_64 : decode cX4_odds 64 = .ok (.lstore 6, 2) := by decide +kernel
theorem dX4_odds_66 : decode cX4_odds 66 = .ok (.iload 4, 2) := by decide +kernel
theorem dX4_odds_68 : decode cX4_odds 68 = .ok (.iload_n 1, 1) := by decide +kernel
theorem dX4_odds_69 : decode cX4_odds 69 = .ok (.invokestatic 141, 3) := by decide +kernel
theorem dX4_odds_72 : decode cX4_odds 72 = .ok (.lstore 8, 2) := by decide +kernel
theorem dX4_odds_74 : decode cX4_odds 74 = .ok (.lload 8, 2) := by decide +kernel
theorem dX4_odds_76 : decode cX4_odds 76 = .ok (.lload 6, 2) := by decide +kernel
theorem dX4_odds_78 : decode cX4_odds 78 = .ok (.invokestatic 145, 3) := by decide +kernel
theorem dX4_odds_81 : decode cX4_odds 81 = .ok (.lstore 10, 2) := by decide +kernel
theorem dX4_odds_83 : decode cX4_odds 83 = .ok (.iload 5, 2) := by decide +kernel
theorem dX4_odds_85 : decode cX4_odds 85 = .ok (.ifCond .ne 8, 3) := by decide +kernel
theorem dX4_odds_88 : decode cX4_odds 88 = .ok (.lload 6, 2) := by decide +kernel
theorem dX4_odds_90 : decode cX4_odds 90 = .ok (.goto 5, 3) := by decide +kernel
theorem dX4_odds_93 : decode cX4_odds 93 = .ok (.lload 8, 2) := by decide +kernel
theorem dX4_odds_95 : decode cX4_odds 95 = .ok (.lstore 12, 2) := by decide +kernel
theorem dX4_odds_97 : decode cX4_odds 97 = .ok (.lload 10, 2) := by decide +kernel
theorem dX4_odds_99 : decode cX4_odds 99 = .ok (.lconst 1, 1) := by decide +kernel
theorem dX4_odds_100 : decode cX4_odds 100 = .ok (.lcmp, 1) := by decide +kernel
theorem dX4_odds_101 : decode cX4_odds 101 = .ok (.ifCond .le 11, 3) := by decide +kernel
theorem dX4_odds_104 : decode cX4_odds 104 = .ok (.lload 12, 2) := by decide +kernel
theorem dX4_odds_106 : decode cX4_odds 106 = .ok (.lload 10, 2) := by decide +kernel
theorem dX4_odds_108 : decode cX4_odds 108 = .ok (.ldiv, 1) := by decide +kernel
theorem dX4_odds_109 : decode cX4_odds 109 = .ok (.goto 5, 3) := by decide +kernel
theorem dX4_odds_112 : decode cX4_odds 112 = .ok (.lload 12, 2) := by decide +kernel
theorem dX4_odds_114 : decode cX4_odds 114 = .ok (.lreturn, 1) := by decide +kernel
theorem dX4_chart_0 : decode cX4_chart 0 = .ok (.iload_n 1, 1) := by decide +kernel
theorem dX4_chart_1 : decode cX4_chart 1 = .ok (.iconst 1, 1) := by decide +kernel
theorem dX4_chart_2 : decode cX4_chart 2 = .ok (.if_icmp .lt 22, 3) := by decide +kernel
theorem dX4_chart_5 : decode cX4_chart 5 = .ok (.iload_n 1, 1) := by decide +kernel
theorem dX4_chart_6 : decode cX4_chart 6 = .ok (.bipush 20, 2) := by decide +kernel
theorem dX4_chart_8 : decode cX4_chart 8 = .ok (.if_icmp .gt 16, 3) := by decide +kernel
theorem dX4_chart_11 : decode cX4_chart 11 = .ok (.iload_n 2, 1) := by decide +kernel
theorem dX4_chart_12 : decode cX4_chart 12 = .ok (.ifCond .lt 12, 3) := by decide +kernel
theorem dX4_chart_15 : decode cX4_chart 15 = .ok (.iload_n 2, 1) := by decide +kernel
theorem dX4_chart_16 : decode cX4_chart 16 = .ok (.iload_n 1, 1) := by decide +kernel
theorem dX4_chart_17 : decode cX4_chart 17 = .ok (.if_icmp .gt 7, 3) := by decide +kernel
theorem dX4_chart_20 : decode cX4_chart 20 = .ok (.iconst 1, 1) := by decide +kernel
theorem dX4_chart_21 : decode cX4_chart 21 = .ok (.goto 4, 3) := by decide +kernel
theorem dX4_chart_24 : decode cX4_chart 24 = .ok (.iconst 0, 1) := by decide +kernel
theorem dX4_chart_25 : decode cX4_chart 25 = .ok (.invokestatic 68, 3) := by decide +kernel
theorem dX4_chart_28 : decode cX4_chart 28 = .ok (.aload_n 0, 1) := by decide +kernel
theorem dX4_chart_29 : decode cX4_chart 29 = .ok (.getfield 39, 3) := by decide +kernel
theorem dX4_chart_32 : decode cX4_chart 32 = .ok (.iload_n 1, 1) := by decide +kernel
theorem dX4_chart_33 : decode cX4_chart 33 = .ok (.iload_n 2, 1) := by decide +kernel
theorem dX4_chart_34 : decode cX4_chart 34 = .ok (.invokevirtual 149, 3) := by decide +kernel
theorem dX4_chart_37 : decode cX4_chart 37 = .ok (.return_, 1) := by decide +kernel
theorem dX4_test_0 : decode cX4_test 0 = .ok (.aload_n 0, 1) := by decide +kernel
theorem dX4_test_1 : decode cX4_test 1 = .ok (.getfield 39, 3) := by decide +kernel
theorem dX4_test_4 : decode cX4_test 4 = .ok (.iload_n 1, 1) := by decide +kernel
theorem dX4_test_5 : decode cX4_test 5 = .ok (.invokevirtual 153, 3) := by decide +kernel
theorem dX4_test_8 : decode cX4_test 8 = .ok (.ireturn, 1) := by decide +kernel
theorem dX4_proof_0 : decode cX4_proof 0 = .ok (.dload_n 1, 1) := by decide +kernel
theorem dX4_proof_1 : decode cX4_proof 1 = .ok (.iconst 0, 1) := by decide +kernel
theorem dX4_proof_2 : decode cX4_proof 2 = .ok (.sipush 1000, 3) := by decide +kernel
theorem dX4_proof_5 : decode cX4_proof 5 = .ok (.invokestatic 64, 3) := by decide +kernel
theorem dX4_proof_8 : decode cX4_proof 8 = .ok (.invokestatic 68, 3) := by decide +kernel
theorem dX4_proof_11 : decode cX4_proof 11 = .ok (.iconst 0, 1) := by decide +kernel
theorem dX4_proof_12 : decode cX4_proof 12 = .ok (.istore_n 3, 1) := by decide +kernel
theorem dX4_proof_13 : decode cX4_proof 13 = .ok (.aload_n 0, 1) := by decide +kernel
theorem dX4_proof_14 : decode cX4_proof 14 = .ok (.getfield 15, 3) := by decide +kernel
theorem dX4_proof_17 : decode cX4_proof 17 = .ok (.astore 4, 2) := by decide +kernel
theorem dX4_proof_19 : decode cX4_proof 19 = .ok (.aload 4, 2) := by decide +kernel
theorem dX4_proof_21 : decode cX4_proof 21 = .ok (.arraylength, 1) := by decide +kernel
theorem dX4_proof_22 : decode cX4_proof 22 = .ok (.istore 5, 2) := by decide +kernel
theorem dX4_proof_24 : decode cX4_proof 24 = .ok (.iconst 0, 1) := by decide +kernel
theorem dX4_proof_25 : decode cX4_proof 25 = .ok (.istore 6, 2) := by decide +kernel
theorem dX4_proof_27 : decode cX4_proof 27 = .ok (.iload 6, 2) := by decide +kernel
theorem dX4_proof_29 : decode cX4_proof 29 = .ok (.iload 5, 2) := by decide +kernel
theorem dX4_proof_31 : decode cX4_proof 31 = .ok (.if_icmp .ge 51, 3) := by decide +kernel
theorem dX4_proof_34 : decode cX4_proof 34 = .ok (.aload 4, 2) := by decide +kernel
theorem dX4_proof_36 : decode cX4_proof 36 = .ok (.iload 6, 2) := by decide +kernel
theorem dX4_proof_38 : decode cX4_proof 38 = .ok (.aaload, 1) := by decide +kernel
theorem dX4_proof_39 : decode cX4_proof 39 = .ok (.astore 7, 2) := by decide +kernel
theorem dX4_proof_41 : decode cX4_proof 41 = .ok (.aload 7, 2) := by decide +kernel
theorem dX4_proof_43 : decode cX4_proof 43 = .ok (.getfield 87, 3) := by decide +kernel
theorem dX4_proof_46 : decode cX4_proof 46 = .ok (.ifCond .eq 30, 3) := by decide +kernel
theorem dX4_proof_49 : decode cX4_proof 49 = .ok (.aload 7, 2) := by decide +kernel
theorem dX4_proof_51 : decode cX4_proof 51 = .ok (.getfield 91, 3) := by decide +kernel
theorem dX4_proof_54 : decode cX4_proof 54 = .ok (.ifCond .ne 22, 3) := by decide +kernel
theorem dX4_proof_57 : decode cX4_proof 57 = .ok (.aload 7, 2) := by decide +kernel
theorem dX4_proof_59 : decode cX4_proof 59 = .ok (.getfield 96, 3) := by decide +kernel
theorem dX4_proof_62 : decode cX4_proof 62 = .ok (.dload_n 1, 1) := by decide +kernel
theorem dX4_proof_63 : decode cX4_proof 63 = .ok (.dcmp .g, 1) := by decide +kernel
theorem dX4_proof_64 : decode cX4_proof 64 = .ok (.ifCond .ge 12, 3) := by decide +kernel
theorem dX4_proof_67 : decode cX4_proof 67 = .ok (.aload 7, 2) := by decide +kernel
theorem dX4_proof_69 : decode cX4_proof 69 = .ok (.iconst 1, 1) := by decide +kernel
theorem dX4_proof_70 : decode cX4_proof 70 = .ok (.putfield 91, 3) := by decide +kernel
theorem dX4_proof_73 : decode cX4_proof 73 = .ok (.iinc 3 1, 3) := by decide +kernel
theorem dX4_proof_76 : decode cX4_proof 76 = .ok (.iinc 6 1, 3) := by decide +kernel
theorem dX4_proof_79 : decode cX4_proof 79 = .ok (.goto (-52), 3) := by decide +kernel
theorem dX4_proof_82 : decode cX4_proof 82 = .ok (.iload_n 3, 1) := by decide +kernel
theorem dX4_proof_83 : decode cX4_proof 83 = .ok (.ireturn, 1) := by decide +kernel
theorem dX4_about_0 : decode cX4_about 0 = .ok (.aload_n 0, 1) := by decide +kernel
theorem dX4_about_1 : decode cX4_about 1 = .ok (.iload_n 1, 1) := by decide +kernel
theorem dX4_about_2 : decode cX4_about 2 = .ok (.invokevirtual 60, 3) := by decide +kernel
theorem dX4_about_5 : decode cX4_about 5 = .ok (.astore_n 3, 1) := by decide +kernel
theorem dX4_about_6 : decode cX4_about 6 = .ok (.iload_n 2, 1) := by decide +kernel
theorem dX4_about_7 : decode cX4_about 7 = .ok (.tableswitch 73 0 3 #[29, 34, 47, 60], 29) := by decide +kernel
theorem dX4_about_36 : decode cX4_about 36 = .ok (.aload_n 3, 1) := by decide +kernel
theorem dX4_about_37 : decode cX4_about 37 = .ok (.getfield 72, 3) := by decide +kernel
theorem dX4_about_40 : decode cX4_about 40 = .ok (.ireturn, 1) := by decide +kernel
theorem dX4_about_41 : decode cX4_about 41 = .ok (.aload_n 3, 1) := by decide +kernel
theorem dX4_about_42 : decode cX4_about 42 = .ok (.invokevirtual 157, 3) := by decide +kernel
theorem dX4_about_45 : decode cX4_about 45 = .ok (.ifCond .eq 7, 3) := by decide +kernel
theorem dX4_about_48 : decode cX4_about 48 = .ok (.iconst 1, 1) := by decide +kernel
theorem dX4_about_49 : decode cX4_about 49 = .ok (.goto 4, 3) := by decide +kernel
theorem dX4_about_52 : decode cX4_about 52 = .ok (.iconst 0, 1) := by decide +kernel
theorem dX4_about_53 : decode cX4_about 53 = .ok (.ireturn, 1) := by decide +kernel
theorem dX4_about_54 : decode cX4_about 54 = .ok (.aload_n 3, 1) := by decide +kernel
theorem dX4_about_55 : decode cX4_about 55 = .ok (.getfield 87, 3) := by decide +kernel
theorem dX4_about_58 : decode cX4_about 58 = .ok (.ifCond .eq 7, 3) := by decide +kernel
theorem dX4_about_61 : decode cX4_about 61 = .ok (.iconst 1, 1) := by decide +kernel
theorem dX4_about_62 : decode cX4_about 62 = .ok (.goto 4, 3) := by decide +kernel
theorem dX4_about_65 : decode cX4_about 65 = .ok (.iconst 0, 1) := by decide +kernel
theorem dX4_about_66 : decode cX4_about 66 = .ok (.ireturn, 1) := by decide +kernel
theorem dX4_about_67 : decode cX4_about 67 = .ok (.aload_n 3, 1) := by decide +kernel
theorem dX4_about_68 : decode cX4_about 68 = .ok (.getfield 91, 3) := by decide +kernel
theorem dX4_about_71 : decode cX4_about 71 = .ok (.ifCond .eq 7, 3) := by decide +kernel
theorem dX4_about_74 : decode cX4_about 74 = .ok (.iconst 1, 1) := by decide +kernel
theorem dX4_about_75 : decode cX4_about 75 = .ok (.goto 4, 3) := by decide +kernel
theorem dX4_about_78 : decode cX4_about 78 = .ok (.iconst 0, 1) := by decide +kernel
theorem dX4_about_79 : decode cX4_about 79 = .ok (.ireturn, 1) := by decide +kernel
theorem dX4_about_80 : decode cX4_about 80 = .ok (.new 103, 3) := by decide +kernel
theorem dX4_about_83 : decode cX4_about 83 = .ok (.dup, 1) := by decide +kernel
theorem dX4_about_84 : decode cX4_about 84 = .ok (.ldc 161, 2) := by decide +kernel
theorem dX4_about_86 : decode cX4_about 86 = .ok (.invokespecial 107, 3) := by decide +kernel
theorem dX4_about_89 : decode cX4_about 89 = .ok (.athrow, 1) := by decide +kernel
theorem dX4_reference_0 : decode cX4_reference 0 = .ok (.iload_n 1, 1) := by decide +kernel
theorem dX4_reference_1 : decode cX4_reference 1 = .ok (.invokestatic 163, 3) := by decide +kernel
theorem dX4_reference_4 : decode cX4_reference 4 = .ok (.ifCond .eq 31, 3) := by decide +kernel
theorem dX4_reference_7 : decode cX4_reference 7 = .ok (.aload_n 0, 1) := by decide +kernel
theorem dX4_reference_8 : decode cX4_reference 8 = .ok (.getfield 46, 3) := by decide +kernel
theorem dX4_reference_11 : decode cX4_reference 11 = .ok (.iload_n 1, 1) := by decide +kernel
theorem dX4_reference_12 : decode cX4_reference 12 = .ok (.invokevirtual 167, 3) := by decide +kernel
theorem dX4_reference_15 : decode cX4_reference 15 = .ok (.ifCond .eq 20, 3) := by decide +kernel
theorem dX4_reference_18 : decode cX4_reference 18 = .ok (.dload_n 2, 1) := by decide +kernel
theorem dX4_reference_19 : decode cX4_reference 19 = .ok (.sipush (-1000), 3) := by decide +kernel
theorem dX4_reference_22 : decode cX4_reference 22 = .ok (.sipush 1000, 3) := by decide +kernel
theorem dX4_reference_25 : decode cX4_reference 25 = .ok (.invokestatic 64, 3) := by decide +kernel
theorem dX4_reference_28 : decode cX4_reference 28 = .ok (.ifCond .eq 7, 3) := by decide +kernel
theorem dX4_reference_31 : decode cX4_reference 31 = .ok (.iconst 1, 1) := by decide +kernel
theorem dX4_reference_32 : decode cX4_reference 32 = .ok (.goto 4, 3) := by decide +kernel
theorem dX4_reference_35 : decode cX4_reference 35 = .ok (.iconst 0, 1) := by decide +kernel
theorem dX4_reference_36 : decode cX4_reference 36 = .ok (.invokestatic 68, 3) := by decide +kernel
theorem dX4_reference_39 : decode cX4_reference 39 = .ok (.aload_n 0, 1) := by decide +kernel
theorem dX4_reference_40 : decode cX4_reference 40 = .ok (.getfield 46, 3) := by decide +kernel
theorem dX4_reference_43 : decode cX4_reference 43 = .ok (.invokevirtual 170, 3) := by decide +kernel
theorem dX4_reference_46 : decode cX4_reference 46 = .ok (.ifCond .eq 13, 3) := by decide +kernel
theorem dX4_reference_49 : decode cX4_reference 49 = .ok (.new 53, 3) := by decide +kernel
theorem dX4_reference_52 : decode cX4_reference 52 = .ok (.dup, 1) := by decide +kernel
theorem dX4_reference_53 : decode cX4_reference 53 = .ok (.ldc 173, 2) := by decide +kernel
theorem dX4_reference_55 : decode cX4_reference 55 = .ok (.invokespecial 57, 3) := by decide +kernel
theorem dX4_reference_58 : decode cX4_reference 58 = .ok (.athrow, 1) := by decide +kernel
theorem dX4_reference_59 : decode cX4_reference 59 = .ok (.aload_n 0, 1) := by decide +kernel
theorem dX4_reference_60 : decode cX4_reference 60 = .ok (.getfield 46, 3) := by decide +kernel
theorem dX4_reference_63 : decode cX4_reference 63 = .ok (.iload_n 1, 1) := by decide +kernel
theorem dX4_reference_64 : decode cX4_reference 64 = .ok (.dload_n 2, 1) := by decide +kernel
theorem dX4_reference_65 : decode cX4_reference 65 = .ok (.invokevirtual 175, 3) := by decide +kernel
theorem dX4_reference_68 : decode cX4_reference 68 = .ok (.ireturn, 1) := by decide +kernel
theorem dX4_drift_0 : decode cX4_drift 0 = .ok (.iload_n 1, 1) := by decide +kernel
theorem dX4_drift_1 : decode cX4_drift 1 = .ok (.invokestatic 163, 3) := by decide +kernel
theorem dX4_drift_4 : decode cX4_drift 4 = .ok (.invokestatic 68, 3) := by decide +kernel
theorem dX4_drift_7 : decode cX4_drift 7 = .ok (.aload_n 0, 1) := by decide +kernel
theorem dX4_drift_8 : decode cX4_drift 8 = .ok (.getfield 46, 3) := by decide +kernel
theorem dX4_drift_11 : decode cX4_drift 11 = .ok (.iload_n 1, 1) := by decide +kernel
theorem dX4_drift_12 : decode cX4_drift 12 = .ok (.invokevirtual 179, 3) := by decide +kernel
theorem dX4_drift_15 : decode cX4_drift 15 = .ok (.dreturn, 1) := by decide +kernel
theorem dX4_drawn_0 : decode cX4_drawn 0 = .ok (.iload_n 1, 1) := by decide +kernel
theorem dX4_drawn_1 : decode cX4_drawn 1 = .ok (.ifCond .lt 7, 3) := by decide +kernel
theorem dX4_drawn_4 : decode cX4_drawn 4 = .ok (.iconst 1, 1) := by decide +kernel
theorem dX4_drawn_5 : decode cX4_drawn 5 = .ok (.goto 4, 3) := by decide +kernel
theorem dX4_drawn_8 : decode cX4_drawn 8 = .ok (.iconst 0, 1) := by decide +kernel
theorem dX4_drawn_9 : decode cX4_drawn 9 = .ok (.invokestatic 68, 3) := by decide +kernel
theorem dX4_drawn_12 : decode cX4_drawn 12 = .ok (.aload_n 0, 1) := by decide +kernel
theorem dX4_drawn_13 : decode cX4_drawn 13 = .ok (.getfield 7, 3) := by decide +kernel
theorem dX4_drawn_16 : decode cX4_drawn 16 = .ok (.i2l, 1) := by decide +kernel
theorem dX4_drawn_17 : decode cX4_drawn 17 = .ok (.iload_n 1, 1) := by decide +kernel
theorem dX4_drawn_18 : decode cX4_drawn 18 = .ok (.i2l, 1) := by decide +kernel
theorem dX4_drawn_19 : decode cX4_drawn 19 = .ok (.lconst 1, 1) := by decide +kernel
theorem dX4_drawn_20 : decode cX4_drawn 20 = .ok (.ladd, 1) := by decide +kernel
theorem dX4_drawn_21 : decode cX4_drawn 21 = .ok (.ldc2_w 183, 3) := by decide +kernel
theorem dX4_drawn_24 : decode cX4_drawn 24 = .ok (.lmul, 1) := by decide +kernel
theorem dX4_drawn_25 : decode cX4_drawn 25 = .ok (.ladd, 1) := by decide +kernel
theorem dX4_drawn_26 : decode cX4_drawn 26 = .ok (.lstore_n 2, 1) := by decide +kernel
theorem dX4_drawn_27 : decode cX4_drawn 27 = .ok (.lload_n 2, 1) := by decide +kernel
theorem dX4_drawn_28 : decode cX4_drawn 28 = .ok (.lload_n 2, 1) := by decide +kernel
theorem dX4_drawn_29 : decode cX4_drawn 29 = .ok (.bipush 30, 2) := by decide +kernel
theorem dX4_drawn_31 : decode cX4_drawn 31 = .ok (.lushr, 1) := by decide +kernel
theorem dX4_drawn_32 : decode cX4_drawn 32 = .ok (.lxor, 1) := by decide +kernel
theorem dX4_drawn_33 : decode cX4_drawn 33 = .ok (.ldc2_w 185, 3) := by decide +kernel
theorem dX4_drawn_36 : decode cX4_drawn 36 = .ok (.lmul, 1) := by decide +kernel
theorem dX4_drawn_37 : decode cX4_drawn 37 = .ok (.lstore_n 2, 1) := by decide +kernel
theorem dX4_drawn_38 : decode cX4_drawn 38 = .ok (.lload_n 2, 1) := by decide +kernel
theorem dX4_drawn_39 : decode cX4_drawn 39 = .ok (.lload_n 2, 1) := by decide +kernel
theorem dX4_drawn_40 : decode cX4_drawn 40 = .ok (.bipush 27, 2) := by decide +kernel
theorem dX4_drawn_42 : decode cX4_drawn 42 = .ok (.lushr, 1) := by decide +kernel
theorem dX4_drawn_43 : decode cX4_drawn 43 = .ok (.lxor, 1) := by decide +kernel
theorem dX4_drawn_44 : decode cX4_drawn 44 = .ok (.ldc2_w 187, 3) := by decide +kernel
theorem dX4_drawn_47 : decode cX4_drawn 47 = .ok (.lmul, 1) := by decide +kernel
theorem dX4_drawn_48 : decode cX4_drawn 48 = .ok (.lstore_n 2, 1) := by decide +kernel
theorem dX4_drawn_49 : decode cX4_drawn 49 = .ok (.lload_n 2, 1) := by decide +kernel
theorem dX4_drawn_50 : decode cX4_drawn 50 = .ok (.lload_n 2, 1) := by decide +kernel
theorem dX4_drawn_51 : decode cX4_drawn 51 = .ok (.bipush 31, 2) := by decide +kernel
theorem dX4_drawn_53 : decode cX4_drawn 53 = .ok (.lushr, 1) := by decide +kernel
theorem dX4_drawn_54 : decode cX4_drawn 54 = .ok (.lxor, 1) := by decide +kernel
theorem dX4_drawn_55 : decode cX4_drawn 55 = .ok (.lstore_n 2, 1) := by decide +kernel
theorem dX4_drawn_56 : decode cX4_drawn 56 = .ok (.lload_n 2, 1) := by decide +kernel
theorem dX4_drawn_57 : decode cX4_drawn 57 = .ok (.bipush 44, 2) := by decide +kernel
theorem dX4_drawn_59 : decode cX4_drawn 59 = .ok (.lushr, 1) := by decide +kernel
theorem dX4_drawn_60 : decode cX4_drawn 60 = .ok (.l2d, 1) := by decide +kernel
theorem dX4_drawn_61 : decode cX4_drawn 61 = .ok (.ldc2_w 189, 3) := by decide +kernel
theorem dX4_drawn_64 : decode cX4_drawn 64 = .ok (.ddiv, 1) := by decide +kernel
theorem dX4_drawn_65 : decode cX4_drawn 65 = .ok (.dreturn, 1) := by decide +kernel
theorem dX4_boardAt_0 : decode cX4_boardAt 0 = .ok (.iload_n 1, 1) := by decide +kernel
theorem dX4_boardAt_1 : decode cX4_boardAt 1 = .ok (.ifCond .lt 11, 3) := by decide +kernel
theorem dX4_boardAt_4 : decode cX4_boardAt 4 = .ok (.iload_n 1, 1) := by decide +kernel
theorem dX4_boardAt_5 : decode cX4_boardAt 5 = .ok (.aload_n 0, 1) := by decide +kernel
theorem dX4_boardAt_6 : decode cX4_boardAt 6 = .ok (.getfield 50, 3) := by decide +kernel
theorem dX4_boardAt_9 : decode cX4_boardAt 9 = .ok (.if_icmp .lt 13, 3) := by decide +kernel
theorem dX4_boardAt_12 : decode cX4_boardAt 12 = .ok (.new 103, 3) := by decide +kernel
theorem dX4_boardAt_15 : decode cX4_boardAt 15 = .ok (.dup, 1) := by decide +kernel
theorem dX4_boardAt_16 : decode cX4_boardAt 16 = .ok (.ldc 191, 2) := by decide +kernel
theorem dX4_boardAt_18 : decode cX4_boardAt 18 = .ok (.invokespecial 107, 3) := by decide +kernel
theorem dX4_boardAt_21 : decode cX4_boardAt 21 = .ok (.athrow, 1) := by decide +kernel
theorem dX4_boardAt_22 : decode cX4_boardAt 22 = .ok (.aload_n 0, 1) := by decide +kernel
theorem dX4_boardAt_23 : decode cX4_boardAt 23 = .ok (.getfield 15, 3) := by decide +kernel
theorem dX4_boardAt_26 : decode cX4_boardAt 26 = .ok (.iload_n 1, 1) := by decide +kernel
theorem dX4_boardAt_27 : decode cX4_boardAt 27 = .ok (.aaload, 1) := by decide +kernel
theorem dX4_boardAt_28 : decode cX4_boardAt 28 = .ok (.areturn, 1) := by decide +kernel
theorem dX4_completeBoardAt_0 : decode cX4_completeBoardAt 0 = .ok (.aload_n 0, 1) := by decide +kernel
theorem dX4_completeBoardAt_1 : decode cX4_completeBoardAt 1 = .ok (.iload_n 1, 1) := by decide +kernel
theorem dX4_completeBoardAt_2 : decode cX4_completeBoardAt 2 = .ok (.invokevirtual 60, 3) := by decide +kernel
theorem dX4_completeBoardAt_5 : decode cX4_completeBoardAt 5 = .ok (.astore_n 2, 1) := by decide +kernel
theorem dX4_completeBoardAt_6 : decode cX4_completeBoardAt 6 = .ok (.aload_n 2, 1) := by decide +kernel
theorem dX4_completeBoardAt_7 : decode cX4_completeBoardAt 7 = .ok (.invokevirtual 157, 3) := by decide +kernel
theorem dX4_completeBoardAt_10 : decode cX4_completeBoardAt 10 = .ok (.ifCond .ne 13, 3) := by decide +kernel
theorem dX4_completeBoardAt_13 : decode cX4_completeBoardAt 13 = .ok (.new 53, 3) := by decide +kernel
theorem dX4_completeBoardAt_16 : decode cX4_completeBoardAt 16 = .ok (.dup, 1) := by decide +kernel
theorem dX4_completeBoardAt_17 : decode cX4_completeBoardAt 17 = .ok (.ldc 193, 2) := by decide +kernel
theorem dX4_completeBoardAt_19 : decode cX4_completeBoardAt 19 = .ok (.invokespecial 57, 3) := by decide +kernel
theorem dX4_completeBoardAt_22 : decode cX4_completeBoardAt 22 = .ok (.athrow, 1) := by decide +kernel
theorem dX4_completeBoardAt_23 : decode cX4_completeBoardAt 23 = .ok (.aload_n 2, 1) := by decide +kernel
theorem dX4_completeBoardAt_24 : decode cX4_completeBoardAt 24 = .ok (.areturn, 1) := by decide +kernel
theorem dX4_checkClass_0 : decode cX4_checkClass 0 = .ok (.iload_n 0, 1) := by decide +kernel
theorem dX4_checkClass_1 : decode cX4_checkClass 1 = .ok (.ifCond .lt 8, 3) := by decide +kernel
theorem dX4_checkClass_4 : decode cX4_checkClass 4 = .ok (.iload_n 0, 1) := by decide +kernel
theorem dX4_checkClass_5 : decode cX4_checkClass 5 = .ok (.iconst 4, 1) := by decide +kernel
theorem dX4_checkClass_6 : decode cX4_checkClass 6 = .ok (.if_icmp .lt 13, 3) := by decide +kernel
theorem dX4_checkClass_9 : decode cX4_checkClass 9 = .ok (.new 103, 3) := by decide +kernel
theorem dX4_checkClass_12 : decode cX4_checkClass 12 = .ok (.dup, 1) := by decide +kernel
theorem dX4_checkClass_13 : decode cX4_checkClass 13 = .ok (.ldc 195, 2) := by decide +kernel
theorem dX4_checkClass_15 : decode cX4_checkClass 15 = .ok (.invokespecial 107, 3) := by decide +kernel
theorem dX4_checkClass_18 : decode cX4_checkClass 18 = .ok (.athrow, 1) := by decide +kernel
theorem dX4_checkClass_19 : decode cX4_checkClass 19 = .ok (.return_, 1) := by decide +kernel
theorem dX4_need_0 : decode cX4_need 0 = .ok (.iload_n 0, 1) := by decide +kernel
theorem dX4_need_1 : decode cX4_need 1 = .ok (.ifCond .ne 13, 3) := by decide +kernel
theorem dX4_need_4 : decode cX4_need 4 = .ok (.new 197, 3) := by decide +kernel
theorem dX4_need_7 : decode cX4_need 7 = .ok (.dup, 1) := by decide +kernel
theorem dX4_need_8 : decode cX4_need 8 = .ok (.ldc 199, 2) := by decide +kernel
theorem dX4_need_10 : decode cX4_need 10 = .ok (.invokespecial 201, 3) := by decide +kernel
theorem dX4_need_13 : decode cX4_need 13 = .ok (.athrow, 1) := by decide +kernel
theorem dX4_need_14 : decode cX4_need 14 = .ok (.return_, 1) := by decide +kernel
theorem dX4_isWithin_0 : decode cX4_isWithin 0 = .ok (.dload_n 0, 1) := by decide +kernel
theorem dX4_isWithin_1 : decode cX4_isWithin 1 = .ok (.iload_n 2, 1) := by decide +kernel
theorem dX4_isWithin_2 : decode cX4_isWithin 2 = .ok (.i2d, 1) := by decide +kernel
theorem dX4_isWithin_3 : decode cX4_isWithin 3 = .ok (.dcmp .l, 1) := by decide +kernel
theorem dX4_isWithin_4 : decode cX4_isWithin 4 = .ok (.ifCond .lt 14, 3) := by decide +kernel
theorem dX4_isWithin_7 : decode cX4_isWithin 7 = .ok (.dload_n 0, 1) := by decide +kernel
theorem dX4_isWithin_8 : decode cX4_isWithin 8 = .ok (.iload_n 3, 1) := by decide +kernel
theorem dX4_isWithin_9 : decode cX4_isWithin 9 = .ok (.i2d, 1) := by decide +kernel
theorem dX4_isWithin_10 : decode cX4_isWithin 10 = .ok (.dcmp .g, 1) := by decide +kernel
theorem dX4_isWithin_11 : decode cX4_isWithin 11 = .ok (.ifCond .gt 7, 3) := by decide +kernel
theorem dX4_isWithin_14 : decode cX4_isWithin 14 = .ok (.iconst 1, 1) := by decide +kernel
theorem dX4_isWithin_15 : decode cX4_isWithin 15 = .ok (.goto 4, 3) := by decide +kernel
theorem dX4_isWithin_18 : decode cX4_isWithin 18 = .ok (.iconst 0, 1) := by decide +kernel
theorem dX4_isWithin_19 : decode cX4_isWithin 19 = .ok (.ireturn, 1) := by decide +kernel
theorem dX4_isDay_0 : decode cX4_isDay 0 = .ok (.iload_n 0, 1) := by decide +kernel
theorem dX4_isDay_1 : decode cX4_isDay 1 = .ok (.ifCond .lt 14, 3) := by decide +kernel
theorem dX4_isDay_4 : decode cX4_isDay 4 = .ok (.iload_n 0, 1) := by decide +kernel
theorem dX4_isDay_5 : decode cX4_isDay 5 = .ok (.sipush 10000, 3) := by decide +kernel
theorem dX4_isDay_8 : decode cX4_isDay 8 = .ok (.if_icmp .gt 7, 3) := by decide +kernel
theorem dX4_isDay_11 : decode cX4_isDay 11 = .ok (.iconst 1, 1) := by decide +kernel
theorem dX4_isDay_12 : decode cX4_isDay 12 = .ok (.goto 4, 3) := by decide +kernel
theorem dX4_isDay_15 : decode cX4_isDay 15 = .ok (.iconst 0, 1) := by decide +kernel
theorem dX4_isDay_16 : decode cX4_isDay 16 = .ok (.ireturn, 1) := by decide +kernel
theorem dX4_isShare_0 : decode cX4_isShare 0 = .ok (.iload_n 1, 1) := by decide +kernel
theorem dX4_isShare_1 : decode cX4_isShare 1 = .ok (.iconst 1, 1) := by decide +kernel
theorem dX4_isShare_2 : decode cX4_isShare 2 = .ok (.if_icmp .lt 21, 3) := by decide +kernel
theorem dX4_isShare_5 : decode cX4_isShare 5 = .ok (.iload_n 1, 1) := by decide +kernel
theorem dX4_isShare_6 : decode cX4_isShare 6 = .ok (.iload_n 2, 1) := by decide +kernel
theorem dX4_isShare_7 : decode cX4_isShare 7 = .ok (.if_icmp .gt 16, 3) := by decide +kernel
theorem dX4_isShare_10 : decode cX4_isShare 10 = .ok (.iload_n 0, 1) := by decide +kernel
theorem dX4_isShare_11 : decode cX4_isShare 11 = .ok (.ifCond .lt 12, 3) := by decide +kernel
theorem dX4_isShare_14 : decode cX4_isShare 14 = .ok (.iload_n 0, 1) := by decide +kernel
theorem dX4_isShare_15 : decode cX4_isShare 15 = .ok (.iload_n 1, 1) := by decide +kernel
theorem dX4_isShare_16 : decode cX4_isShare 16 = .ok (.if_icmp .gt 7, 3) := by decide +kernel
theorem dX4_isShare_19 : decode cX4_isShare 19 = .ok (.iconst 1, 1) := by decide +kernel
theorem dX4_isShare_20 : decode cX4_isShare 20 = .ok (.goto 4, 3) := by decide +kernel
theorem dX4_isShare_23 : decode cX4_isShare 23 = .ok (.iconst 0, 1) := by decide +kernel
theorem dX4_isShare_24 : decode cX4_isShare 24 = .ok (.ireturn, 1) := by decide +kernel
theorem dX4_keepForetold_0 : decode cX4_keepForetold 0 = .ok (.aload_n 0, 1) := by decide +kernel
theorem dX4_keepForetold_1 : decode cX4_keepForetold 1 = .ok (.getfield 15, 3) := by decide +kernel
theorem dX4_keepForetold_4 : decode cX4_keepForetold 4 = .ok (.astore_n 1, 1) := by decide +kernel
theorem dX4_keepForetold_5 : decode cX4_keepForetold 5 = .ok (.aload_n 1, 1) := by decide +kernel
theorem dX4_keepForetold_6 : decode cX4_keepForetold 6 = .ok (.arraylength, 1) := by decide +kernel
theorem dX4_keepForetold_7 : decode cX4_keepForetold 7 = .ok (.istore_n 2, 1) := by decide +kernel
theorem dX4_keepForetold_8 : decode cX4_keepForetold 8 = .ok (.iconst 0, 1) := by decide +kernel
theorem dX4_keepForetold_9 : decode cX4_keepForetold 9 = .ok (.istore_n 3, 1) := by decide +kernel
theorem dX4_keepForetold_10 : decode cX4_keepForetold 10 = .ok (.iload_n 3, 1) := by decide +kernel
theorem dX4_keepForetold_11 : decode cX4_keepForetold 11 = .ok (.iload_n 2, 1) := by decide +kernel
theorem dX4_keepForetold_12 : decode cX4_keepForetold 12 = .ok (.if_icmp .ge 28, 3) := by decide +kernel
theorem dX4_keepForetold_15 : decode cX4_keepForetold 15 = .ok (.aload_n 1, 1) := by decide +kernel
theorem dX4_keepForetold_16 : decode cX4_keepForetold 16 = .ok (.iload_n 3, 1) := by decide +kernel
theorem dX4_keepForetold_17 : decode cX4_keepForetold 17 = .ok (.aaload, 1) := by decide +kernel
theorem dX4_keepForetold_18 : decode cX4_keepForetold 18 = .ok (.astore 4, 2) := by decide +kernel
theorem dX4_keepForetold_20 : decode cX4_keepForetold 20 = .ok (.aload 4, 2) := by decide +kernel
theorem dX4_keepForetold_22 : decode cX4_keepForetold 22 = .ok (.aload_n 0, 1) := by decide +kernel
theorem dX4_keepForetold_23 : decode cX4_keepForetold 23 = .ok (.getfield 23, 3) := by decide +kernel
theorem dX4_keepForetold_26 : decode cX4_keepForetold 26 = .ok (.aload 4, 2) := by decide +kernel
theorem dX4_keepForetold_28 : decode cX4_keepForetold 28 = .ok (.invokevirtual 114, 3) := by decide +kernel
theorem dX4_keepForetold_31 : decode cX4_keepForetold 31 = .ok (.putfield 202, 3) := by decide +kernel
theorem dX4_keepForetold_34 : decode cX4_keepForetold 34 = .ok (.iinc 3 1, 3) := by decide +kernel
theorem dX4_keepForetold_37 : decode cX4_keepForetold 37 = .ok (.goto (-27), 3) := by decide +kernel
theorem dX4_keepForetold_40 : decode cX4_keepForetold 40 = .ok (.return_, 1) := by decide +kernel
theorem dX4_isEnough_0 : decode cX4_isEnough 0 = .ok (.iconst 0, 1) := by decide +kernel
theorem dX4_isEnough_1 : decode cX4_isEnough 1 = .ok (.istore 7, 2) := by decide +kernel
theorem dX4_isEnough_3 : decode cX4_isEnough 3 = .ok (.iconst 0, 1) := by decide +kernel
theorem dX4_isEnough_4 : decode cX4_isEnough 4 = .ok (.istore 8, 2) := by decide +kernel
theorem dX4_isEnough_6 : decode cX4_isEnough 6 = .ok (.aload_n 0, 1) := by decide +kernel
theorem dX4_isEnough_7 : decode cX4_isEnough 7 = .ok (.getfield 15, 3) := by decide +kernel
theorem dX4_isEnough_10 : decode cX4_isEnough 10 = .ok (.astore 9, 2) := by decide +kernel
theorem dX4_isEnough_12 : decode cX4_isEnough 12 = .ok (.aload 9, 2) := by decide +kernel
theorem dX4_isEnough_14 : decode cX4_isEnough 14 = .ok (.arraylength, 1) := by decide +kernel
theorem dX4_isEnough_15 : decode cX4_isEnough 15 = .ok (.istore 10, 2) := by decide +kernel
theorem dX4_isEnough_17 : decode cX4_isEnough 17 = .ok (.iconst 0, 1) := by decide +kernel
theorem dX4_isEnough_18 : decode cX4_isEnough 18 = .ok (.istore 11, 2) := by decide +kernel
theorem dX4_isEnough_20 : decode cX4_isEnough 20 = .ok (.iload 11, 2) := by decide +kernel
theorem dX4_isEnough_22 : decode cX4_isEnough 22 = .ok (.iload 10, 2) := by decide +kernel
theorem dX4_isEnough_24 : decode cX4_isEnough 24 = .ok (.if_icmp .ge 50, 3) := by decide +kernel
theorem dX4_isEnough_27 : decode cX4_isEnough 27 = .ok (.aload 9, 2) := by decide +kernel
theorem dX4_isEnough_29 : decode cX4_isEnough 29 = .ok (.iload 11, 2) := by decide +kernel
theorem dX4_isEnough_31 : decode cX4_isEnough 31 = .ok (.aaload, 1) := by decide +kernel
theorem dX4_isEnough_32 : decode cX4_isEnough 32 = .ok (.astore 12, 2) := by decide +kernel
theorem dX4_isEnough_34 : decode cX4_isEnough 34 = .ok (.aload 12, 2) := by decide +kernel
theorem dX4_isEnough_36 : decode cX4_isEnough 36 = .ok (.invokevirtual 205, 3) := by decide +kernel
theorem dX4_isEnough_39 : decode cX4_isEnough 39 = .ok (.ifCond .eq 29, 3) := by decide +kernel
theorem dX4_isEnough_42 : decode cX4_isEnough 42 = .ok (.aload 12, 2) := by decide +kernel
theorem dX4_isEnough_44 : decode cX4_isEnough 44 = .ok (.getfield 202, 3) := by decide +kernel
theorem dX4_isEnough_47 : decode cX4_isEnough 47 = .ok (.dload_n 1, 1) := by decide +kernel
theorem dX4_isEnough_48 : decode cX4_isEnough 48 = .ok (.dcmp .l, 1) := by decide +kernel
theorem dX4_isEnough_49 : decode cX4_isEnough 49 = .ok (.ifCond .lt 19, 3) := by decide +kernel
theorem dX4_isEnough_52 : decode cX4_isEnough 52 = .ok (.iinc 7 1, 3) := by decide +kernel
theorem dX4_isEnough_55 : decode cX4_isEnough 55 = .ok (.aload 12, 2) := by decide +kernel
theorem dX4_isEnough_57 : decode cX4_isEnough 57 = .ok (.getfield 96, 3) := by decide +kernel
theorem dX4_isEnough_60 : decode cX4_isEnough 60 = .ok (.dload_n 3, 1) := by decide +kernel
theorem dX4_isEnough_61 : decode cX4_isEnough 61 = .ok (.dcmp .g, 1) := by decide +kernel
theorem dX4_isEnough_62 : decode cX4_isEnough 62 = .ok (.ifCond .ge 6, 3) := by decide +kernel
theorem dX4_isEnough_65 : decode cX4_isEnough 65 = .ok (.iinc 8 1, 3) := by decide +kernel
theorem dX4_isEnough_68 : decode cX4_isEnough 68 = .ok (.iinc 11 1, 3) := by decide +kernel
theorem dX4_isEnough_71 : decode cX4_isEnough 71 = .ok (.goto (-51), 3) := by decide +kernel
theorem dX4_isEnough_74 : decode cX4_isEnough 74 = .ok (.iload 8, 2) := by decide +kernel
theorem dX4_isEnough_76 : decode cX4_isEnough 76 = .ok (.iload 6, 2) := by decide +kernel
theorem dX4_isEnough_78 : decode cX4_isEnough 78 = .ok (.imul, 1) := by decide +kernel
theorem dX4_isEnough_79 : decode cX4_isEnough 79 = .ok (.iload 5, 2) := by decide +kernel
theorem dX4_isEnough_81 : decode cX4_isEnough 81 = .ok (.iload 7, 2) := by decide +kernel
theorem dX4_isEnough_83 : decode cX4_isEnough 83 = .ok (.imul, 1) := by decide +kernel
theorem dX4_isEnough_84 : decode cX4_isEnough 84 = .ok (.if_icmp .gt 7, 3) := by decide +kernel
theorem dX4_isEnough_87 : decode cX4_isEnough 87 = .ok (.iconst 1, 1) := by decide +kernel
theorem dX4_isEnough_88 : decode cX4_isEnough 88 = .ok (.goto 4, 3) := by decide +kernel
theorem dX4_isEnough_91 : decode cX4_isEnough 91 = .ok (.iconst 0, 1) := by decide +kernel
theorem dX4_isEnough_92 : decode cX4_isEnough 92 = .ok (.ireturn, 1) := by decide +kernel
theorem dX4_waysOfFew_0 : decode cX4_waysOfFew 0 = .ok (.lconst 0, 1) := by decide +kernel
theorem dX4_waysOfFew_1 : decode cX4_waysOfFew 1 = .ok (.lstore 4, 2) := by decide +kernel
theorem dX4_waysOfFew_3 : decode cX4_waysOfFew 3 = .ok (.lconst 1, 1) := by decide +kernel
theorem dX4_waysOfFew_4 : decode cX4_waysOfFew 4 = .ok (.lstore 6, 2) := by decide +kernel
theorem dX4_waysOfFew_6 : decode cX4_waysOfFew 6 = .ok (.iconst 0, 1) := by decide +kernel
theorem dX4_waysOfFew_7 : decode cX4_waysOfFew 7 = .ok (.istore 8, 2) := by decide +kernel
theorem dX4_waysOfFew_9 : decode cX4_waysOfFew 9 = .ok (.iload 8, 2) := by decide +kernel
theorem dX4_waysOfFew_11 : decode cX4_waysOfFew 11 = .ok (.iload_n 0, 1) := by decide +kernel
theorem dX4_waysOfFew_12 : decode cX4_waysOfFew 12 = .ok (.if_icmp .gt 54, 3) := by decide +kernel
theorem dX4_waysOfFew_15 : decode cX4_waysOfFew 15 = .ok (.iload 8, 2) := by decide +kernel
theorem dX4_waysOfFew_17 : decode cX4_waysOfFew 17 = .ok (.iload_n 1, 1) := by decide +kernel
theorem dX4_waysOfFew_18 : decode cX4_waysOfFew 18 = .ok (.if_icmp .gt 48, 3) := by decide +kernel
theorem dX4_waysOfFew_21 : decode cX4_waysOfFew 21 = .ok (.lload 4, 2) := by decide +kernel
theorem dX4_waysOfFew_23 : decode cX4_waysOfFew 23 = .ok (.lload 6, 2) := by decide +kernel
theorem dX4_waysOfFew_25 : decode cX4_waysOfFew 25 = .ok (.iload_n 2, 1) := by decide +kernel
theorem dX4_waysOfFew_26 : decode cX4_waysOfFew 26 = .ok (.iload 8, 2) := by decide +kernel
theorem dX4_waysOfFew_28 : decode cX4_waysOfFew 28 = .ok (.invokestatic 141, 3) := by decide +kernel
theorem dX4_waysOfFew_31 : decode cX4_waysOfFew 31 = .ok (.lmul, 1) := by decide +kernel
theorem dX4_waysOfFew_32 : decode cX4_waysOfFew 32 = .ok (.iload_n 3, 1) := by decide +kernel
theorem dX4_waysOfFew_33 : decode cX4_waysOfFew 33 = .ok (.iload_n 0, 1) := by decide +kernel
theorem dX4_waysOfFew_34 : decode cX4_waysOfFew 34 = .ok (.iload 8, 2) := by decide +kernel
theorem dX4_waysOfFew_36 : decode cX4_waysOfFew 36 = .ok (.isub, 1) := by decide +kernel
theorem dX4_waysOfFew_37 : decode cX4_waysOfFew 37 = .ok (.invokestatic 141, 3) := by decide +kernel
theorem dX4_waysOfFew_40 : decode cX4_waysOfFew 40 = .ok (.lmul, 1) := by decide +kernel
theorem dX4_waysOfFew_41 : decode cX4_waysOfFew 41 = .ok (.ladd, 1) := by decide +kernel
theorem dX4_waysOfFew_42 : decode cX4_waysOfFew 42 = .ok (.lstore 4, 2) := by decide +kernel
theorem dX4_waysOfFew_44 : decode cX4_waysOfFew 44 = .ok (.lload 6, 2) := by decide +kernel
theorem dX4_waysOfFew_46 : decode cX4_waysOfFew 46 = .ok (.iload_n 0, 1) := by decide +kernel
theorem dX4_waysOfFew_47 : decode cX4_waysOfFew 47 = .ok (.iload 8, 2) := by decide +kernel
theorem dX4_waysOfFew_49 : decode cX4_waysOfFew 49 = .ok (.isub, 1) := by decide +kernel
theorem dX4_waysOfFew_50 : decode cX4_waysOfFew 50 = .ok (.i2l, 1) := by decide +kernel
theorem dX4_waysOfFew_51 : decode cX4_waysOfFew 51 = .ok (.lmul, 1) := by decide +kernel
theorem dX4_waysOfFew_52 : decode cX4_waysOfFew 52 = .ok (.iload 8, 2) := by decide +kernel
theorem dX4_waysOfFew_54 : decode cX4_waysOfFew 54 = .ok (.iconst 1, 1) := by decide +kernel
theorem dX4_waysOfFew_55 : decode cX4_waysOfFew 55 = .ok (.iadd, 1) := by decide +kernel
theorem dX4_waysOfFew_56 : decode cX4_waysOfFew 56 = .ok (.i2l, 1) := by decide +kernel
theorem dX4_waysOfFew_57 : decode cX4_waysOfFew 57 = .ok (.ldiv, 1) := by decide +kernel
theorem dX4_waysOfFew_58 : decode cX4_waysOfFew 58 = .ok (.lstore 6, 2) := by decide +kernel
theorem dX4_waysOfFew_60 : decode cX4_waysOfFew 60 = .ok (.iinc 8 1, 3) := by decide +kernel
theorem dX4_waysOfFew_63 : decode cX4_waysOfFew 63 = .ok (.goto (-54), 3) := by decide +kernel
theorem dX4_waysOfFew_66 : decode cX4_waysOfFew 66 = .ok (.lload 4, 2) := by decide +kernel
theorem dX4_waysOfFew_68 : decode cX4_waysOfFew 68 = .ok (.lreturn, 1) := by decide +kernel
theorem dX4_power_0 : decode cX4_power 0 = .ok (.lconst 1, 1) := by decide +kernel
theorem dX4_power_1 : decode cX4_power 1 = .ok (.lstore_n 2, 1) := by decide +kernel
theorem dX4_power_2 : decode cX4_power 2 = .ok (.iconst 0, 1) := by decide +kernel
theorem dX4_power_3 : decode cX4_power 3 = .ok (.istore 4, 2) := by decide +kernel
theorem dX4_power_5 : decode cX4_power 5 = .ok (.iload 4, 2) := by decide +kernel
theorem dX4_power_7 : decode cX4_power 7 = .ok (.iload_n 1, 1) := by decide +kernel
theorem dX4_power_8 : decode cX4_power 8 = .ok (.if_icmp .ge 14, 3) := by decide +kernel
theorem dX4_power_11 : decode cX4_power 11 = .ok (.lload_n 2, 1) := by decide +kernel
theorem dX4_power_12 : decode cX4_power 12 = .ok (.iload_n 0, 1) := by decide +kernel
theorem dX4_power_13 : decode cX4_power 13 = .ok (.i2l, 1) := by decide +kernel
theorem dX4_power_14 : decode cX4_power 14 = .ok (.lmul, 1) := by decide +kernel
theorem dX4_power_15 : decode cX4_power 15 = .ok (.lstore_n 2, 1) := by decide +kernel
theorem dX4_power_16 : decode cX4_power 16 = .ok (.iinc 4 1, 3) := by decide +kernel
theorem dX4_power_19 : decode cX4_power 19 = .ok (.goto (-14), 3) := by decide +kernel
theorem dX4_power_22 : decode cX4_power 22 = .ok (.lload_n 2, 1) := by decide +kernel
theorem dX4_power_23 : decode cX4_power 23 = .ok (.lreturn, 1) := by decide +kernel
theorem dX4_commonDivisor_0 : decode cX4_commonDivisor 0 = .ok (.lload_n 0, 1) := by decide +kernel
theorem dX4_commonDivisor_1 : decode cX4_commonDivisor 1 = .ok (.lstore 4, 2) := by decide +kernel
theorem dX4_commonDivisor_3 : decode cX4_commonDivisor 3 = .ok (.lload_n 2, 1) := by decide +kernel
theorem dX4_commonDivisor_4 : decode cX4_commonDivisor 4 = .ok (.lstore 6, 2) := by decide +kernel
theorem dX4_commonDivisor_6 : decode cX4_commonDivisor 6 = .ok (.iconst 0, 1) := by decide +kernel
theorem dX4_commonDivisor_7 : decode cX4_commonDivisor 7 = .ok (.istore 8, 2) := by decide +kernel
theorem dX4_commonDivisor_9 : decode cX4_commonDivisor 9 = .ok (.iload 8, 2) := by decide +kernel
theorem dX4_commonDivisor_11 : decode cX4_commonDivisor 11 = .ok (.sipush 1000, 3) := by decide +kernel
theorem dX4_commonDivisor_14 : decode cX4_commonDivisor 14 = .ok (.if_icmp .ge 31, 3) := by decide +kernel
theorem dX4_commonDivisor_17 : decode cX4_commonDivisor 17 = .ok (.lload 6, 2) := by decide +kernel
theorem dX4_commonDivisor_19 : decode cX4_commonDivisor 19 = .ok (.lconst 0, 1) := by decide +kernel
theorem dX4_commonDivisor_20 : decode cX4_commonDivisor 20 = .ok (.lcmp, 1) := by decide +kernel
theorem dX4_commonDivisor_21 : decode cX4_commonDivisor 21 = .ok (.ifCond .eq 24, 3) := by decide +kernel
theorem dX4_commonDivisor_24 : decode cX4_commonDivisor 24 = .ok (.lload 4, 2) := by decide +kernel
theorem dX4_commonDivisor_26 : decode cX4_commonDivisor 26 = .ok (.lload 6, 2) := by decide +kernel
theorem dX4_commonDivisor_28 : decode cX4_commonDivisor 28 = .ok (.lrem, 1) := by decide +kernel
theorem dX4_commonDivisor_29 : decode cX4_commonDivisor 29 = .ok (.lstore 9, 2) := by decide +kernel
theorem dX4_commonDivisor_31 : decode cX4_commonDivisor 31 = .ok (.lload 6, 2) := by decide +kernel
theorem dX4_commonDivisor_33 : decode cX4_commonDivisor 33 = .ok (.lstore 4, 2) := by decide +kernel
theorem dX4_commonDivisor_35 : decode cX4_commonDivisor 35 = .ok (.lload 9, 2) := by decide +kernel
theorem dX4_commonDivisor_37 : decode cX4_commonDivisor 37 = .ok (.lstore 6, 2) := by decide +kernel
theorem dX4_commonDivisor_39 : decode cX4_commonDivisor 39 = .ok (.iinc 8 1, 3) := by decide +kernel
theorem dX4_commonDivisor_42 : decode cX4_commonDivisor 42 = .ok (.goto (-33), 3) := by decide +kernel
theorem dX4_commonDivisor_45 : decode cX4_commonDivisor 45 = .ok (.lload 4, 2) := by decide +kernel
theorem dX4_commonDivisor_47 : decode cX4_commonDivisor 47 = .ok (.lreturn, 1) := by decide +kernel
theorem dX5_init_0 : decode cX5_init 0 = .ok (.aload_n 0, 1) := by decide +kernel
theorem dX5_init_1 : decode cX5_init 1 = .ok (.invokespecial 1, 3) := by decide +kernel
theorem dX5_init_4 : decode cX5_init 4 = .ok (.aload_n 0, 1) := by decide +kernel
theorem dX5_init_5 : decode cX5_init 5 = .ok (.sipush 256, 3) := by decide +kernel
theorem dX5_init_8 : decode cX5_init 8 = .ok (.newarray .double, 2) := by decide +kernel
theorem dX5_init_10 : decode cX5_init 10 = .ok (.putfield 7, 3) := by decide +kernel
theorem dX5_init_13 : decode cX5_init 13 = .ok (.aload_n 0, 1) := by decide +kernel
theorem dX5_init_14 : decode cX5_init 14 = .ok (.bipush 32, 2) := by decide +kernel
theorem dX5_init_16 : decode cX5_init 16 = .ok (.newarray .int, 2) := by decide +kernel
theorem dX5_init_18 : decode cX5_init 18 = .ok (.putfield 13, 3) := by decide +kernel
theorem dX5_init_21 : decode cX5_init 21 = .ok (.aload_n 0, 1) := by decide +kernel
theorem dX5_init_22 : decode cX5_init 22 = .ok (.bipush 32, 2) := by decide +kernel
theorem dX5_init_24 : decode cX5_init 24 = .ok (.newarray .double, 2) := by decide +kernel
theorem dX5_init_26 : decode cX5_init 26 = .ok (.putfield 17, 3) := by decide +kernel
theorem dX5_init_29 : decode cX5_init 29 = .ok (.aload_n 0, 1) := by decide +kernel
theorem dX5_init_30 : decode cX5_init 30 = .ok (.bipush 32, 2) := by decide +kernel
theorem dX5_init_32 : decode cX5_init 32 = .ok (.newarray .double, 2) := by decide +kernel
theorem dX5_init_34 : decode cX5_init 34 = .ok (.putfield 20, 3) := by decide +kernel
theorem dX5_init_37 : decode cX5_init 37 = .ok (.aload_n 0, 1) := by decide +kernel
theorem dX5_init_38 : decode cX5_init 38 = .ok (.bipush 32, 2) := by decide +kernel
theorem dX5_init_40 : decode cX5_init 40 = .ok (.newarray .double, 2) := by decide +kernel
theorem dX5_init_42 : decode cX5_init 42 = .ok (.putfield 23, 3) := by decide +kernel
theorem dX5_init_45 : decode cX5_init 45 = .ok (.aload_n 0, 1) := by decide +kernel
theorem dX5_init_46 : decode cX5_init 46 = .ok (.bipush 32, 2) := by decide +kernel
theorem dX5_init_48 : decode cX5_init 48 = .ok (.newarray .boolean, 2) := by decide +kernel
theorem dX5_init_50 : decode cX5_init 50 = .ok (.putfield 26, 3) := by decide +kernel
theorem dX5_init_53 : decode cX5_init 53 = .ok (.aload_n 0, 1) := by decide +kernel
theorem dX5_init_54 : decode cX5_init 54 = .ok (.bipush 32, 2) := by decide +kernel
theorem dX5_init_56 : decode cX5_init 56 = .ok (.newarray .boolean, 2) := by decide +kernel
theorem dX5_init_58 : decode cX5_init 58 = .ok (.putfield 30, 3) := by decide +kernel
theorem dX5_init_61 : decode cX5_init 61 = .ok (.aload_n 0, 1) := by decide +kernel
theorem dX5_init_62 : decode cX5_init 62 = .ok (.bipush 9, 2) := by decide +kernel
theorem dX5_init_64 : decode cX5_init 64 = .ok (.newarray .double, 2) := by decide +kernel
theorem dX5_init_66 : decode cX5_init 66 = .ok (.putfield 33, 3) := by decide +kernel
theorem dX5_init_69 : decode cX5_init 69 = .ok (.aload_n 0, 1) := by decide +kernel
theorem dX5_init_70 : decode cX5_init 70 = .ok (.iconst 3, 1) := by decide +kernel
theorem dX5_init_71 : decode cX5_init 71 = .ok (.newarray .double, 2) := by decide +kernel
theorem dX5_init_73 : decode cX5_init 73 = .ok (.putfield 36, 3) := by decide +kernel
theorem dX5_init_76 : decode cX5_init 76 = .ok (.aload_n 0, 1) := by decide +kernel
theorem dX5_init_77 : decode cX5_init 77 = .ok (.iconst 3, 1) := by decide +kernel
theorem dX5_init_78 : decode cX5_init 78 = .ok (.newarray .boolean, 2) := by decide +kernel
theorem dX5_init_80 : decode cX5_init 80 = .ok (.putfield 39, 3) := by decide +kernel
theorem dX5_init_83 : decode cX5_init 83 = .ok (.aload_n 0, 1) := by decide +kernel
theorem dX5_init_84 : decode cX5_init 84 = .ok (.iconst 3, 1) := by decide +kernel
theorem dX5_init_85 : decode cX5_init 85 = .ok (.newarray .double, 2) := by decide +kernel
theorem dX5_init_87 : decode cX5_init 87 = .ok (.putfield 42, 3) := by decide +kernel
theorem dX5_init_90 : decode cX5_init 90 = .ok (.aload_n 0, 1) := by decide +kernel
theorem dX5_init_91 : decode cX5_init 91 = .ok (.iconst 3, 1) := by decide +kernel
theorem dX5_init_92 : decode cX5_init 92 = .ok (.newarray .double, 2) := by decide +kernel
theorem dX5_init_94 : decode cX5_init 94 = .ok (.putfield 45, 3) := by decide +kernel
theorem dX5_init_97 : decode cX5_init 97 = .ok (.aload_n 0, 1) := by decide +kernel
theorem dX5_init_98 : decode cX5_init 98 = .ok (.iconst 4, 1) := by decide +kernel
theorem dX5_init_99 : decode cX5_init 99 = .ok (.newarray .double, 2) := by decide +kernel
theorem dX5_init_101 : decode cX5_init 101 = .ok (.dup, 1) := by decide +kernel
theorem dX5_init_102 : decode cX5_init 102 = .ok (.iconst 0, 1) := by decide +kernel
theorem dX5_init_103 : decode cX5_init 103 = .ok (.ldc2_w 48, 3) := by decide +kernel
theorem dX5_init_106 : decode cX5_init 106 = .ok (.dastore, 1) := by decide +kernel
theorem dX5_init_107 : decode cX5_init 107 = .ok (.dup, 1) := by decide +kernel
theorem dX5_init_108 : decode cX5_init 108 = .ok (.iconst 1, 1) := by decide +kernel
theorem dX5_init_109 : decode cX5_init 109 = .ok (.ldc2_w 48, 3) := by decide +kernel
theorem dX5_init_112 : decode cX5_init 112 = .ok (.dastore, 1) := by decide +kernel
theorem dX5_init_113 : decode cX5_init 113 = .ok (.dup, 1) := by decide +kernel
theorem dX5_init_114 : decode cX5_init 114 = .ok (.iconst 2, 1) := by decide +kernel
theorem dX5_init_115 : decode cX5_init 115 = .ok (.ldc2_w 48, 3) := by decide +kernel
theorem dX5_init_118 : decode cX5_init 118 = .ok (.dastore, 1) := by decide +kernel
theorem dX5_init_119 : decode cX5_init 119 = .ok (.dup, 1) := by decide +kernel
theorem dX5_init_120 : decode cX5_init 120 = .ok (.iconst 3, 1) := by decide +kernel
theorem dX5_init_121 : decode cX5_init 121 = .ok (.ldc2_w 48, 3) := by decide +kernel
theorem dX5_init_124 : decode cX5_init 124 = .ok (.dastore, 1) := by decide +kernel
theorem dX5_init_125 : decode cX5_init 125 = .ok (.putfield 50, 3) := by decide +kernel
theorem dX5_init_128 : decode cX5_init 128 = .ok (.aload_n 0, 1) := by decide +kernel
theorem dX5_init_129 : decode cX5_init 129 = .ok (.bipush 10, 2) := by decide +kernel
theorem dX5_init_131 : decode cX5_init 131 = .ok (.putfield 53, 3) := by decide +kernel
theorem dX5_init_134 : decode cX5_init 134 = .ok (.aload_n 0, 1) := by decide +kernel
theorem dX5_init_135 : decode cX5_init 135 = .ok (.iconst 1, 1) := by decide +kernel
theorem dX5_init_136 : decode cX5_init 136 = .ok (.putfield 57, 3) := by decide +kernel
theorem dX5_init_139 : decode cX5_init 139 = .ok (.aload_n 0, 1) := by decide +kernel
theorem dX5_init_140 : decode cX5_init 140 = .ok (.sipush 8192, 3) := by decide +kernel
theorem dX5_init_143 : decode cX5_init 143 = .ok (.newarray .boolean, 2) := by decide +kernel
theorem dX5_init_145 : decode cX5_init 145 = .ok (.putfield 60, 3) := by decide +kernel
theorem dX5_init_148 : decode cX5_init 148 = .ok (.aload_n 0, 1) := by decide +kernel
theorem dX5_init_149 : decode cX5_init 149 = .ok (.bipush 16, 2) := by decide +kernel
theorem dX5_init_151 : decode cX5_init 151 = .ok (.newarray .int, 2) := by decide +kernel
theorem dX5_init_153 : decode cX5_init 153 = .ok (.putfield 63, 3) := by decide +kernel
theorem dX5_init_156 : decode cX5_init 156 = .ok (.aload_n 0, 1) := by decide +kernel
theorem dX5_init_157 : decode cX5_init 157 = .ok (.bipush 16, 2) := by decide +kernel
theorem dX5_init_159 : decode cX5_init 159 = .ok (.newarray .double, 2) := by decide +kernel
theorem dX5_init_161 : decode cX5_init 161 = .ok (.putfield 66, 3) := by decide +kernel
theorem dX5_init_164 : decode cX5_init 164 = .ok (.aload_n 0, 1) := by decide +kernel
theorem dX5_init_165 : decode cX5_init 165 = .ok (.iload_n 1, 1) := by decide +kernel
theorem dX5_init_166 : decode cX5_init 166 = .ok (.i2l, 1) := by decide +kernel
theorem dX5_init_167 : decode cX5_init 167 = .ok (.putfield 69, 3) := by decide +kernel
theorem dX5_init_170 : decode cX5_init 170 = .ok (.return_, 1) := by decide +kernel
theorem dX5_thrown_0 : decode cX5_thrown 0 = .ok (.aload_n 0, 1) := by decide +kernel
theorem dX5_thrown_1 : decode cX5_thrown 1 = .ok (.getfield 73, 3) := by decide +kernel
theorem dX5_thrown_4 : decode cX5_thrown 4 = .ok (.ireturn, 1) := by decide +kernel
theorem dX5_between_0 : decode cX5_between 0 = .ok (.dload_n 0, 1) := by decide +kernel
theorem dX5_between_1 : decode cX5_between 1 = .ok (.dload_n 2, 1) := by decide +kernel
theorem dX5_between_2 : decode cX5_between 2 = .ok (.dcmp .l, 1) := by decide +kernel
theorem dX5_between_3 : decode cX5_between 3 = .ok (.ifCond .lt 14, 3) := by decide +kernel
theorem dX5_between_6 : decode cX5_between 6 = .ok (.dload_n 0, 1) := by decide +kernel
theorem dX5_between_7 : decode cX5_between 7 = .ok (.dload 4, 2) := by decide +kernel
theorem dX5_between_9 : decode cX5_between 9 = .ok (.dcmp .g, 1) := by decide +kernel
theorem dX5_between_10 : decode cX5_between 10 = .ok (.ifCond .gt 7, 3) := by decide +kernel
theorem dX5_between_13 : decode cX5_between 13 = .ok (.iconst 1, 1) := by decide +kernel
theorem dX5_between_14 : decode cX5_between 14 = .ok (.goto 4, 3) := by decide +kernel
theorem dX5_between_17 : decode cX5_between 17 = .ok (.iconst 0, 1) := by decide +kernel
theorem dX5_between_18 : decode cX5_between 18 = .ok (.ireturn, 1) := by decide +kernel
theorem dX5_noBoard_0 : decode cX5_noBoard 0 = .ok (.iload_n 1, 1) := by decide +kernel
theorem dX5_noBoard_1 : decode cX5_noBoard 1 = .ok (.ifCond .lt 11, 3) := by decide +kernel
theorem dX5_noBoard_4 : decode cX5_noBoard 4 = .ok (.iload_n 1, 1) := by decide +kernel
theorem dX5_noBoard_5 : decode cX5_noBoard 5 = .ok (.aload_n 0, 1) := by decide +kernel
theorem dX5_noBoard_6 : decode cX5_noBoard 6 = .ok (.getfield 76, 3) := by decide +kernel
theorem dX5_noBoard_9 : decode cX5_noBoard 9 = .ok (.if_icmp .lt 7, 3) := by decide +kernel
theorem dX5_noBoard_12 : decode cX5_noBoard 12 = .ok (.iconst 1, 1) := by decide +kernel
theorem dX5_noBoard_13 : decode cX5_noBoard 13 = .ok (.goto 4, 3) := by decide +kernel
theorem dX5_noBoard_16 : decode cX5_noBoard 16 = .ok (.iconst 0, 1) := by decide +kernel
theorem dX5_noBoard_17 : decode cX5_noBoard 17 = .ok (.ireturn, 1) := by decide +kernel
theorem dX5_board_0 : decode cX5_board 0 = .ok (.aload_n 0, 1) := by decide +kernel
theorem dX5_board_1 : decode cX5_board 1 = .ok (.aload_n 0, 1) := by decide +kernel
theorem dX5_board_2 : decode cX5_board 2 = .ok (.getfield 76, 3) := by decide +kernel
theorem dX5_board_5 : decode cX5_board 5 = .ok (.bipush 32, 2) := by decide +kernel
theorem dX5_board_7 : decode cX5_board 7 = .ok (.if_icmp .ne 7, 3) := by decide +kernel
theorem dX5_board_10 : decode cX5_board 10 = .ok (.iconst 1, 1) := by decide +kernel
theorem dX5_board_11 : decode cX5_board 11 = .ok (.goto 4, 3) := by decide +kernel
theorem dX5_board_14 : decode cX5_board 14 = .ok (.iconst 0, 1) := by decide +kernel
theorem dX5_board_15 : decode cX5_board 15 = .ok (.putfield 73, 3) := by decide +kernel
theorem dX5_board_18 : decode cX5_board 18 = .ok (.aload_n 0, 1) := by decide +kernel
theorem dX5_board_19 : decode cX5_board 19 = .ok (.getfield 73, 3) := by decide +kernel
theorem dX5_board_22 : decode cX5_board 22 = .ok (.ifCond .le 5, 3) := by decide +kernel
theorem dX5_board_25 : decode cX5_board 25 = .ok (.iconst 0, 1) := by decide +kernel
theorem dX5_board_26 : decode cX5_board 26 = .ok (.ireturn, 1) := by decide +kernel
theorem dX5_board_27 : decode cX5_board 27 = .ok (.aload_n 0, 1) := by decide +kernel
theorem dX5_board_28 : decode cX5_board 28 = .ok (.dup, 1) := by decide +kernel
theorem dX5_board_29 : decode cX5_board 29 = .ok (.getfield 76, 3) := by decide +kernel
theorem dX5_board_32 : decode cX5_board 32 = .ok (.iconst 1, 1) := by decide +kernel
theorem dX5_board_33 : decode cX5_board 33 = .ok (.iadd, 1) := by decide +kernel
theorem dX5_board_34 : decode cX5_board 34 = .ok (.putfield 76, 3) := by decide +kernel
theorem dX5_board_37 : decode cX5_board 37 = .ok (.aload_n 0, 1) := by decide +kernel
theorem dX5_board_38 : decode cX5_board 38 = .ok (.getfield 76, 3) := by decide +kernel
theorem dX5_board_41 : decode cX5_board 41 = .ok (.iconst 1, 1) := by decide +kernel
theorem dX5_board_42 : decode cX5_board 42 = .ok (.isub, 1) := by decide +kernel
theorem dX5_board_43 : decode cX5_board 43 = .ok (.ireturn, 1) := by decide +kernel
theorem dX5_row_0 : decode cX5_row 0 = .ok (.aload_n 0, 1) := by decide +kernel
theorem dX5_row_1 : decode cX5_row 1 = .ok (.aload_n 0, 1) := by decide +kernel
theorem dX5_row_2 : decode cX5_row 2 = .ok (.iload_n 1, 1) := by decide +kernel
theorem dX5_row_3 : decode cX5_row 3 = .ok (.invokevirtual 79, 3) := by decide +kernel
theorem dX5_row_6 : decode cX5_row 6 = .ok (.ifCond .eq 7, 3) := by decide +kernel
theorem dX5_row_9 : decode cX5_row 9 = .ok (.iconst 1, 1) := by decide +kernel
theorem dX5_row_10 : decode cX5_row 10 = .ok (.goto 34, 3) := by decide +kernel
theorem dX5_row_13 : decode cX5_row 13 = .ok (.dload_n 2, 1) := by decide +kernel
theorem dX5_row_14 : decode cX5_row 14 = .ok (.dconst 0, 1) := by decide +kernel
theorem dX5_row_15 : decode cX5_row 15 = .ok (.ldc2_w 83, 3) := by decide +kernel
theorem dX5_row_18 : decode cX5_row 18 = .ok (.invokestatic 85, 3) := by decide +kernel
theorem dX5_row_21 : decode cX5_row 21 = .ok (.ifCond .ne 7, 3) := by decide +kernel
theorem dX5_row_24 : decode cX5_row 24 = .ok (.iconst 2, 1) := by decide +kernel
theorem dX5_row_25 : decode cX5_row 25 = .ok (.goto 19, 3) := by decide +kernel
theorem dX5_row_28 : decode cX5_row 28 = .ok (.aload_n 0, 1) := by decide +kernel
theorem dX5_row_29 : decode cX5_row 29 = .ok (.getfield 13, 3) := by decide +kernel
theorem dX5_row_32 : decode cX5_row 32 = .ok (.iload_n 1, 1) := by decide +kernel
theorem dX5_row_33 : decode cX5_row 33 = .ok (.iaload, 1) := by decide +kernel
theorem dX5_row_34 : decode cX5_row 34 = .ok (.bipush 8, 2) := by decide +kernel
theorem dX5_row_36 : decode cX5_row 36 = .ok (.if_icmp .ne 7, 3) := by decide +kernel
theorem dX5_row_39 : decode cX5_row 39 = .ok (.iconst 3, 1) := by decide +kernel
theorem dX5_row_40 : decode cX5_row 40 = .ok (.goto 4, 3) := by decide +kernel
theorem dX5_row_43 : decode cX5_row 43 = .ok (.iconst 0, 1) := by decide +kernel
theorem dX5_row_44 : decode cX5_row 44 = .ok (.putfield 73, 3) := by decide +kernel
theorem dX5_row_47 : decode cX5_row 47 = .ok (.aload_n 0, 1) := by decide +kernel
theorem dX5_row_48 : decode cX5_row 48 = .ok (.getfield 73, 3) := by decide +kernel
theorem dX5_row_51 : decode cX5_row 51 = .ok (.ifCond .le 5, 3) := by decide +kernel
theorem dX5_row_54 : decode cX5_row 54 = .ok (.iconst 0, 1) := by decide +kernel
theorem dX5_row_55 : decode cX5_row 55 = .ok (.ireturn, 1) := by decide +kernel
theorem dX5_row_56 : decode cX5_row 56 = .ok (.aload_n 0, 1) := by decide +kernel
theorem dX5_row_57 : decode cX5_row 57 = .ok (.getfield 7, 3) := by decide +kernel
theorem dX5_row_60 : decode cX5_row 60 = .ok (.bipush 8, 2) := by decide +kernel
theorem dX5_row_62 : decode cX5_row 62 = .ok (.iload_n 1, 1) := by decide +kernel
theorem dX5_row_63 : decode cX5_row 63 = .ok (.imul, 1) := by decide +kernel
theorem dX5_row_64 : decode cX5_row 64 = .ok (.aload_n 0, 1) := by decide +kernel
theorem dX5_row_65 : decode cX5_row 65 = .ok (.getfield 13, 3) := by decide +kernel
theorem dX5_row_68 : decode cX5_row 68 = .ok (.iload_n 1, 1) := by decide +kernel
theorem dX5_row_69 : decode cX5_row 69 = .ok (.iaload, 1) := by decide +kernel
theorem dX5_row_70 : decode cX5_row 70 = .ok (.iadd, 1) := by decide +kernel
theorem dX5_row_71 : decode cX5_row 71 = .ok (.dload_n 2, 1) := by decide +kernel
theorem dX5_row_72 : decode cX5_row 72 = .ok (.dastore, 1) := by decide +kernel
theorem dX5_row_73 : decode cX5_row 73 = .ok (.aload_n 0, 1) := by decide +kernel
theorem dX5_row_74 : decode cX5_row 74 = .ok (.getfield 13, 3) := by decide +kernel
theorem dX5_row_77 : decode cX5_row 77 = .ok (.iload_n 1, 1) := by decide +kernel
theorem dX5_row_78 : decode cX5_row 78 = .ok (.dup2, 1) := by decide +kernel
theorem dX5_row_79 : decode cX5_row 79 = .ok (.iaload, 1) := by decide +kernel
theorem dX5_row_80 : decode cX5_row 80 = .ok (.iconst 1, 1) := by decide +kernel
theorem dX5_row_81 : decode cX5_row 81 = .ok (.iadd, 1) := by decide +kernel
theorem dX5_row_82 : decode cX5_row 82 = .ok (.iastore, 1) := by decide +kernel
theorem dX5_row_83 : decode cX5_row 83 = .ok (.aload_n 0, 1) := by decide +kernel
theorem dX5_row_84 : decode cX5_row 84 = .ok (.getfield 13, 3) := by decide +kernel
theorem dX5_row_87 : decode cX5_row 87 = .ok (.iload_n 1, 1) := by decide +kernel
theorem dX5_row_88 : decode cX5_row 88 = .ok (.iaload, 1) := by decide +kernel
theorem dX5_row_89 : decode cX5_row 89 = .ok (.ireturn, 1) := by decide +kernel
theorem dX5_echo_0 : decode cX5_echo 0 = .ok (.aload_n 0, 1) := by decide +kernel
theorem dX5_echo_1 : decode cX5_echo 1 = .ok (.aload_n 0, 1) := by decide +kernel
theorem dX5_echo_2 : decode cX5_echo 2 = .ok (.iload_n 1, 1) := by decide +kernel
theorem dX5_echo_3 : decode cX5_echo 3 = .ok (.invokevirtual 79, 3) := by decide +kernel
theorem dX5_echo_6 : decode cX5_echo 6 = .ok (.ifCond .eq 7, 3) := by decide +kernel
theorem dX5_echo_9 : decode cX5_echo 9 = .ok (.iconst 1, 1) := by decide +kernel
theorem dX5_echo_10 : decode cX5_echo 10 = .ok (.goto 31, 3) := by decide +kernel
theorem dX5_echo_13 : decode cX5_echo 13 = .ok (.dload_n 2, 1) := by decide +kernel
theorem dX5_echo_14 : decode cX5_echo 14 = .ok (.dconst 0, 1) := by decide +kernel
theorem dX5_echo_15 : decode cX5_echo 15 = .ok (.ldc2_w 89, 3) := by decide +kernel
theorem dX5_echo_18 : decode cX5_echo 18 = .ok (.invokestatic 85, 3) := by decide +kernel
theorem dX5_echo_21 : decode cX5_echo 21 = .ok (.ifCond .eq 19, 3) := by decide +kernel
theorem dX5_echo_24 : decode cX5_echo 24 = .ok (.dload 4, 2) := by decide +kernel
theorem dX5_echo_26 : decode cX5_echo 26 = .ok (.dconst 0, 1) := by decide +kernel
theorem dX5_echo_27 : decode cX5_echo 27 = .ok (.ldc2_w 91, 3) := by decide +kernel
theorem dX5_echo_30 : decode cX5_echo 30 = .ok (.invokestatic 85, 3) := by decide +kernel
theorem dX5_echo_33 : decode cX5_echo 33 = .ok (.ifCond .eq 7, 3) := by decide +kernel
theorem dX5_echo_36 : decode cX5_echo 36 = .ok (.iconst 0, 1) := by decide +kernel
theorem dX5_echo_37 : decode cX5_echo 37 = .ok (.goto 4, 3) := by decide +kernel
theorem dX5_echo_40 : decode cX5_echo 40 = .ok (.iconst 2, 1) := by decide +kernel
theorem dX5_echo_41 : decode cX5_echo 41 = .ok (.putfield 73, 3) := by decide +kernel
theorem dX5_echo_44 : decode cX5_echo 44 = .ok (.aload_n 0, 1) := by decide +kernel
theorem dX5_echo_45 : decode cX5_echo 45 = .ok (.getfield 73, 3) := by decide +kernel
theorem dX5_echo_48 : decode cX5_echo 48 = .ok (.ifCond .ne 15, 3) := by decide +kernel
theorem dX5_echo_51 : decode cX5_echo 51 = .ok (.aload_n 0, 1) := by decide +kernel
theorem dX5_echo_52 : decode cX5_echo 52 = .ok (.getfield 17, 3) := by decide +kernel
theorem dX5_echo_55 : decode cX5_echo 55 = .ok (.iload_n 1, 1) := by decide +kernel
theorem dX5_echo_56 : decode cX5_echo 56 = .ok (.dload 4, 2) := by decide +kernel
theorem dX5_echo_58 : decode cX5_echo 58 = .ok (.dload_n 2, 1) := by decide +kernel
theorem dX5_echo_59 : decode cX5_echo 59 = .ok (.dmul, 1) := by decide +kernel
theorem dX5_echo_60 : decode cX5_echo 60 = .ok (.dload_n 2, 1) := by decide +kernel
theorem dX5_echo_61 : decode cX5_echo 61 = .ok (.dmul, 1) := by decide +kernel
theorem dX5_echo_62 : decode cX5_echo 62 = .ok (.dastore, 1) := by decide +kernel
theorem dX5_echo_63 : decode cX5_echo 63 = .ok (.return_, 1) := by decide +kernel
theorem dX5_knots_0 : decode cX5_knots 0 = .ok (.aload_n 0, 1) := by decide +kernel
theorem dX5_knots_1 : decode cX5_knots 1 = .ok (.aload_n 0, 1) := by decide +kernel
theorem dX5_knots_2 : decode cX5_knots 2 = .ok (.iload_n 1, 1) := by decide +kernel
theorem dX5_knots_3 : decode cX5_knots 3 = .ok (.invokevirtual 79, 3) := by decide +kernel
theorem dX5_knots_6 : decode cX5_knots 6 = .ok (.ifCond .eq 7, 3) := by decide +kernel
theorem dX5_knots_9 : decode cX5_knots 9 = .ok (.iconst 1, 1) := by decide +kernel
theorem dX5_knots_10 : decode cX5_knots 10 = .ok (.goto 17, 3) := by decide +kernel
theorem dX5_knots_13 : decode cX5_knots 13 = .ok (.dload_n 2, 1) := by decide +kernel
theorem dX5_knots_14 : decode cX5_knots 14 = .ok (.dconst 0, 1) := by decide +kernel
theorem dX5_knots_15 : decode cX5_knots 15 = .ok (.dconst 1, 1) := by decide +kernel
theorem dX5_knots_16 : decode cX5_knots 16 = .ok (.invokestatic 85, 3) := by decide +kernel
theorem dX5_knots_19 : decode cX5_knots 19 = .ok (.ifCond .eq 7, 3) := by decide +kernel
theorem dX5_knots_22 : decode cX5_knots 22 = .ok (.iconst 0, 1) := by decide +kernel
theorem dX5_knots_23 : decode cX5_knots 23 = .ok (.goto 4, 3) := by decide +kernel
theorem dX5_knots_26 : decode cX5_knots 26 = .ok (.iconst 2, 1) := by decide +kernel
theorem dX5_knots_27 : decode cX5_knots 27 = .ok (.putfield 73, 3) := by decide +kernel
theorem dX5_knots_30 : decode cX5_knots 30 = .ok (.aload_n 0, 1) := by decide +kernel
theorem dX5_knots_31 : decode cX5_knots 31 = .ok (.getfield 73, 3) := by decide +kernel
theorem dX5_knots_34 : decode cX5_knots 34 = .ok (.ifCond .ne 10, 3) := by decide +kernel
theorem dX5_knots_37 : decode cX5_knots 37 = .ok (.aload_n 0, 1) := by decide +kernel
theorem dX5_knots_38 : decode cX5_knots 38 = .ok (.getfield 20, 3) := by decide +kernel
theorem dX5_knots_41 : decode cX5_knots 41 = .ok (.iload_n 1, 1) := by decide +kernel
theorem dX5_knots_42 : decode cX5_knots 42 = .ok (.dload_n 2, 1) := by decide +kernel
theorem dX5_knots_43 : decode cX5_knots 43 = .ok (.dastore, 1) := by decide +kernel
theorem dX5_knots_44 : decode cX5_knots 44 = .ok (.return_, 1) := by decide +kernel
theorem dX5_broken_0 : decode cX5_broken 0 = .ok (.aload_n 0, 1) := by decide +kernel
theorem dX5_broken_1 : decode cX5_broken 1 = .ok (.aload_n 0, 1) := by decide +kernel
theorem dX5_broken_2 : decode cX5_broken 2 = .ok (.iload_n 1, 1) := by decide +kernel
theorem dX5_broken_3 : decode cX5_broken 3 = .ok (.invokevirtual 79, 3) := by decide +kernel
theorem dX5_broken_6 : decode cX5_broken 6 = .ok (.ifCond .eq 7, 3) := by decide +kernel
theorem dX5_broken_9 : decode cX5_broken 9 = .ok (.iconst 1, 1) := by decide +kernel
theorem dX5_broken_10 : decode cX5_broken 10 = .ok (.goto 41, 3) := by decide +kernel
theorem dX5_broken_13 : decode cX5_broken 13 = .ok (.dload_n 2, 1) := by decide +kernel
theorem dX5_broken_14 : decode cX5_broken 14 = .ok (.dconst 0, 1) := by decide +kernel
theorem dX5_broken_15 : decode cX5_broken 15 = .ok (.ldc2_w 83, 3) := by decide +kernel
theorem dX5_broken_18 : decode cX5_broken 18 = .ok (.invokestatic 85, 3) := by decide +kernel
theorem dX5_broken_21 : decode cX5_broken 21 = .ok (.ifCond .ne 7, 3) := by decide +kernel
theorem dX5_broken_24 : decode cX5_broken 24 = .ok (.iconst 2, 1) := by decide +kernel
theorem dX5_broken_25 : decode cX5_broken 25 = .ok (.goto 26, 3) := by decide +kernel
theorem dX5_broken_28 : decode cX5_broken 28 = .ok (.aload_n 0, 1) := by decide +kernel
theorem dX5_broken_29 : decode cX5_broken 29 = .ok (.getfield 26, 3) := by decide +kernel
theorem dX5_broken_32 : decode cX5_broken 32 = .ok (.iload_n 1, 1) := by decide +kernel
theorem dX5_broken_33 : decode cX5_broken 33 = .ok (.baload, 1) := by decide +kernel
theorem dX5_broken_34 : decode cX5_broken 34 = .ok (.ifCond .ne 12, 3) := by decide +kernel
theorem dX5_broken_37 : decode cX5_broken 37 = .ok (.aload_n 0, 1) := by decide +kernel
theorem dX5_broken_38 : decode cX5_broken 38 = .ok (.getfield 30, 3) := by decide +kernel
theorem dX5_broken_41 : decode cX5_broken 41 = .ok (.iload_n 1, 1) := by decide +kernel
theorem dX5_broken_42 : decode cX5_broken 42 = .ok (.baload, 1) := by decide +kernel
theorem dX5_broken_43 : decode cX5_broken 43 = .ok (.ifCond .eq 7, 3) := by decide +kernel
theorem dX5_broken_46 : decode cX5_broken 46 = .ok (.iconst 3, 1) := by decide +kernel
theorem dX5_broken_47 : decode cX5_broken 47 = .ok (.goto 4, 3) := by decide +kernel
theorem dX5_broken_50 : decode cX5_broken 50 = .ok (.iconst 0, 1) := by decide +kernel
theorem dX5_broken_51 : decode cX5_broken 51 = .ok (.putfield 73, 3) := by decide +kernel
theorem dX5_broken_54 : decode cX5_broken 54 = .ok (.aload_n 0, 1) := by decide +kernel
theorem dX5_broken_55 : decode cX5_broken 55 = .ok (.getfield 73, 3) := by decide +kernel
theorem dX5_broken_58 : decode cX5_broken 58 = .ok (.ifCond .ne 17, 3) := by decide +kernel
theorem dX5_broken_61 : decode cX5_broken 61 = .ok (.aload_n 0, 1) := by decide +kernel
theorem dX5_broken_62 : decode cX5_broken 62 = .ok (.getfield 23, 3) := by decide +kernel
theorem dX5_broken_65 : decode cX5_broken 65 = .ok (.iload_n 1, 1) := by decide +kernel
theorem dX5_broken_66 : decode cX5_broken 66 = .ok (.dload_n 2, 1) := by decide +kernel
theorem dX5_broken_67 : decode cX5_broken 67 = .ok (.dastore, 1) := by decide +kernel
theorem dX5_broken_68 : decode cX5_broken 68 = .ok (.aload_n 0, 1) := by decide +kernel
theorem dX5_broken_69 : decode cX5_broken 69 = .ok (.getfield 26, 3) := by decide +kernel
theorem dX5_broken_72 : decode cX5_broken 72 = .ok (.iload_n 1, 1) := by decide +kernel
theorem dX5_broken_73 : decode cX5_broken 73 = .ok (.iconst 1, 1) := by decide +kernel
theorem dX5_broken_74 : decode cX5_broken 74 = .ok (.bastore, 1) := by decide +kernel
theorem dX5_broken_75 : decode cX5_broken 75 = .ok (.return_, 1) := by decide +kernel
theorem dX5_isComplete_0 : decode cX5_isComplete 0 = .ok (.aload_n 0, 1) := by decide +kernel
theorem dX5_isComplete_1 : decode cX5_isComplete 1 = .ok (.getfield 13, 3) := by decide +kernel
theorem dX5_isComplete_4 : decode cX5_isComplete 4 = .ok (.iload_n 1, 1) := by decide +kernel
theorem dX5_isComplete_5 : decode cX5_isComplete 5 = .ok (.iaload, 1) := by decide +kernel
theorem dX5_isComplete_6 : decode cX5_isComplete 6 = .ok (.ifCond .le 18, 3) := by decide +kernel
theorem dX5_isComplete_9 : decode cX5_isComplete 9 = .ok (.aload_n 0, 1) := by decide +kernel
theorem dX5_isComplete_10 : decode cX5_isComplete 10 = .ok (.getfield 17, 3) := by decide +kernel
theorem dX5_isComplete_13 : decode cX5_isComplete 13 = .ok (.iload_n 1, 1) := by decide +kernel
theorem dX5_isComplete_14 : decode cX5_isComplete 14 = .ok (.daload, 1) := by decide +kernel
theorem dX5_isComplete_15 : decode cX5_isComplete 15 = .ok (.dconst 0, 1) := by decide +kernel
theorem dX5_isComplete_16 : decode cX5_isComplete 16 = .ok (.dcmp .l, 1) := by decide +kernel
theorem dX5_isComplete_17 : decode cX5_isComplete 17 = .ok (.ifCond .le 7, 3) := by decide +kernel
theorem dX5_isComplete_20 : decode cX5_isComplete 20 = .ok (.iconst 1, 1) := by decide +kernel
theorem dX5_isComplete_21 : decode cX5_isComplete 21 = .ok (.goto 4, 3) := by decide +kernel
theorem dX5_isComplete_24 : decode cX5_isComplete 24 = .ok (.iconst 0, 1) := by decide +kernel
theorem dX5_isComplete_25 : decode cX5_isComplete 25 = .ok (.ireturn, 1) := by decide +kernel
theorem dX5_x_0 : decode cX5_x 0 = .ok (.iload_n 2, 1) := by decide +kernel
theorem dX5_x_1 : decode cX5_x 1 = .ok (.ifCond .ne 5, 3) := by decide +kernel
theorem dX5_x_4 : decode cX5_x 4 = .ok (.dconst 1, 1) := by decide +kernel
theorem dX5_x_5 : decode cX5_x 5 = .ok (.dreturn, 1) := by decide +kernel
theorem dX5_x_6 : decode cX5_x 6 = .ok (.iload_n 2, 1) := by decide +kernel
theorem dX5_x_7 : decode cX5_x 7 = .ok (.iconst 2, 1) := by decide +kernel
theorem dX5_x_8 : decode cX5_x 8 = .ok (.if_icmp .ne 12, 3) := by decide +kernel
theorem dX5_x_11 : decode cX5_x 11 = .ok (.dconst 1, 1) := by decide +kernel
theorem dX5_x_12 : decode cX5_x 12 = .ok (.aload_n 0, 1) := by decide +kernel
theorem dX5_x_13 : decode cX5_x 13 = .ok (.getfield 20, 3) := by decide +kernel
theorem dX5_x_16 : decode cX5_x 16 = .ok (.iload_n 1, 1) := by decide +kernel
theorem dX5_x_17 : decode cX5_x 17 = .ok (.daload, 1) := by decide +kernel
theorem dX5_x_18 : decode cX5_x 18 = .ok (.dsub, 1) := by decide +kernel
theorem dX5_x_19 : decode cX5_x 19 = .ok (.dreturn, 1) := by decide +kernel
theorem dX5_x_20 : decode cX5_x 20 = .ok (.dconst 0, 1) := by decide +kernel
theorem dX5_x_21 : decode cX5_x 21 = .ok (.dstore_n 3, 1) := by decide +kernel
theorem dX5_x_22 : decode cX5_x 22 = .ok (.iconst 0, 1) := by decide +kernel
theorem dX5_x_23 : decode cX5_x 23 = .ok (.istore 5, 2) := by decide +kernel
theorem dX5_x_25 : decode cX5_x 25 = .ok (.iload 5, 2) := by decide +kernel
theorem dX5_x_27 : decode cX5_x 27 = .ok (.aload_n 0, 1) := by decide +kernel
theorem dX5_x_28 : decode cX5_x 28 = .ok (.getfield 13, 3) := by decide +kernel
theorem dX5_x_31 : decode cX5_x 31 = .ok (.iload_n 1, 1) := by decide +kernel
theorem dX5_x_32 : decode cX5_x 32 = .ok (.iaload, 1) := by decide +kernel
theorem dX5_x_33 : decode cX5_x 33 = .ok (.if_icmp .ge 24, 3) := by decide +kernel
theorem dX5_x_36 : decode cX5_x 36 = .ok (.dload_n 3, 1) := by decide +kernel
theorem dX5_x_37 : decode cX5_x 37 = .ok (.aload_n 0, 1) := by decide +kernel
theorem dX5_x_38 : decode cX5_x 38 = .ok (.getfield 7, 3) := by decide +kernel
theorem dX5_x_41 : decode cX5_x 41 = .ok (.bipush 8, 2) := by decide +kernel
theorem dX5_x_43 : decode cX5_x 43 = .ok (.iload_n 1, 1) := by decide +kernel
theorem dX5_x_44 : decode cX5_x 44 = .ok (.imul, 1) := by decide +kernel
theorem dX5_x_45 : decode cX5_x 45 = .ok (.iload 5, 2) := by decide +kernel
theorem dX5_x_47 : decode cX5_x 47 = .ok (.iadd, 1) := by decide +kernel
theorem dX5_x_48 : decode cX5_x 48 = .ok (.daload, 1) := by decide +kernel
theorem dX5_x_49 : decode cX5_x 49 = .ok (.dadd, 1) := by decide +kernel
theorem dX5_x_50 : decode cX5_x 50 = .ok (.dstore_n 3, 1) := by decide +kernel
theorem dX5_x_51 : decode cX5_x 51 = .ok (.iinc 5 1, 3) := by decide +kernel
theorem dX5_x_54 : decode cX5_x 54 = .ok (.goto (-29), 3) := by decide +kernel
theorem dX5_x_57 : decode cX5_x 57 = .ok (.dload_n 3, 1) := by decide +kernel
theorem dX5_x_58 : decode cX5_x 58 = .ok (.aload_n 0, 1) := by decide +kernel
theorem dX5_x_59 : decode cX5_x 59 = .ok (.getfield 13, 3) := by decide +kernel
theorem dX5_x_62 : decode cX5_x 62 = .ok (.iload_n 1, 1) := by decide +kernel
theorem dX5_x_63 : decode cX5_x 63 = .ok (.iaload, 1) := by decide +kernel
theorem dX5_x_64 : decode cX5_x 64 = .ok (.i2d, 1) := by decide +kernel
theorem dX5_x_65 : decode cX5_x 65 = .ok (.ddiv, 1) := by decide +kernel
theorem dX5_x_66 : decode cX5_x 66 = .ok (.aload_n 0, 1) := by decide +kernel
theorem dX5_x_67 : decode cX5_x 67 = .ok (.getfield 17, 3) := by decide +kernel
theorem dX5_x_70 : decode cX5_x 70 = .ok (.iload_n 1, 1) := by decide +kernel
theorem dX5_x_71 : decode cX5_x 71 = .ok (.daload, 1) := by decide +kernel
theorem dX5_x_72 : decode cX5_x 72 = .ok (.dadd, 1) := by decide +kernel
theorem dX5_x_73 : decode cX5_x 73 = .ok (.ldc2_w 93, 3) := by decide +kernel
theorem dX5_x_76 : decode cX5_x 76 = .ok (.ddiv, 1) := by decide +kernel
theorem dX5_x_77 : decode cX5_x 77 = .ok (.dreturn, 1) := by decide +kernel
theorem dX5_add_0 : decode cX5_add 0 = .ok (.iconst 0, 1) := by decide +kernel
theorem dX5_add_1 : decode cX5_add 1 = .ok (.istore_n 2, 1) := by decide +kernel
theorem dX5_add_2 : decode cX5_add 2 = .ok (.iload_n 2, 1) := by decide +kernel
theorem dX5_add_3 : decode cX5_add 3 = .ok (.iconst 3, 1) := by decide +kernel
theorem dX5_add_4 : decode cX5_add 4 = .ok (.if_icmp .ge 82, 3) := by decide +kernel
theorem dX5_add_7 : decode cX5_add 7 = .ok (.iconst 0, 1) := by decide +kernel
theorem dX5_add_8 : decode cX5_add 8 = .ok (.istore_n 3, 1) := by decide +kernel
theorem dX5_add_9 : decode cX5_add 9 = .ok (.iload_n 3, 1) := by decide +kernel
theorem dX5_add_10 : decode cX5_add 10 = .ok (.iconst 3, 1) := by decide +kernel
theorem dX5_add_11 : decode cX5_add 11 = .ok (.if_icmp .ge 43, 3) := by decide +kernel
theorem dX5_add_14 : decode cX5_add 14 = .ok (.aload_n 0, 1) := by decide +kernel
theorem dX5_add_15 : decode cX5_add 15 = .ok (.getfield 33, 3) := by decide +kernel
theorem dX5_add_18 : decode cX5_add 18 = .ok (.iconst 3, 1) := by decide +kernel
theorem dX5_add_19 : decode cX5_add 19 = .ok (.iload_n 2, 1) := by decide +kernel
theorem dX5_add_20 : decode cX5_add 20 = .ok (.imul, 1) := by decide +kernel
theorem dX5_add_21 : decode cX5_add 21 = .ok (.iload_n 3, 1) := by decide +kernel
theorem dX5_add_22 : decode cX5_add 22 = .ok (.iadd, 1) := by decide +kernel
theorem dX5_add_23 : decode cX5_add 23 = .ok (.aload_n 0, 1) := by decide +kernel
theorem dX5_add_24 : decode cX5_add 24 = .ok (.getfield 33, 3) := by decide +kernel
theorem dX5_add_27 : decode cX5_add 27 = .ok (.iconst 3, 1) := by decide +kernel
theorem dX5_add_28 : decode cX5_add 28 = .ok (.iload_n 2, 1) := by decide +kernel
theorem dX5_add_29 : decode cX5_add 29 = .ok (.imul, 1) := by decide +kernel
theorem dX5_add_30 : decode cX5_add 30 = .ok (.iload_n 3, 1) := by decide +kernel
theorem dX5_add_31 : decode cX5_add 31 = .ok (.iadd, 1) := by decide +kernel
theorem dX5_add_32 : decode cX5_add 32 = .ok (.daload, 1) := by decide +kernel
theorem dX5_add_33 : decode cX5_add 33 = .ok (.aload_n 0, 1) := by decide +kernel
theorem dX5_add_34 : decode cX5_add 34 = .ok (.iload_n 1, 1) := by decide +kernel
theorem dX5_add_35 : decode cX5_add 35 = .ok (.iload_n 2, 1) := by decide +kernel
theorem dX5_add_36 : decode cX5_add 36 = .ok (.invokevirtual 95, 3) := by decide +kernel
theorem dX5_add_39 : decode cX5_add 39 = .ok (.aload_n 0, 1) := by decide +kernel
theorem dX5_add_40 : decode cX5_add 40 = .ok (.iload_n 1, 1) := by decide +kernel
theorem dX5_add_41 : decode cX5_add 41 = .ok (.iload_n 3, 1) := by decide +kernel
theorem dX5_add_42 : decode cX5_add 42 = .ok (.invokevirtual 95, 3) := by decide +kernel
theorem dX5_add_45 : decode cX5_add 45 = .ok (.dmul, 1) := by decide +kernel
theorem dX5_add_46 : decode cX5_add 46 = .ok (.dadd, 1) := by decide +kernel
theorem dX5_add_47 : decode cX5_add 47 = .ok (.dastore, 1) := by decide +kernel
theorem dX5_add_48 : decode cX5_add 48 = .ok (.iinc 3 1, 3) := by decide +kernel
theorem dX5_add_51 : decode cX5_add 51 = .ok (.goto (-42), 3) := by decide +kernel
theorem dX5_add_54 : decode cX5_add 54 = .ok (.aload_n 0, 1) := by decide +kernel
theorem dX5_add_55 : decode cX5_add 55 = .ok (.getfield 36, 3) := by decide +kernel
theorem dX5_add_58 : decode cX5_add 58 = .ok (.iload_n 2, 1) := by decide +kernel
theorem dX5_add_59 : decode cX5_add 59 = .ok (.aload_n 0, 1) := by decide +kernel
theorem dX5_add_60 : decode cX5_add 60 = .ok (.getfield 36, 3) := by decide +kernel
theorem dX5_add_63 : decode cX5_add 63 = .ok (.iload_n 2, 1) := by decide +kernel
theorem dX5_add_64 : decode cX5_add 64 = .ok (.daload, 1) := by decide +kernel
theorem dX5_add_65 : decode cX5_add 65 = .ok (.aload_n 0, 1) := by decide +kernel
theorem dX5_add_66 : decode cX5_add 66 = .ok (.iload_n 1, 1) := by decide +kernel
theorem dX5_add_67 : decode cX5_add 67 = .ok (.iload_n 2, 1) := by decide +kernel
theorem dX5_add_68 : decode cX5_add 68 = .ok (.invokevirtual 95, 3) := by decide +kernel
theorem dX5_add_71 : decode cX5_add 71 = .ok (.aload_n 0, 1) := by decide +kernel
theorem dX5_add_72 : decode cX5_add 72 = .ok (.getfield 23, 3) := by decide +kernel
theorem dX5_add_75 : decode cX5_add 75 = .ok (.iload_n 1, 1) := by decide +kernel
theorem dX5_add_76 : decode cX5_add 76 = .ok (.daload, 1) := by decide +kernel
theorem dX5_add_77 : decode cX5_add 77 = .ok (.dmul, 1) := by decide +kernel
theorem dX5_add_78 : decode cX5_add 78 = .ok (.dadd, 1) := by decide +kernel
theorem dX5_add_79 : decode cX5_add 79 = .ok (.dastore, 1) := by decide +kernel
theorem dX5_add_80 : decode cX5_add 80 = .ok (.iinc 2 1, 3) := by decide +kernel
theorem dX5_add_83 : decode cX5_add 83 = .ok (.goto (-81), 3) := by decide +kernel
theorem dX5_add_86 : decode cX5_add 86 = .ok (.return_, 1) := by decide +kernel
theorem dX5_solve_0 : decode cX5_solve 0 = .ok (.iconst 0, 1) := by decide +kernel
theorem dX5_solve_1 : decode cX5_solve 1 = .ok (.istore_n 2, 1) := by decide +kernel
theorem dX5_solve_2 : decode cX5_solve 2 = .ok (.iload_n 2, 1) := by decide +kernel
theorem dX5_solve_3 : decode cX5_solve 3 = .ok (.bipush 9, 2) := by decide +kernel
theorem dX5_solve_5 : decode cX5_solve 5 = .ok (.if_icmp .ge 25, 3) := by decide +kernel
theorem dX5_solve_8 : decode cX5_solve 8 = .ok (.aload_n 0, 1) := by decide +kernel
theorem dX5_solve_9 : decode cX5_solve 9 = .ok (.getfield 33, 3) := by decide +kernel
theorem dX5_solve_12 : decode cX5_solve 12 = .ok (.iload_n 2, 1) := by decide +kernel
theorem dX5_solve_13 : decode cX5_solve 13 = .ok (.dconst 0, 1) := by decide +kernel
theorem dX5_solve_14 : decode cX5_solve 14 = .ok (.dastore, 1) := by decide +kernel
theorem dX5_solve_15 : decode cX5_solve 15 = .ok (.aload_n 0, 1) := by decide +kernel
theorem dX5_solve_16 : decode cX5_solve 16 = .ok (.getfield 36, 3) := by decide +kernel
theorem dX5_solve_19 : decode cX5_solve 19 = .ok (.iload_n 2, 1) := by decide +kernel
theorem dX5_solve_20 : decode cX5_solve 20 = .ok (.iconst 3, 1) := by decide +kernel
theorem dX5_solve_21 : decode cX5_solve 21 = .ok (.idiv, 1) := by decide +kernel
theorem dX5_solve_22 : decode cX5_solve 22 = .ok (.dconst 0, 1) := by decide +kernel
theorem dX5_solve_23 : decode cX5_solve 23 = .ok (.dastore, 1) := by decide +kernel
theorem dX5_solve_24 : decode cX5_solve 24 = .ok (.iinc 2 1, 3) := by decide +kernel
theorem dX5_solve_27 : decode cX5_solve 27 = .ok (.goto (-25), 3) := by decide +kernel
theorem dX5_solve_30 : decode cX5_solve 30 = .ok (.iconst 0, 1) := by decide +kernel
theorem dX5_solve_31 : decode cX5_solve 31 = .ok (.istore_n 2, 1) := by decide +kernel
theorem dX5_solve_32 : decode cX5_solve 32 = .ok (.iload_n 2, 1) := by decide +kernel
theorem dX5_solve_33 : decode cX5_solve 33 = .ok (.aload_n 0, 1) := by decide +kernel
theorem dX5_solve_34 : decode cX5_solve 34 = .ok (.getfield 76, 3) := by decide +kernel
theorem dX5_solve_37 : decode cX5_solve 37 = .ok (.if_icmp .ge 36, 3) := by decide +kernel
theorem dX5_solve_40 : decode cX5_solve 40 = .ok (.iload_n 2, 1) := by decide +kernel
theorem dX5_solve_41 : decode cX5_solve 41 = .ok (.iload_n 1, 1) := by decide +kernel
theorem dX5_solve_42 : decode cX5_solve 42 = .ok (.if_icmp .eq 25, 3) := by decide +kernel
theorem dX5_solve_45 : decode cX5_solve 45 = .ok (.aload_n 0, 1) := by decide +kernel
theorem dX5_solve_46 : decode cX5_solve 46 = .ok (.getfield 26, 3) := by decide +kernel
theorem dX5_solve_49 : decode cX5_solve 49 = .ok (.iload_n 2, 1) := by decide +kernel
theorem dX5_solve_50 : decode cX5_solve 50 = .ok (.baload, 1) := by decide +kernel
theorem dX5_solve_51 : decode cX5_solve 51 = .ok (.ifCond .eq 16, 3) := by decide +kernel
theorem dX5_solve_54 : decode cX5_solve 54 = .ok (.aload_n 0, 1) := by decide +kernel
theorem dX5_solve_55 : decode cX5_solve 55 = .ok (.iload_n 2, 1) := by decide +kernel
theorem dX5_solve_56 : decode cX5_solve 56 = .ok (.invokevirtual 99, 3) := by decide +kernel
theorem dX5_solve_59 : decode cX5_solve 59 = .ok (.ifCond .eq 8, 3) := by decide +kernel
theorem dX5_solve_62 : decode cX5_solve 62 = .ok (.aload_n 0, 1) := by decide +kernel
theorem dX5_solve_63 : decode cX5_solve 63 = .ok (.iload_n 2, 1) := by decide +kernel
theorem dX5_solve_64 : decode cX5_solve 64 = .ok (.invokevirtual 102, 3) := by decide +kernel
theorem dX5_solve_67 : decode cX5_solve 67 = .ok (.iinc 2 1, 3) := by decide +kernel
theorem dX5_solve_70 : decode cX5_solve 70 = .ok (.goto (-38), 3) := by decide +kernel
theorem dX5_solve_73 : decode cX5_solve 73 = .ok (.iconst 0, 1) := by decide +kernel
theorem dX5_solve_74 : decode cX5_solve 74 = .ok (.istore_n 2, 1) := by decide +kernel
theorem dX5_solve_75 : decode cX5_solve 75 = .ok (.iconst 0, 1) := by decide +kernel
theorem dX5_solve_76 : decode cX5_solve 76 = .ok (.istore_n 3, 1) := by decide +kernel
theorem dX5_solve_77 : decode cX5_solve 77 = .ok (.iload_n 3, 1) := by decide +kernel
theorem dX5_solve_78 : decode cX5_solve 78 = .ok (.iconst 3, 1) := by decide +kernel
theorem dX5_solve_79 : decode cX5_solve 79 = .ok (.if_icmp .ge 178, 3) := by decide +kernel
theorem dX5_solve_82 : decode cX5_solve 82 = .ok (.aload_n 0, 1) := by decide +kernel
theorem dX5_solve_83 : decode cX5_solve 83 = .ok (.getfield 33, 3) := by decide +kernel
theorem dX5_solve_86 : decode cX5_solve 86 = .ok (.iconst 4, 1) := by decide +kernel
theorem dX5_solve_87 : decode cX5_solve 87 = .ok (.iload_n 3, 1) := by decide +kernel
theorem dX5_solve_88 : decode cX5_solve 88 = .ok (.imul, 1) := by decide +kernel
theorem dX5_solve_89 : decode cX5_solve 89 = .ok (.daload, 1) := by decide +kernel
theorem dX5_solve_90 : decode cX5_solve 90 = .ok (.dstore 4, 2) := by decide +kernel
theorem dX5_solve_92 : decode cX5_solve 92 = .ok (.aload_n 0, 1) := by decide +kernel
theorem dX5_solve_93 : decode cX5_solve 93 = .ok (.getfield 39, 3) := by decide +kernel
theorem dX5_solve_96 : decode cX5_solve 96 = .ok (.iload_n 3, 1) := by decide +kernel
theorem dX5_solve_97 : decode cX5_solve 97 = .ok (.dload 4, 2) := by decide +kernel
theorem dX5_solve_99 : decode cX5_solve 99 = .ok (.dconst 0, 1) := by decide +kernel
theorem dX5_solve_100 : decode cX5_solve 100 = .ok (.dcmp .g, 1) := by decide +kernel
theorem dX5_solve_101 : decode cX5_solve 101 = .ok (.ifCond .ge 9, 3) := by decide +kernel
theorem dX5_solve_104 : decode cX5_solve 104 = .ok (.dload 4, 2) := by decide +kernel
theorem dX5_solve_106 : decode cX5_solve 106 = .ok (.dneg, 1) := by decide +kernel
theorem dX5_solve_107 : decode cX5_solve 107 = .ok (.goto 5, 3) := by decide +kernel
theorem dX5_solve_110 : decode cX5_solve 110 = .ok (.dload 4, 2) := by decide +kernel
theorem dX5_solve_112 : decode cX5_solve 112 = .ok (.ldc2_w 106, 3) := by decide +kernel
theorem dX5_solve_115 : decode cX5_solve 115 = .ok (.dcmp .g, 1) := by decide +kernel
theorem dX5_solve_116 : decode cX5_solve 116 = .ok (.ifCond .ge 7, 3) := by decide +kernel
theorem dX5_solve_119 : decode cX5_solve 119 = .ok (.iconst 1, 1) := by decide +kernel
theorem dX5_solve_120 : decode cX5_solve 120 = .ok (.goto 4, 3) := by decide +kernel
theorem dX5_solve_123 : decode cX5_solve 123 = .ok (.iconst 0, 1) := by decide +kernel
theorem dX5_solve_124 : decode cX5_solve 124 = .ok (.bastore, 1) := by decide +kernel
theorem dX5_solve_125 : decode cX5_solve 125 = .ok (.aload_n 0, 1) := by decide +kernel
theorem dX5_solve_126 : decode cX5_solve 126 = .ok (.getfield 39, 3) := by decide +kernel
theorem dX5_solve_129 : decode cX5_solve 129 = .ok (.iload_n 3, 1) := by decide +kernel
theorem dX5_solve_130 : decode cX5_solve 130 = .ok (.baload, 1) := by decide +kernel
theorem dX5_solve_131 : decode cX5_solve 131 = .ok (.ifCond .eq 6, 3) := by decide +kernel
theorem dX5_solve_134 : decode cX5_solve 134 = .ok (.goto 117, 3) := by decide +kernel
theorem dX5_solve_137 : decode cX5_solve 137 = .ok (.iinc 2 1, 3) := by decide +kernel
theorem dX5_solve_140 : decode cX5_solve 140 = .ok (.iload_n 3, 1) := by decide +kernel
theorem dX5_solve_141 : decode cX5_solve 141 = .ok (.iconst 1, 1) := by decide +kernel
theorem dX5_solve_142 : decode cX5_solve 142 = .ok (.iadd, 1) := by decide +kernel
theorem dX5_solve_143 : decode cX5_solve 143 = .ok (.istore 6, 2) := by decide +kernel
theorem dX5_solve_145 : decode cX5_solve 145 = .ok (.iload 6, 2) := by decide +kernel
theorem dX5_solve_147 : decode cX5_solve 147 = .ok (.iconst 3, 1) := by decide +kernel
theorem dX5_solve_148 : decode cX5_solve 148 = .ok (.if_icmp .ge 103, 3) := by decide +kernel
theorem dX5_solve_151 : decode cX5_solve 151 = .ok (.aload_n 0, 1) := by decide +kernel
theorem dX5_solve_152 : decode cX5_solve 152 = .ok (.getfield 33, 3) := by decide +kernel
theorem dX5_solve_155 : decode cX5_solve 155 = .ok (.iconst 3, 1) := by decide +kernel
theorem dX5_solve_156 : decode cX5_solve 156 = .ok (.iload 6, 2) := by decide +kernel
theorem dX5_solve_158 : decode cX5_solve 158 = .ok (.imul, 1) := by decide +kernel
theorem dX5_solve_159 : decode cX5_solve 159 = .ok (.iload_n 3, 1) := by decide +kernel
theorem dX5_solve_160 : decode cX5_solve 160 = .ok (.iadd, 1) := by decide +kernel
theorem dX5_solve_161 : decode cX5_solve 161 = .ok (.daload, 1) := by decide +kernel
theorem dX5_solve_162 : decode cX5_solve 162 = .ok (.dload 4, 2) := by decide +kernel
theorem dX5_solve_164 : decode cX5_solve 164 = .ok (.ddiv, 1) := by decide +kernel
theorem dX5_solve_165 : decode cX5_solve 165 = .ok (.dstore 7, 2) := by decide +kernel
theorem dX5_solve_167 : decode cX5_solve 167 = .ok (.iload_n 3, 1) := by decide +kernel
theorem dX5_solve_168 : decode cX5_solve 168 = .ok (.istore 9, 2) := by decide +kernel
theorem dX5_solve_170 : decode cX5_solve 170 = .ok (.iload 9, 2) := by decide +kernel
theorem dX5_solve_172 : decode cX5_solve 172 = .ok (.iconst 3, 1) := by decide +kernel
theorem dX5_solve_173 : decode cX5_solve 173 = .ok (.if_icmp .ge 48, 3) := by decide +kernel
theorem dX5_solve_176 : decode cX5_solve 176 = .ok (.aload_n 0, 1) := by decide +kernel
theorem dX5_solve_177 : decode cX5_solve 177 = .ok (.getfield 33, 3) := by decide +kernel
theorem dX5_solve_180 : decode cX5_solve 180 = .ok (.iconst 3, 1) := by decide +kernel
theorem dX5_solve_181 : decode cX5_solve 181 = .ok (.iload 6, 2) := by decide +kernel
theorem dX5_solve_183 : decode cX5_solve 183 = .ok (.imul, 1) := by decide +kernel
theorem dX5_solve_184 : decode cX5_solve 184 = .ok (.iload 9, 2) := by decide +kernel
theorem dX5_solve_186 : decode cX5_solve 186 = .ok (.iadd, 1) := by decide +kernel
theorem dX5_solve_187 : decode cX5_solve 187 = .ok (.aload_n 0, 1) := by decide +kernel
theorem dX5_solve_188 : decode cX5_solve 188 = .ok (.getfield 33, 3) := by decide +kernel
theorem dX5_solve_191 : decode cX5_solve 191 = .ok (.iconst 3, 1) := by decide +kernel
theorem dX5_solve_192 : decode cX5_solve 192 = .ok (.iload 6, 2) := by decide +kernel
theorem dX5_solve_194 : decode cX5_solve 194 = .ok (.imul, 1) := by decide +kernel
theorem dX5_solve_195 : decode cX5_solve 195 = .ok (.iload 9, 2) := by decide +kernel
theorem dX5_solve_197 : decode cX5_solve 197 = .ok (.iadd, 1) := by decide +kernel
theorem dX5_solve_198 : decode cX5_solve 198 = .ok (.daload, 1) := by decide +kernel
theorem dX5_solve_199 : decode cX5_solve 199 = .ok (.dload 7, 2) := by decide +kernel
theorem dX5_solve_201 : decode cX5_solve 201 = .ok (.aload_n 0, 1) := by decide +kernel
theorem dX5_solve_202 : decode cX5_solve 202 = .ok (.getfield 33, 3) := by decide +kernel
theorem dX5_solve_205 : decode cX5_solve 205 = .ok (.iconst 3, 1) := by decide +kernel
theorem dX5_solve_206 : decode cX5_solve 206 = .ok (.iload_n 3, 1) := by decide +kernel
theorem dX5_solve_207 : decode cX5_solve 207 = .ok (.imul, 1) := by decide +kernel
theorem dX5_solve_208 : decode cX5_solve 208 = .ok (.iload 9, 2) := by decide +kernel
theorem dX5_solve_210 : decode cX5_solve 210 = .ok (.iadd, 1) := by decide +kernel
theorem dX5_solve_211 : decode cX5_solve 211 = .ok (.daload, 1) := by decide +kernel
theorem dX5_solve_212 : decode cX5_solve 212 = .ok (.dmul, 1) := by decide +kernel
theorem dX5_solve_213 : decode cX5_solve 213 = .ok (.dsub, 1) := by decide +kernel
theorem dX5_solve_214 : decode cX5_solve 214 = .ok (.dastore, 1) := by decide +kernel
theorem dX5_solve_215 : decode cX5_solve 215 = .ok (.iinc 9 1, 3) := by decide +kernel
theorem dX5_solve_218 : decode cX5_solve 218 = .ok (.goto (-48), 3) := by decide +kernel
theorem dX5_solve_221 : decode cX5_solve 221 = .ok (.aload_n 0, 1) := by decide +kernel
theorem dX5_solve_222 : decode cX5_solve 222 = .ok (.getfield 36, 3) := by decide +kernel
theorem dX5_solve_225 : decode cX5_solve 225 = .ok (.iload 6, 2) := by decide +kernel
theorem dX5_solve_227 : decode cX5_solve 227 = .ok (.aload_n 0, 1) := by decide +kernel
theorem dX5_solve_228 : decode cX5_solve 228 = .ok (.getfield 36, 3) := by decide +kernel
theorem dX5_solve_231 : decode cX5_solve 231 = .ok (.iload 6, 2) := by decide +kernel
theorem dX5_solve_233 : decode cX5_solve 233 = .ok (.daload, 1) := by decide +kernel
theorem dX5_solve_234 : decode cX5_solve 234 = .ok (.dload 7, 2) := by decide +kernel
theorem dX5_solve_236 : decode cX5_solve 236 = .ok (.aload_n 0, 1) := by decide +kernel
theorem dX5_solve_237 : decode cX5_solve 237 = .ok (.getfield 36, 3) := by decide +kernel
theorem dX5_solve_240 : decode cX5_solve 240 = .ok (.iload_n 3, 1) := by decide +kernel
theorem dX5_solve_241 : decode cX5_solve 241 = .ok (.daload, 1) := by decide +kernel
theorem dX5_solve_242 : decode cX5_solve 242 = .ok (.dmul, 1) := by decide +kernel
theorem dX5_solve_243 : decode cX5_solve 243 = .ok (.dsub, 1) := by decide +kernel
theorem dX5_solve_244 : decode cX5_solve 244 = .ok (.dastore, 1) := by decide +kernel
theorem dX5_solve_245 : decode cX5_solve 245 = .ok (.iinc 6 1, 3) := by decide +kernel
theorem dX5_solve_248 : decode cX5_solve 248 = .ok (.goto (-103), 3) := by decide +kernel
theorem dX5_solve_251 : decode cX5_solve 251 = .ok (.iinc 3 1, 3) := by decide +kernel
theorem dX5_solve_254 : decode cX5_solve 254 = .ok (.goto (-177), 3) := by decide +kernel
theorem dX5_solve_257 : decode cX5_solve 257 = .ok (.iconst 2, 1) := by decide +kernel
theorem dX5_solve_258 : decode cX5_solve 258 = .ok (.istore_n 3, 1) := by decide +kernel
theorem dX5_solve_259 : decode cX5_solve 259 = .ok (.iload_n 3, 1) := by decide +kernel
theorem dX5_solve_260 : decode cX5_solve 260 = .ok (.ifCond .lt 88, 3) := by decide +kernel
theorem dX5_solve_263 : decode cX5_solve 263 = .ok (.aload_n 0, 1) := by decide +kernel
theorem dX5_solve_264 : decode cX5_solve 264 = .ok (.getfield 36, 3) := by decide +kernel
theorem dX5_solve_267 : decode cX5_solve 267 = .ok (.iload_n 3, 1) := by decide +kernel
theorem dX5_solve_268 : decode cX5_solve 268 = .ok (.daload, 1) := by decide +kernel
theorem dX5_solve_269 : decode cX5_solve 269 = .ok (.dstore 4, 2) := by decide +kernel
theorem dX5_solve_271 : decode cX5_solve 271 = .ok (.iload_n 3, 1) := by decide +kernel
theorem dX5_solve_272 : decode cX5_solve 272 = .ok (.iconst 1, 1) := by decide +kernel
theorem dX5_solve_273 : decode cX5_solve 273 = .ok (.iadd, 1) := by decide +kernel
theorem dX5_solve_274 : decode cX5_solve 274 = .ok (.istore 6, 2) := by decide +kernel
theorem dX5_solve_276 : decode cX5_solve 276 = .ok (.iload 6, 2) := by decide +kernel
theorem dX5_solve_278 : decode cX5_solve 278 = .ok (.iconst 3, 1) := by decide +kernel
theorem dX5_solve_279 : decode cX5_solve 279 = .ok (.if_icmp .ge 33, 3) := by decide +kernel
theorem dX5_solve_282 : decode cX5_solve 282 = .ok (.dload 4, 2) := by decide +kernel
theorem dX5_solve_284 : decode cX5_solve 284 = .ok (.aload_n 0, 1) := by decide +kernel
theorem dX5_solve_285 : decode cX5_solve 285 = .ok (.getfield 33, 3) := by decide +kernel
theorem dX5_solve_288 : decode cX5_solve 288 = .ok (.iconst 3, 1) := by decide +kernel
theorem dX5_solve_289 : decode cX5_solve 289 = .ok (.iload_n 3, 1) := by decide +kernel
theorem dX5_solve_290 : decode cX5_solve 290 = .ok (.imul, 1) := by decide +kernel
theorem dX5_solve_291 : decode cX5_solve 291 = .ok (.iload 6, 2) := by decide +kernel
theorem dX5_solve_293 : decode cX5_solve 293 = .ok (.iadd, 1) := by decide +kernel
theorem dX5_solve_294 : decode cX5_solve 294 = .ok (.daload, 1) := by decide +kernel
theorem dX5_solve_295 : decode cX5_solve 295 = .ok (.aload_n 0, 1) := by decide +kernel
theorem dX5_solve_296 : decode cX5_solve 296 = .ok (.getfield 45, 3) := by decide +kernel
theorem dX5_solve_299 : decode cX5_solve 299 = .ok (.iload 6, 2) := by decide +kernel
theorem dX5_solve_301 : decode cX5_solve 301 = .ok (.daload, 1) := by decide +kernel
theorem dX5_solve_302 : decode cX5_solve 302 = .ok (.dmul, 1) := by decide +kernel
theorem dX5_solve_303 : decode cX5_solve 303 = .ok (.dsub, 1) := by decide +kernel
theorem dX5_solve_304 : decode cX5_solve 304 = .ok (.dstore 4, 2) := by decide +kernel
theorem dX5_solve_306 : decode cX5_solve 306 = .ok (.iinc 6 1, 3) := by decide +kernel
theorem dX5_solve_309 : decode cX5_solve 309 = .ok (.goto (-33), 3) := by decide +kernel
theorem dX5_solve_312 : decode cX5_solve 312 = .ok (.aload_n 0, 1) := by decide +kernel
theorem dX5_solve_313 : decode cX5_solve 313 = .ok (.getfield 45, 3) := by decide +kernel
theorem dX5_solve_316 : decode cX5_solve 316 = .ok (.iload_n 3, 1) := by decide +kernel
theorem dX5_solve_317 : decode cX5_solve 317 = .ok (.aload_n 0, 1) := by decide +kernel
theorem dX5_solve_318 : decode cX5_solve 318 = .ok (.getfield 39, 3) := by decide +kernel
theorem dX5_solve_321 : decode cX5_solve 321 = .ok (.iload_n 3, 1) := by decide +kernel
theorem dX5_solve_322 : decode cX5_solve 322 = .ok (.baload, 1) := by decide +kernel
theorem dX5_solve_323 : decode cX5_solve 323 = .ok (.ifCond .eq 7, 3) := by decide +kernel
theorem dX5_solve_326 : decode cX5_solve 326 = .ok (.dconst 0, 1) := by decide +kernel
theorem dX5_solve_327 : decode cX5_solve 327 = .ok (.goto 14, 3) := by decide +kernel
theorem dX5_solve_330 : decode cX5_solve 330 = .ok (.dload 4, 2) := by decide +kernel
theorem dX5_solve_332 : decode cX5_solve 332 = .ok (.aload_n 0, 1) := by decide +kernel
theorem dX5_solve_333 : decode cX5_solve 333 = .ok (.getfield 33, 3) := by decide +kernel
theorem dX5_solve_336 : decode cX5_solve 336 = .ok (.iconst 4, 1) := by decide +kernel
theorem dX5_solve_337 : decode cX5_solve 337 = .ok (.iload_n 3, 1) := by decide +kernel
theorem dX5_solve_338 : decode cX5_solve 338 = .ok (.imul, 1) := by decide +kernel
theorem dX5_solve_339 : decode cX5_solve 339 = .ok (.daload, 1) := by decide +kernel
theorem dX5_solve_340 : decode cX5_solve 340 = .ok (.ddiv, 1) := by decide +kernel
theorem dX5_solve_341 : decode cX5_solve 341 = .ok (.dastore, 1) := by decide +kernel
theorem dX5_solve_342 : decode cX5_solve 342 = .ok (.iinc 3 (-1), 3) := by decide +kernel
theorem dX5_solve_345 : decode cX5_solve 345 = .ok (.goto (-86), 3) := by decide +kernel
theorem dX5_solve_348 : decode cX5_solve 348 = .ok (.iload_n 2, 1) := by decide +kernel
theorem dX5_solve_349 : decode cX5_solve 349 = .ok (.ireturn, 1) := by decide +kernel
theorem dX5_fit_0 : decode cX5_fit 0 = .ok (.aload_n 0, 1) := by decide +kernel
theorem dX5_fit_1 : decode cX5_fit 1 = .ok (.iconst 0, 1) := by decide +kernel
theorem dX5_fit_2 : decode cX5_fit 2 = .ok (.putfield 73, 3) := by decide +kernel
theorem dX5_fit_5 : decode cX5_fit 5 = .ok (.aload_n 0, 1) := by decide +kernel
theorem dX5_fit_6 : decode cX5_fit 6 = .ok (.iconst (-1), 1) := by decide +kernel
theorem dX5_fit_7 : decode cX5_fit 7 = .ok (.invokevirtual 108, 3) := by decide +kernel
theorem dX5_fit_10 : decode cX5_fit 10 = .ok (.istore_n 1, 1) := by decide +kernel
theorem dX5_fit_11 : decode cX5_fit 11 = .ok (.iconst 0, 1) := by decide +kernel
theorem dX5_fit_12 : decode cX5_fit 12 = .ok (.istore_n 2, 1) := by decide +kernel
theorem dX5_fit_13 : decode cX5_fit 13 = .ok (.iload_n 2, 1) := by decide +kernel
theorem dX5_fit_14 : decode cX5_fit 14 = .ok (.iconst 3, 1) := by decide +kernel
theorem dX5_fit_15 : decode cX5_fit 15 = .ok (.if_icmp .ge 21, 3) := by decide +kernel
theorem dX5_fit_18 : decode cX5_fit 18 = .ok (.aload_n 0, 1) := by decide +kernel
theorem dX5_fit_19 : decode cX5_fit 19 = .ok (.getfield 42, 3) := by decide +kernel
theorem dX5_fit_22 : decode cX5_fit 22 = .ok (.iload_n 2, 1) := by decide +kernel
theorem dX5_fit_23 : decode cX5_fit 23 = .ok (.aload_n 0, 1) := by decide +kernel
theorem dX5_fit_24 : decode cX5_fit 24 = .ok (.getfield 45, 3) := by decide +kernel
theorem dX5_fit_27 : decode cX5_fit 27 = .ok (.iload_n 2, 1) := by decide +kernel
theorem dX5_fit_28 : decode cX5_fit 28 = .ok (.daload, 1) := by decide +kernel
theorem dX5_fit_29 : decode cX5_fit 29 = .ok (.dastore, 1) := by decide +kernel
theorem dX5_fit_30 : decode cX5_fit 30 = .ok (.iinc 2 1, 3) := by decide +kernel
theorem dX5_fit_33 : decode cX5_fit 33 = .ok (.goto (-20), 3) := by decide +kernel
theorem dX5_fit_36 : decode cX5_fit 36 = .ok (.iload_n 1, 1) := by decide +kernel
theorem dX5_fit_37 : decode cX5_fit 37 = .ok (.ireturn, 1) := by decide +kernel
theorem dX5_number_0 : decode cX5_number 0 = .ok (.aload_n 0, 1) := by decide +kernel
theorem dX5_number_1 : decode cX5_number 1 = .ok (.iload_n 1, 1) := by decide +kernel
theorem dX5_number_2 : decode cX5_number 2 = .ok (.ifCond .lt 8, 3) := by decide +kernel
theorem dX5_number_5 : decode cX5_number 5 = .ok (.iload_n 1, 1) := by decide +kernel
theorem dX5_number_6 : decode cX5_number 6 = .ok (.iconst 2, 1) := by decide +kernel
theorem dX5_number_7 : decode cX5_number 7 = .ok (.if_icmp .le 7, 3) := by decide +kernel
theorem dX5_number_10 : decode cX5_number 10 = .ok (.iconst 1, 1) := by decide +kernel
theorem dX5_number_11 : decode cX5_number 11 = .ok (.goto 4, 3) := by decide +kernel
theorem dX5_number_14 : decode cX5_number 14 = .ok (.iconst 0, 1) := by decide +kernel
theorem dX5_number_15 : decode cX5_number 15 = .ok (.putfield 73, 3) := by decide +kernel
theorem dX5_number_18 : decode cX5_number 18 = .ok (.aload_n 0, 1) := by decide +kernel
theorem dX5_number_19 : decode cX5_number 19 = .ok (.getfield 73, 3) := by decide +kernel
theorem dX5_number_22 : decode cX5_number 22 = .ok (.ifCond .le 7, 3) := by decide +kernel
theorem dX5_number_25 : decode cX5_number 25 = .ok (.dconst 0, 1) := by decide +kernel
theorem dX5_number_26 : decode cX5_number 26 = .ok (.goto 9, 3) := by decide +kernel
theorem dX5_number_29 : decode cX5_number 29 = .ok (.aload_n 0, 1) := by decide +kernel
theorem dX5_number_30 : decode cX5_number 30 = .ok (.getfield 42, 3) := by decide +kernel
theorem dX5_number_33 : decode cX5_number 33 = .ok (.iload_n 1, 1) := by decide +kernel
theorem dX5_number_34 : decode cX5_number 34 = .ok (.daload, 1) := by decide +kernel
theorem dX5_number_35 : decode cX5_number 35 = .ok (.dreturn, 1) := by decide +kernel
theorem dX5_told_0 : decode cX5_told 0 = .ok (.dload_n 2, 1) := by decide +kernel
theorem dX5_told_1 : decode cX5_told 1 = .ok (.aload_n 0, 1) := by decide +kernel
theorem dX5_told_2 : decode cX5_told 2 = .ok (.iload_n 1, 1) := by decide +kernel
theorem dX5_told_3 : decode cX5_told 3 = .ok (.iconst 0, 1) := by decide +kernel
theorem dX5_told_4 : decode cX5_told 4 = .ok (.invokevirtual 95, 3) := by decide +kernel
theorem dX5_told_7 : decode cX5_told 7 = .ok (.dmul, 1) := by decide +kernel
theorem dX5_told_8 : decode cX5_told 8 = .ok (.dload 4, 2) := by decide +kernel
theorem dX5_told_10 : decode cX5_told 10 = .ok (.aload_n 0, 1) := by decide +kernel
theorem dX5_told_11 : decode cX5_told 11 = .ok (.iload_n 1, 1) := by decide +kernel
theorem dX5_told_12 : decode cX5_told 12 = .ok (.iconst 1, 1) := by decide +kernel
theorem dX5_told_13 : decode cX5_told 13 = .ok (.invokevirtual 95, 3) := by decide +kernel
theorem dX5_told_16 : decode cX5_told 16 = .ok (.dmul, 1) := by decide +kernel
theorem dX5_told_17 : decode cX5_told 17 = .ok (.dadd, 1) := by decide +kernel
theorem dX5_told_18 : decode cX5_told 18 = .ok (.dload 6, 2) := by decide +kernel
theorem dX5_told_20 : decode cX5_told 20 = .ok (.aload_n 0, 1) := by decide +kernel
theorem dX5_told_21 : decode cX5_told 21 = .ok (.iload_n 1, 1) := by decide +kernel
theorem dX5_told_22 : decode cX5_told 22 = .ok (.iconst 2, 1) := by decide +kernel
theorem dX5_told_23 : decode cX5_told 23 = .ok (.invokevirtual 95, 3) := by decide +kernel
theorem dX5_told_26 : decode cX5_told 26 = .ok (.dmul, 1) := by decide +kernel
theorem dX5_told_27 : decode cX5_told 27 = .ok (.dadd, 1) := by decide +kernel
theorem dX5_told_28 : decode cX5_told 28 = .ok (.dreturn, 1) := by decide +kernel
theorem dX5_foretold_0 : decode cX5_foretold 0 = .ok (.aload_n 0, 1) := by decide +kernel
theorem dX5_foretold_1 : decode cX5_foretold 1 = .ok (.aload_n 0, 1) := by decide +kernel
theorem dX5_foretold_2 : decode cX5_foretold 2 = .ok (.iload_n 1, 1) := by decide +kernel
theorem dX5_foretold_3 : decode cX5_foretold 3 = .ok (.invokevirtual 79, 3) := by decide +kernel
theorem dX5_foretold_6 : decode cX5_foretold 6 = .ok (.ifCond .eq 7, 3) := by decide +kernel
theorem dX5_foretold_9 : decode cX5_foretold 9 = .ok (.iconst 1, 1) := by decide +kernel
theorem dX5_foretold_10 : decode cX5_foretold 10 = .ok (.goto 16, 3) := by decide +kernel
theorem dX5_foretold_13 : decode cX5_foretold 13 = .ok (.aload_n 0, 1) := by decide +kernel
theorem dX5_foretold_14 : decode cX5_foretold 14 = .ok (.iload_n 1, 1) := by decide +kernel
theorem dX5_foretold_15 : decode cX5_foretold 15 = .ok (.invokevirtual 99, 3) := by decide +kernel
theorem dX5_foretold_18 : decode cX5_foretold 18 = .ok (.ifCond .eq 7, 3) := by decide +kernel
theorem dX5_foretold_21 : decode cX5_foretold 21 = .ok (.iconst 0, 1) := by decide +kernel
theorem dX5_foretold_22 : decode cX5_foretold 22 = .ok (.goto 4, 3) := by decide +kernel
theorem dX5_foretold_25 : decode cX5_foretold 25 = .ok (.iconst 2, 1) := by decide +kernel
theorem dX5_foretold_26 : decode cX5_foretold 26 = .ok (.putfield 73, 3) := by decide +kernel
theorem dX5_foretold_29 : decode cX5_foretold 29 = .ok (.aload_n 0, 1) := by decide +kernel
theorem dX5_foretold_30 : decode cX5_foretold 30 = .ok (.getfield 73, 3) := by decide +kernel
theorem dX5_foretold_33 : decode cX5_foretold 33 = .ok (.ifCond .le 7, 3) := by decide +kernel
theorem dX5_foretold_36 : decode cX5_foretold 36 = .ok (.dconst 0, 1) := by decide +kernel
theorem dX5_foretold_37 : decode cX5_foretold 37 = .ok (.goto 26, 3) := by decide +kernel
theorem dX5_foretold_40 : decode cX5_foretold 40 = .ok (.aload_n 0, 1) := by decide +kernel
theorem dX5_foretold_41 : decode cX5_foretold 41 = .ok (.iload_n 1, 1) := by decide +kernel
theorem dX5_foretold_42 : decode cX5_foretold 42 = .ok (.aload_n 0, 1) := by decide +kernel
theorem dX5_foretold_43 : decode cX5_foretold 43 = .ok (.getfield 42, 3) := by decide +kernel
theorem dX5_foretold_46 : decode cX5_foretold 46 = .ok (.iconst 0, 1) := by decide +kernel
theorem dX5_foretold_47 : decode cX5_foretold 47 = .ok (.daload, 1) := by decide +kernel
theorem dX5_foretold_48 : decode cX5_foretold 48 = .ok (.aload_n 0, 1) := by decide +kernel
theorem dX5_foretold_49 : decode cX5_foretold 49 = .ok (.getfield 42, 3) := by decide +kernel
theorem dX5_foretold_52 : decode cX5_foretold 52 = .ok (.iconst 1, 1) := by decide +kernel
theorem dX5_foretold_53 : decode cX5_foretold 53 = .ok (.daload, 1) := by decide +kernel
theorem dX5_foretold_54 : decode cX5_foretold 54 = .ok (.aload_n 0, 1) := by decide +kernel
theorem dX5_foretold_55 : decode cX5_foretold 55 = .ok (.getfield 42, 3) := by decide +kernel
theorem dX5_foretold_58 : decode cX5_foretold 58 = .ok (.iconst 2, 1) := by decide +kernel
theorem dX5_foretold_59 : decode cX5_foretold 59 = .ok (.daload, 1) := by decide +kernel
theorem dX5_foretold_60 : decode cX5_foretold 60 = .ok (.invokevirtual 112, 3) := by decide +kernel
theorem dX5_foretold_63 : decode cX5_foretold 63 = .ok (.dreturn, 1) := by decide +kernel
theorem dX5_leftOut_0 : decode cX5_leftOut 0 = .ok (.aload_n 0, 1) := by decide +kernel
theorem dX5_leftOut_1 : decode cX5_leftOut 1 = .ok (.aload_n 0, 1) := by decide +kernel
theorem dX5_leftOut_2 : decode cX5_leftOut 2 = .ok (.iload_n 1, 1) := by decide +kernel
theorem dX5_leftOut_3 : decode cX5_leftOut 3 = .ok (.invokevirtual 79, 3) := by decide +kernel
theorem dX5_leftOut_6 : decode cX5_leftOut 6 = .ok (.ifCond .eq 7, 3) := by decide +kernel
theorem dX5_leftOut_9 : decode cX5_leftOut 9 = .ok (.iconst 1, 1) := by decide +kernel
theorem dX5_leftOut_10 : decode cX5_leftOut 10 = .ok (.goto 16, 3) := by decide +kernel
theorem dX5_leftOut_13 : decode cX5_leftOut 13 = .ok (.aload_n 0, 1) := by decide +kernel
theorem dX5_leftOut_14 : decode cX5_leftOut 14 = .ok (.iload_n 1, 1) := by decide +kernel
theorem dX5_leftOut_15 : decode cX5_leftOut 15 = .ok (.invokevirtual 99, 3) := by decide +kernel
theorem dX5_leftOut_18 : decode cX5_leftOut 18 = .ok (.ifCond .eq 7, 3) := by decide +kernel
theorem dX5_leftOut_21 : decode cX5_leftOut 21 = .ok (.iconst 0, 1) := by decide +kernel
theorem dX5_leftOut_22 : decode cX5_leftOut 22 = .ok (.goto 4, 3) := by decide +kernel
theorem dX5_leftOut_25 : decode cX5_leftOut 25 = .ok (.iconst 2, 1) := by decide +kernel
theorem dX5_leftOut_26 : decode cX5_leftOut 26 = .ok (.putfield 73, 3) := by decide +kernel
theorem dX5_leftOut_29 : decode cX5_leftOut 29 = .ok (.aload_n 0, 1) := by decide +kernel
theorem dX5_leftOut_30 : decode cX5_leftOut 30 = .ok (.getfield 73, 3) := by decide +kernel
theorem dX5_leftOut_33 : decode cX5_leftOut 33 = .ok (.ifCond .le 5, 3) := by decide +kernel
theorem dX5_leftOut_36 : decode cX5_leftOut 36 = .ok (.dconst 0, 1) := by decide +kernel
theorem dX5_leftOut_37 : decode cX5_leftOut 37 = .ok (.dreturn, 1) := by decide +kernel
theorem dX5_leftOut_38 : decode cX5_leftOut 38 = .ok (.aload_n 0, 1) := by decide +kernel
theorem dX5_leftOut_39 : decode cX5_leftOut 39 = .ok (.iload_n 1, 1) := by decide +kernel
theorem dX5_leftOut_40 : decode cX5_leftOut 40 = .ok (.invokevirtual 108, 3) := by decide +kernel
theorem dX5_leftOut_43 : decode cX5_leftOut 43 = .ok (.istore_n 2, 1) := by decide +kernel
theorem dX5_leftOut_44 : decode cX5_leftOut 44 = .ok (.aload_n 0, 1) := by decide +kernel
theorem dX5_leftOut_45 : decode cX5_leftOut 45 = .ok (.iload_n 1, 1) := by decide +kernel
theorem dX5_leftOut_46 : decode cX5_leftOut 46 = .ok (.aload_n 0, 1) := by decide +kernel
theorem dX5_leftOut_47 : decode cX5_leftOut 47 = .ok (.getfield 45, 3) := by decide +kernel
theorem dX5_leftOut_50 : decode cX5_leftOut 50 = .ok (.iconst 0, 1) := by decide +kernel
theorem dX5_leftOut_51 : decode cX5_leftOut 51 = .ok (.daload, 1) := by decide +kernel
theorem dX5_leftOut_52 : decode cX5_leftOut 52 = .ok (.aload_n 0, 1) := by decide +kernel
theorem dX5_leftOut_53 : decode cX5_leftOut 53 = .ok (.getfield 45, 3) := by decide +kernel
theorem dX5_leftOut_56 : decode cX5_leftOut 56 = .ok (.iconst 1, 1) := by decide +kernel
theorem dX5_leftOut_57 : decode cX5_leftOut 57 = .ok (.daload, 1) := by decide +kernel
theorem dX5_leftOut_58 : decode cX5_leftOut 58 = .ok (.aload_n 0, 1) := by decide +kernel
theorem dX5_leftOut_59 : decode cX5_leftOut 59 = .ok (.getfield 45, 3) := by decide +kernel
theorem dX5_leftOut_62 : decode cX5_leftOut 62 = .ok (.iconst 2, 1) := by decide +kernel
theorem dX5_leftOut_63 : decode cX5_leftOut 63 = .ok (.daload, 1) := by decide +kernel
theorem dX5_leftOut_64 : decode cX5_leftOut 64 = .ok (.invokevirtual 112, 3) := by decide +kernel
theorem dX5_leftOut_67 : decode cX5_leftOut 67 = .ok (.dreturn, 1) := by decide +kernel
theorem dX5_limit_0 : decode cX5_limit 0 = .ok (.aload_n 0, 1) := by decide +kernel
theorem dX5_limit_1 : decode cX5_limit 1 = .ok (.iload_n 1, 1) := by decide +kernel
theorem dX5_limit_2 : decode cX5_limit 2 = .ok (.ifCond .lt 8, 3) := by decide +kernel
theorem dX5_limit_5 : decode cX5_limit 5 = .ok (.iload_n 1, 1) := by decide +kernel
theorem dX5_limit_6 : decode cX5_limit 6 = .ok (.iconst 3, 1) := by decide +kernel
theorem dX5_limit_7 : decode cX5_limit 7 = .ok (.if_icmp .le 7, 3) := by decide +kernel
theorem dX5_limit_10 : decode cX5_limit 10 = .ok (.iconst 1, 1) := by decide +kernel
theorem dX5_limit_11 : decode cX5_limit 11 = .ok (.goto 19, 3) := by decide +kernel
theorem dX5_limit_14 : decode cX5_limit 14 = .ok (.dload_n 2, 1) := by decide +kernel
theorem dX5_limit_15 : decode cX5_limit 15 = .ok (.dconst 0, 1) := by decide +kernel
theorem dX5_limit_16 : decode cX5_limit 16 = .ok (.ldc2_w 83, 3) := by decide +kernel
theorem dX5_limit_19 : decode cX5_limit 19 = .ok (.invokestatic 85, 3) := by decide +kernel
theorem dX5_limit_22 : decode cX5_limit 22 = .ok (.ifCond .eq 7, 3) := by decide +kernel
theorem dX5_limit_25 : decode cX5_limit 25 = .ok (.iconst 0, 1) := by decide +kernel
theorem dX5_limit_26 : decode cX5_limit 26 = .ok (.goto 4, 3) := by decide +kernel
theorem dX5_limit_29 : decode cX5_limit 29 = .ok (.iconst 2, 1) := by decide +kernel
theorem dX5_limit_30 : decode cX5_limit 30 = .ok (.putfield 73, 3) := by decide +kernel
theorem dX5_limit_33 : decode cX5_limit 33 = .ok (.aload_n 0, 1) := by decide +kernel
theorem dX5_limit_34 : decode cX5_limit 34 = .ok (.getfield 73, 3) := by decide +kernel
theorem dX5_limit_37 : decode cX5_limit 37 = .ok (.ifCond .ne 10, 3) := by decide +kernel
theorem dX5_limit_40 : decode cX5_limit 40 = .ok (.aload_n 0, 1) := by decide +kernel
theorem dX5_limit_41 : decode cX5_limit 41 = .ok (.getfield 50, 3) := by decide +kernel
theorem dX5_limit_44 : decode cX5_limit 44 = .ok (.iload_n 1, 1) := by decide +kernel
theorem dX5_limit_45 : decode cX5_limit 45 = .ok (.dload_n 2, 1) := by decide +kernel
theorem dX5_limit_46 : decode cX5_limit 46 = .ok (.dastore, 1) := by decide +kernel
theorem dX5_limit_47 : decode cX5_limit 47 = .ok (.return_, 1) := by decide +kernel
theorem dX5_setting_0 : decode cX5_setting 0 = .ok (.aload_n 0, 1) := by decide +kernel
theorem dX5_setting_1 : decode cX5_setting 1 = .ok (.iload_n 1, 1) := by decide +kernel
theorem dX5_setting_2 : decode cX5_setting 2 = .ok (.ifCond .lt 8, 3) := by decide +kernel
theorem dX5_setting_5 : decode cX5_setting 5 = .ok (.iload_n 1, 1) := by decide +kernel
theorem dX5_setting_6 : decode cX5_setting 6 = .ok (.iconst 3, 1) := by decide +kernel
theorem dX5_setting_7 : decode cX5_setting 7 = .ok (.if_icmp .le 7, 3) := by decide +kernel
theorem dX5_setting_10 : decode cX5_setting 10 = .ok (.iconst 1, 1) := by decide +kernel
theorem dX5_setting_11 : decode cX5_setting 11 = .ok (.goto 29, 3) := by decide +kernel
theorem dX5_setting_14 : decode cX5_setting 14 = .ok (.iload_n 3, 1) := by decide +kernel
theorem dX5_setting_15 : decode cX5_setting 15 = .ok (.iconst 1, 1) := by decide +kernel
theorem dX5_setting_16 : decode cX5_setting 16 = .ok (.if_icmp .lt 23, 3) := by decide +kernel
theorem dX5_setting_19 : decode cX5_setting 19 = .ok (.iload_n 3, 1) := by decide +kernel
theorem dX5_setting_20 : decode cX5_setting 20 = .ok (.sipush 1000, 3) := by decide +kernel
theorem dX5_setting_23 : decode cX5_setting 23 = .ok (.if_icmp .gt 16, 3) := by decide +kernel
theorem dX5_setting_26 : decode cX5_setting 26 = .ok (.iload_n 2, 1) := by decide +kernel
theorem dX5_setting_27 : decode cX5_setting 27 = .ok (.ifCond .lt 12, 3) := by decide +kernel
theorem dX5_setting_30 : decode cX5_setting 30 = .ok (.iload_n 2, 1) := by decide +kernel
theorem dX5_setting_31 : decode cX5_setting 31 = .ok (.iload_n 3, 1) := by decide +kernel
theorem dX5_setting_32 : decode cX5_setting 32 = .ok (.if_icmp .gt 7, 3) := by decide +kernel
theorem dX5_setting_35 : decode cX5_setting 35 = .ok (.iconst 0, 1) := by decide +kernel
theorem dX5_setting_36 : decode cX5_setting 36 = .ok (.goto 4, 3) := by decide +kernel
theorem dX5_setting_39 : decode cX5_setting 39 = .ok (.iconst 2, 1) := by decide +kernel
theorem dX5_setting_40 : decode cX5_setting 40 = .ok (.putfield 73, 3) := by decide +kernel
theorem dX5_setting_43 : decode cX5_setting 43 = .ok (.iconst 0, 1) := by decide +kernel
theorem dX5_setting_44 : decode cX5_setting 44 = .ok (.istore 4, 2) := by decide +kernel
theorem dX5_setting_46 : decode cX5_setting 46 = .ok (.aload_n 0, 1) := by decide +kernel
theorem dX5_setting_47 : decode cX5_setting 47 = .ok (.getfield 73, 3) := by decide +kernel
theorem dX5_setting_50 : decode cX5_setting 50 = .ok (.ifCond .ne 165, 3) := by decide +kernel
theorem dX5_setting_53 : decode cX5_setting 53 = .ok (.iload 4, 2) := by decide +kernel
theorem dX5_setting_55 : decode cX5_setting 55 = .ok (.sipush 200, 3) := by decide +kernel
theorem dX5_setting_58 : decode cX5_setting 58 = .ok (.if_icmp .gt 157, 3) := by decide +kernel
theorem dX5_setting_61 : decode cX5_setting 61 = .ok (.iconst 0, 1) := by decide +kernel
theorem dX5_setting_62 : decode cX5_setting 62 = .ok (.istore 5, 2) := by decide +kernel
theorem dX5_setting_64 : decode cX5_setting 64 = .ok (.iconst 0, 1) := by decide +kernel
theorem dX5_setting_65 : decode cX5_setting 65 = .ok (.istore 6, 2) := by decide +kernel
theorem dX5_setting_67 : decode cX5_setting 67 = .ok (.iconst 0, 1) := by decide +kernel
theorem dX5_setting_68 : decode cX5_setting 68 = .ok (.istore 7, 2) := by decide +kernel
theorem dX5_setting_70 : decode cX5_setting 70 = .ok (.iload 7, 2) := by decide +kernel
theorem dX5_setting_72 : decode cX5_setting 72 = .ok (.aload_n 0, 1) := by decide +kernel
theorem dX5_setting_73 : decode cX5_setting 73 = .ok (.getfield 76, 3) := by decide +kernel
theorem dX5_setting_76 : decode cX5_setting 76 = .ok (.if_icmp .ge 119, 3) := by decide +kernel
theorem dX5_setting_79 : decode cX5_setting 79 = .ok (.aload_n 0, 1) := by decide +kernel
theorem dX5_setting_80 : decode cX5_setting 80 = .ok (.getfield 26, 3) := by decide +kernel
theorem dX5_setting_83 : decode cX5_setting 83 = .ok (.iload 7, 2) := by decide +kernel
theorem dX5_setting_85 : decode cX5_setting 85 = .ok (.baload, 1) := by decide +kernel
theorem dX5_setting_86 : decode cX5_setting 86 = .ok (.ifCond .eq 51, 3) := by decide +kernel
theorem dX5_setting_89 : decode cX5_setting 89 = .ok (.aload_n 0, 1) := by decide +kernel
theorem dX5_setting_90 : decode cX5_setting 90 = .ok (.iload 7, 2) := by decide +kernel
theorem dX5_setting_92 : decode cX5_setting 92 = .ok (.invokevirtual 99, 3) := by decide +kernel
theorem dX5_setting_95 : decode cX5_setting 95 = .ok (.ifCond .eq 42, 3) := by decide +kernel
theorem dX5_setting_98 : decode cX5_setting 98 = .ok (.aload_n 0, 1) := by decide +kernel
theorem dX5_setting_99 : decode cX5_setting 99 = .ok (.iload 7, 2) := by decide +kernel
theorem dX5_setting_101 : decode cX5_setting 101 = .ok (.aload_n 0, 1) := by decide +kernel
theorem dX5_setting_102 : decode cX5_setting 102 = .ok (.getfield 42, 3) := by decide +kernel
theorem dX5_setting_105 : decode cX5_setting 105 = .ok (.iconst 0, 1) := by decide +kernel
theorem dX5_setting_106 : decode cX5_setting 106 = .ok (.daload, 1) := by decide +kernel
theorem dX5_setting_107 : decode cX5_setting 107 = .ok (.aload_n 0, 1) := by decide +kernel
theorem dX5_setting_108 : decode cX5_setting 108 = .ok (.getfield 42, 3) := by decide +kernel
theorem dX5_setting_111 : decode cX5_setting 111 = .ok (.iconst 1, 1) := by decide +kernel
theorem dX5_setting_112 : decode cX5_setting 112 = .ok (.daload, 1) := by decide +kernel
theorem dX5_setting_113 : decode cX5_setting 113 = .ok (.aload_n 0, 1) := by decide +kernel
theorem dX5_setting_114 : decode cX5_setting 114 = .ok (.getfield 42, 3) := by decide +kernel
theorem dX5_setting_117 : decode cX5_setting 117 = .ok (.iconst 2, 1) := by decide +kernel
theorem dX5_setting_118 : decode cX5_setting 118 = .ok (.daload, 1) := by decide +kernel
theorem dX5_setting_119 : decode cX5_setting 119 = .ok (.invokevirtual 112, 3) := by decide +kernel
theorem dX5_setting_122 : decode cX5_setting 122 = .ok (.iload 4, 2) := by decide +kernel
theorem dX5_setting_124 : decode cX5_setting 124 = .ok (.i2d, 1) := by decide +kernel
theorem dX5_setting_125 : decode cX5_setting 125 = .ok (.ldc2_w 116, 3) := by decide +kernel
theorem dX5_setting_128 : decode cX5_setting 128 = .ok (.ddiv, 1) := by decide +kernel
theorem dX5_setting_129 : decode cX5_setting 129 = .ok (.dcmp .l, 1) := by decide +kernel
theorem dX5_setting_130 : decode cX5_setting 130 = .ok (.ifCond .lt 7, 3) := by decide +kernel
theorem dX5_setting_133 : decode cX5_setting 133 = .ok (.iconst 1, 1) := by decide +kernel
theorem dX5_setting_134 : decode cX5_setting 134 = .ok (.goto 4, 3) := by decide +kernel
theorem dX5_setting_137 : decode cX5_setting 137 = .ok (.iconst 0, 1) := by decide +kernel
theorem dX5_setting_138 : decode cX5_setting 138 = .ok (.istore 8, 2) := by decide +kernel
theorem dX5_setting_140 : decode cX5_setting 140 = .ok (.iload 8, 2) := by decide +kernel
theorem dX5_setting_142 : decode cX5_setting 142 = .ok (.ifCond .eq 10, 3) := by decide +kernel
theorem dX5_setting_145 : decode cX5_setting 145 = .ok (.iload 5, 2) := by decide +kernel
theorem dX5_setting_147 : decode cX5_setting 147 = .ok (.iconst 1, 1) := by decide +kernel
theorem dX5_setting_148 : decode cX5_setting 148 = .ok (.iadd, 1) := by decide +kernel
theorem dX5_setting_149 : decode cX5_setting 149 = .ok (.goto 5, 3) := by decide +kernel
theorem dX5_setting_152 : decode cX5_setting 152 = .ok (.iload 5, 2) := by decide +kernel
theorem dX5_setting_154 : decode cX5_setting 154 = .ok (.istore 5, 2) := by decide +kernel
theorem dX5_setting_156 : decode cX5_setting 156 = .ok (.iload 8, 2) := by decide +kernel
theorem dX5_setting_158 : decode cX5_setting 158 = .ok (.ifCond .eq 27, 3) := by decide +kernel
theorem dX5_setting_161 : decode cX5_setting 161 = .ok (.aload_n 0, 1) := by decide +kernel
theorem dX5_setting_162 : decode cX5_setting 162 = .ok (.getfield 23, 3) := by decide +kernel
theorem dX5_setting_165 : decode cX5_setting 165 = .ok (.iload 7, 2) := by decide +kernel
theorem dX5_setting_167 : decode cX5_setting 167 = .ok (.daload, 1) := by decide +kernel
theorem dX5_setting_168 : decode cX5_setting 168 = .ok (.aload_n 0, 1) := by decide +kernel
theorem dX5_setting_169 : decode cX5_setting 169 = .ok (.getfield 50, 3) := by decide +kernel
theorem dX5_setting_172 : decode cX5_setting 172 = .ok (.iload_n 1, 1) := by decide +kernel
theorem dX5_setting_173 : decode cX5_setting 173 = .ok (.daload, 1) := by decide +kernel
theorem dX5_setting_174 : decode cX5_setting 174 = .ok (.dcmp .g, 1) := by decide +kernel
theorem dX5_setting_175 : decode cX5_setting 175 = .ok (.ifCond .ge 10, 3) := by decide +kernel
theorem dX5_setting_178 : decode cX5_setting 178 = .ok (.iload 6, 2) := by decide +kernel
theorem dX5_setting_180 : decode cX5_setting 180 = .ok (.iconst 1, 1) := by decide +kernel
theorem dX5_setting_181 : decode cX5_setting 181 = .ok (.iadd, 1) := by decide +kernel
theorem dX5_setting_182 : decode cX5_setting 182 = .ok (.goto 5, 3) := by decide +kernel
theorem dX5_setting_185 : decode cX5_setting 185 = .ok (.iload 6, 2) := by decide +kernel
theorem dX5_setting_187 : decode cX5_setting 187 = .ok (.istore 6, 2) := by decide +kernel
theorem dX5_setting_189 : decode cX5_setting 189 = .ok (.iinc 7 1, 3) := by decide +kernel
theorem dX5_setting_192 : decode cX5_setting 192 = .ok (.goto (-122), 3) := by decide +kernel
theorem dX5_setting_195 : decode cX5_setting 195 = .ok (.iload 6, 2) := by decide +kernel
theorem dX5_setting_197 : decode cX5_setting 197 = .ok (.iload_n 3, 1) := by decide +kernel
theorem dX5_setting_198 : decode cX5_setting 198 = .ok (.imul, 1) := by decide +kernel
theorem dX5_setting_199 : decode cX5_setting 199 = .ok (.iload_n 2, 1) := by decide +kernel
theorem dX5_setting_200 : decode cX5_setting 200 = .ok (.iload 5, 2) := by decide +kernel
theorem dX5_setting_202 : decode cX5_setting 202 = .ok (.imul, 1) := by decide +kernel
theorem dX5_setting_203 : decode cX5_setting 203 = .ok (.if_icmp .gt 6, 3) := by decide +kernel
theorem dX5_setting_206 : decode cX5_setting 206 = .ok (.iload 4, 2) := by decide +kernel
theorem dX5_setting_208 : decode cX5_setting 208 = .ok (.ireturn, 1) := by decide +kernel
theorem dX5_setting_209 : decode cX5_setting 209 = .ok (.iinc 4 1, 3) := by decide +kernel
theorem dX5_setting_212 : decode cX5_setting 212 = .ok (.goto (-166), 3) := by decide +kernel
theorem dX5_setting_215 : decode cX5_setting 215 = .ok (.aload_n 0, 1) := by decide +kernel
theorem dX5_setting_216 : decode cX5_setting 216 = .ok (.getfield 73, 3) := by decide +kernel
theorem dX5_setting_219 : decode cX5_setting 219 = .ok (.ifCond .le 7, 3) := by decide +kernel
theorem dX5_setting_222 : decode cX5_setting 222 = .ok (.iconst 0, 1) := by decide +kernel
theorem dX5_setting_223 : decode cX5_setting 223 = .ok (.goto 4, 3) := by decide +kernel
theorem dX5_setting_226 : decode cX5_setting 226 = .ok (.iconst (-1), 1) := by decide +kernel
theorem dX5_setting_227 : decode cX5_setting 227 = .ok (.ireturn, 1) := by decide +kernel
theorem dX5_power_0 : decode cX5_power 0 = .ok (.lconst 1, 1) := by decide +kernel
theorem dX5_power_1 : decode cX5_power 1 = .ok (.lstore_n 3, 1) := by decide +kernel
theorem dX5_power_2 : decode cX5_power 2 = .ok (.iconst 0, 1) := by decide +kernel
theorem dX5_power_3 : decode cX5_power 3 = .ok (.istore 5, 2) := by decide +kernel
theorem dX5_power_5 : decode cX5_power 5 = .ok (.iload 5, 2) := by decide +kernel
theorem dX5_power_7 : decode cX5_power 7 = .ok (.iload_n 2, 1) := by decide +kernel
theorem dX5_power_8 : decode cX5_power 8 = .ok (.if_icmp .ge 13, 3) := by decide +kernel
theorem dX5_power_11 : decode cX5_power 11 = .ok (.lload_n 3, 1) := by decide +kernel
theorem dX5_power_12 : decode cX5_power 12 = .ok (.lload_n 0, 1) := by decide +kernel
theorem dX5_power_13 : decode cX5_power 13 = .ok (.lmul, 1) := by decide +kernel
theorem dX5_power_14 : decode cX5_power 14 = .ok (.lstore_n 3, 1) := by decide +kernel
theorem dX5_power_15 : decode cX5_power 15 = .ok (.iinc 5 1, 3) := by decide +kernel
theorem dX5_power_18 : decode cX5_power 18 = .ok (.goto (-13), 3) := by decide +kernel
theorem dX5_power_21 : decode cX5_power 21 = .ok (.lload_n 3, 1) := by decide +kernel
theorem dX5_power_22 : decode cX5_power 22 = .ok (.lreturn, 1) := by decide +kernel
theorem dX5_odds_0 : decode cX5_odds 0 = .ok (.iload_n 1, 1) := by decide +kernel
theorem dX5_odds_1 : decode cX5_odds 1 = .ok (.ifCond .lt 40, 3) := by decide +kernel
theorem dX5_odds_4 : decode cX5_odds 4 = .ok (.iload_n 1, 1) := by decide +kernel
theorem dX5_odds_5 : decode cX5_odds 5 = .ok (.bipush 12, 2) := by decide +kernel
theorem dX5_odds_7 : decode cX5_odds 7 = .ok (.if_icmp .gt 34, 3) := by decide +kernel
theorem dX5_odds_10 : decode cX5_odds 10 = .ok (.iload_n 2, 1) := by decide +kernel
theorem dX5_odds_11 : decode cX5_odds 11 = .ok (.ifCond .lt 30, 3) := by decide +kernel
theorem dX5_odds_14 : decode cX5_odds 14 = .ok (.iload 4, 2) := by decide +kernel
theorem dX5_odds_16 : decode cX5_odds 16 = .ok (.iconst 1, 1) := by decide +kernel
theorem dX5_odds_17 : decode cX5_odds 17 = .ok (.if_icmp .lt 24, 3) := by decide +kernel
theorem dX5_odds_20 : decode cX5_odds 20 = .ok (.iload 4, 2) := by decide +kernel
theorem dX5_odds_22 : decode cX5_odds 22 = .ok (.bipush 16, 2) := by decide +kernel
theorem dX5_odds_24 : decode cX5_odds 24 = .ok (.if_icmp .gt 17, 3) := by decide +kernel
theorem dX5_odds_27 : decode cX5_odds 27 = .ok (.iload_n 3, 1) := by decide +kernel
theorem dX5_odds_28 : decode cX5_odds 28 = .ok (.ifCond .lt 13, 3) := by decide +kernel
theorem dX5_odds_31 : decode cX5_odds 31 = .ok (.iload_n 3, 1) := by decide +kernel
theorem dX5_odds_32 : decode cX5_odds 32 = .ok (.iload 4, 2) := by decide +kernel
theorem dX5_odds_34 : decode cX5_odds 34 = .ok (.if_icmp .gt 7, 3) := by decide +kernel
theorem dX5_odds_37 : decode cX5_odds 37 = .ok (.iconst 1, 1) := by decide +kernel
theorem dX5_odds_38 : decode cX5_odds 38 = .ok (.goto 4, 3) := by decide +kernel
theorem dX5_odds_41 : decode cX5_odds 41 = .ok (.iconst 0, 1) := by decide +kernel
theorem dX5_odds_42 : decode cX5_odds 42 = .ok (.istore 6, 2) := by decide +kernel
theorem dX5_odds_44 : decode cX5_odds 44 = .ok (.aload_n 0, 1) := by decide +kernel
theorem dX5_odds_45 : decode cX5_odds 45 = .ok (.iload 5, 2) := by decide +kernel
theorem dX5_odds_47 : decode cX5_odds 47 = .ok (.ifCond .eq 13, 3) := by decide +kernel
theorem dX5_odds_50 : decode cX5_odds 50 = .ok (.iload 5, 2) := by decide +kernel
theorem dX5_odds_52 : decode cX5_odds 52 = .ok (.iconst 1, 1) := by decide +kernel
theorem dX5_odds_53 : decode cX5_odds 53 = .ok (.if_icmp .eq 7, 3) := by decide +kernel
theorem dX5_odds_56 : decode cX5_odds 56 = .ok (.iconst 1, 1) := by decide +kernel
theorem dX5_odds_57 : decode cX5_odds 57 = .ok (.goto 13, 3) := by decide +kernel
theorem dX5_odds_60 : decode cX5_odds 60 = .ok (.iload 6, 2) := by decide +kernel
theorem dX5_odds_62 : decode cX5_odds 62 = .ok (.ifCond .eq 7, 3) := by decide +kernel
theorem dX5_odds_65 : decode cX5_odds 65 = .ok (.iconst 0, 1) := by decide +kernel
theorem dX5_odds_66 : decode cX5_odds 66 = .ok (.goto 4, 3) := by decide +kernel
theorem dX5_odds_69 : decode cX5_odds 69 = .ok (.iconst 2, 1) := by decide +kernel
theorem dX5_odds_70 : decode cX5_odds 70 = .ok (.putfield 73, 3) := by decide +kernel
theorem dX5_odds_73 : decode cX5_odds 73 = .ok (.aload_n 0, 1) := by decide +kernel
theorem dX5_odds_74 : decode cX5_odds 74 = .ok (.getfield 73, 3) := by decide +kernel
theorem dX5_odds_77 : decode cX5_odds 77 = .ok (.ifCond .le 5, 3) := by decide +kernel
theorem dX5_odds_80 : decode cX5_odds 80 = .ok (.lconst 0, 1) := by decide +kernel
theorem dX5_odds_81 : decode cX5_odds 81 = .ok (.lreturn, 1) := by decide +kernel
theorem dX5_odds_82 : decode cX5_odds 82 = .ok (.lconst 0, 1) := by decide +kernel
theorem dX5_odds_83 : decode cX5_odds 83 = .ok (.lstore 7, 2) := by decide +kernel
theorem dX5_odds_85 : decode cX5_odds 85 = .ok (.lconst 1, 1) := by decide +kernel
theorem dX5_odds_86 : decode cX5_odds 86 = .ok (.lstore 9, 2) := by decide +kernel
theorem dX5_odds_88 : decode cX5_odds 88 = .ok (.iconst 0, 1) := by decide +kernel
theorem dX5_odds_89 : decode cX5_odds 89 = .ok (.istore 11, 2) := by decide +kernel
theorem dX5_odds_91 : decode cX5_odds 91 = .ok (.iload 11, 2) := by decide +kernel
theorem dX5_odds_93 : decode cX5_odds 93 = .ok (.iload_n 1, 1) := by decide +kernel
theorem dX5_odds_94 : decode cX5_odds 94 = .ok (.if_icmp .gt 59, 3) := by decide +kernel
theorem dX5_odds_97 : decode cX5_odds 97 = .ok (.iload 11, 2) := by decide +kernel
theorem dX5_odds_99 : decode cX5_odds 99 = .ok (.iload_n 2, 1) := by decide +kernel
theorem dX5_odds_100 : decode cX5_odds 100 = .ok (.if_icmp .gt 53, 3) := by decide +kernel
theorem dX5_odds_103 : decode cX5_odds 103 = .ok (.lload 7, 2) := by decide +kernel
theorem dX5_odds_105 : decode cX5_odds 105 = .ok (.lload 9, 2) := by decide +kernel
theorem dX5_odds_107 : decode cX5_odds 107 = .ok (.iload_n 3, 1) := by decide +kernel
theorem dX5_odds_108 : decode cX5_odds 108 = .ok (.i2l, 1) := by decide +kernel
theorem dX5_odds_109 : decode cX5_odds 109 = .ok (.iload 11, 2) := by decide +kernel
theorem dX5_odds_111 : decode cX5_odds 111 = .ok (.invokestatic 118, 3) := by decide +kernel
theorem dX5_odds_114 : decode cX5_odds 114 = .ok (.lmul, 1) := by decide +kernel
theorem dX5_odds_115 : decode cX5_odds 115 = .ok (.iload 4, 2) := by decide +kernel
theorem dX5_odds_117 : decode cX5_odds 117 = .ok (.iload_n 3, 1) := by decide +kernel
theorem dX5_odds_118 : decode cX5_odds 118 = .ok (.isub, 1) := by decide +kernel
theorem dX5_odds_119 : decode cX5_odds 119 = .ok (.i2l, 1) := by decide +kernel
theorem dX5_odds_120 : decode cX5_odds 120 = .ok (.iload_n 1, 1) := by decide +kernel
theorem dX5_odds_121 : decode cX5_odds 121 = .ok (.iload 11, 2) := by decide +kernel
theorem dX5_odds_123 : decode cX5_odds 123 = .ok (.isub, 1) := by decide +kernel
theorem dX5_odds_124 : decode cX5_odds 124 = .ok (.invokestatic 118, 3) := by decide +kernel
theorem dX5_odds_127 : decode cX5_odds 127 = .ok (.lmul, 1) := by decide +kernel
theorem dX5_odds_128 : decode cX5_odds 128 = .ok (.ladd, 1) := by decide +kernel
theorem dX5_odds_129 : decode cX5_odds 129 = .ok (.lstore 7, 2) := by decide +kernel
theorem dX5_odds_131 : decode cX5_odds 131 = .ok (.lload 9, 2) := by decide +kernel
theorem dX5_odds_133 : decode cX5_odds 133 = .ok (.iload_n 1, 1) := by decide +kernel
theorem dX5_odds_134 : decode cX5_odds 134 = .ok (.iload 11, 2) := by decide +kernel
theorem dX5_odds_136 : decode cX5_odds 136 = .ok (.isub, 1) := by decide +kernel
theorem dX5_odds_137 : decode cX5_odds 137 = .ok (.i2l, 1) := by decide +kernel
theorem dX5_odds_138 : decode cX5_odds 138 = .ok (.lmul, 1) := by decide +kernel
theorem dX5_odds_139 : decode cX5_odds 139 = .ok (.iload 11, 2) := by decide +kernel
theorem dX5_odds_141 : decode cX5_odds 141 = .ok (.iconst 1, 1) := by decide +kernel
theorem dX5_odds_142 : decode cX5_odds 142 = .ok (.iadd, 1) := by decide +kernel
theorem dX5_odds_143 : decode cX5_odds 143 = .ok (.i2l, 1) := by decide +kernel
theorem dX5_odds_144 : decode cX5_odds 144 = .ok (.ldiv, 1) := by decide +kernel
theorem dX5_odds_145 : decode cX5_odds 145 = .ok (.lstore 9, 2) := by decide +kernel
theorem dX5_odds_147 : decode cX5_odds 147 = .ok (.iinc 11 1, 3) := by decide +kernel
theorem dX5_odds_150 : decode cX5_odds 150 = .ok (.goto (-59), 3) := by decide +kernel
theorem dX5_odds_153 : decode cX5_odds 153 = .ok (.lload 7, 2) := by decide +kernel
theorem dX5_odds_155 : decode cX5_odds 155 = .ok (.lstore 11, 2) := by decide +kernel
theorem dX5_odds_157 : decode cX5_odds 157 = .ok (.iload 4, 2) := by decide +kernel
theorem dX5_odds_159 : decode cX5_odds 159 = .ok (.i2l, 1) := by decide +kernel
theorem dX5_odds_160 : decode cX5_odds 160 = .ok (.iload_n 1, 1) := by decide +kernel
theorem dX5_odds_161 : decode cX5_odds 161 = .ok (.invokestatic 118, 3) := by decide +kernel
theorem dX5_odds_164 : decode cX5_odds 164 = .ok (.lstore 13, 2) := by decide +kernel
theorem dX5_odds_166 : decode cX5_odds 166 = .ok (.lload 13, 2) := by decide +kernel
theorem dX5_odds_168 : decode cX5_odds 168 = .ok (.lconst 0, 1) := by decide +kernel
theorem dX5_odds_169 : decode cX5_odds 169 = .ok (.lcmp, 1) := by decide +kernel
theorem dX5_odds_170 : decode cX5_odds 170 = .ok (.ifCond .eq 21, 3) := by decide +kernel
theorem dX5_odds_173 : decode cX5_odds 173 = .ok (.lload 11, 2) := by decide +kernel
theorem dX5_odds_175 : decode cX5_odds 175 = .ok (.lload 13, 2) := by decide +kernel
theorem dX5_odds_177 : decode cX5_odds 177 = .ok (.lrem, 1) := by decide +kernel
theorem dX5_odds_178 : decode cX5_odds 178 = .ok (.lstore 15, 2) := by decide +kernel
theorem dX5_odds_180 : decode cX5_odds 180 = .ok (.lload 13, 2) := by decide +kernel
theorem dX5_odds_182 : decode cX5_odds 182 = .ok (.lstore 11, 2) := by decide +kernel
theorem dX5_odds_184 : decode cX5_odds 184 = .ok (.lload 15, 2) := by decide +kernel
theorem dX5_odds_186 : decode cX5_odds 186 = .ok (.lstore 13, 2) := by decide +kernel
theorem dX5_odds_188 : decode cX5_odds 188 = .ok (.goto (-22), 3) := by decide +kernel
theorem dX5_odds_191 : decode cX5_odds 191 = .ok (.iload 5, 2) := by decide +kernel
theorem dX5_odds_193 : decode cX5_odds 193 = .ok (.ifCond .ne 11, 3) := by decide +kernel
theorem dX5_odds_196 : decode cX5_odds 196 = .ok (.lload 7, 2) := by decide +kernel
theorem dX5_odds_198 : decode cX5_odds 198 = .ok (.lload 11, 2) := by decide +kernel
theorem dX5_odds_200 : decode cX5_odds 200 = .ok (.ldiv, 1) := by decide +kernel
theorem dX5_odds_201 : decode cX5_odds 201 = .ok (.goto 13, 3) := by decide +kernel
theorem dX5_odds_204 : decode cX5_odds 204 = .ok (.iload 4, 2) := by decide +kernel
theorem dX5_odds_206 : decode cX5_odds 206 = .ok (.i2l, 1) := by decide +kernel
theorem dX5_odds_207 : decode cX5_odds 207 = .ok (.iload_n 1, 1) := by decide +kernel
theorem dX5_odds_208 : decode cX5_odds 208 = .ok (.invokestatic 118, 3) := by decide +kernel
theorem dX5_odds_211 : decode cX5_odds 211 = .ok (.lload 11, 2) := by decide +kernel
theorem dX5_odds_213 : decode cX5_odds 213 = .ok (.ldiv, 1) := by decide +kernel
theorem dX5_odds_214 : decode cX5_odds 214 = .ok (.lreturn, 1) := by decide +kernel
theorem dX5_chart_0 : decode cX5_chart 0 = .ok (.aload_n 0, 1) := by decide +kernel
theorem dX5_chart_1 : decode cX5_chart 1 = .ok (.iload_n 1, 1) := by decide +kernel
theorem dX5_chart_2 : decode cX5_chart 2 = .ok (.iconst 1, 1) := by decide +kernel
theorem dX5_chart_3 : decode cX5_chart 3 = .ok (.if_icmp .lt 22, 3) := by decide +kernel
theorem dX5_chart_6 : decode cX5_chart 6 = .ok (.iload_n 1, 1) := by decide +kernel
theorem dX5_chart_7 : decode cX5_chart 7 = .ok (.bipush 20, 2) := by decide +kernel
theorem dX5_chart_9 : decode cX5_chart 9 = .ok (.if_icmp .gt 16, 3) := by decide +kernel
theorem dX5_chart_12 : decode cX5_chart 12 = .ok (.iload_n 2, 1) := by decide +kernel
theorem dX5_chart_13 : decode cX5_chart 13 = .ok (.ifCond .lt 12, 3) := by decide +kernel
theorem dX5_chart_16 : decode cX5_chart 16 = .ok (.iload_n 2, 1) := by decide +kernel
theorem dX5_chart_17 : decode cX5_chart 17 = .ok (.iload_n 1, 1) := by decide +kernel
theorem dX5_chart_18 : decode cX5_chart 18 = .ok (.if_icmp .gt 7, 3) := by decide +kernel
theorem dX5_chart_21 : decode cX5_chart 21 = .ok (.iconst 0, 1) := by decide +kernel
theorem dX5_chart_22 : decode cX5_chart 22 = .ok (.goto 4, 3) := by decide +kernel
theorem dX5_chart_25 : decode cX5_chart 25 = .ok (.iconst 1, 1) := by decide +kernel
theorem dX5_chart_26 : decode cX5_chart 26 = .ok (.putfield 73, 3) := by decide +kernel
theorem dX5_chart_29 : decode cX5_chart 29 = .ok (.aload_n 0, 1) := by decide +kernel
theorem dX5_chart_30 : decode cX5_chart 30 = .ok (.getfield 73, 3) := by decide +kernel
theorem dX5_chart_33 : decode cX5_chart 33 = .ok (.ifCond .ne 23, 3) := by decide +kernel
theorem dX5_chart_36 : decode cX5_chart 36 = .ok (.aload_n 0, 1) := by decide +kernel
theorem dX5_chart_37 : decode cX5_chart 37 = .ok (.iload_n 1, 1) := by decide +kernel
theorem dX5_chart_38 : decode cX5_chart 38 = .ok (.putfield 53, 3) := by decide +kernel
theorem dX5_chart_41 : decode cX5_chart 41 = .ok (.aload_n 0, 1) := by decide +kernel
theorem dX5_chart_42 : decode cX5_chart 42 = .ok (.iload_n 2, 1) := by decide +kernel
theorem dX5_chart_43 : decode cX5_chart 43 = .ok (.putfield 57, 3) := by decide +kernel
theorem dX5_chart_46 : decode cX5_chart 46 = .ok (.aload_n 0, 1) := by decide +kernel
theorem dX5_chart_47 : decode cX5_chart 47 = .ok (.iconst 0, 1) := by decide +kernel
theorem dX5_chart_48 : decode cX5_chart 48 = .ok (.putfield 122, 3) := by decide +kernel
theorem dX5_chart_51 : decode cX5_chart 51 = .ok (.aload_n 0, 1) := by decide +kernel
theorem dX5_chart_52 : decode cX5_chart 52 = .ok (.iconst 0, 1) := by decide +kernel
theorem dX5_chart_53 : decode cX5_chart 53 = .ok (.putfield 125, 3) := by decide +kernel
theorem dX5_chart_56 : decode cX5_chart 56 = .ok (.return_, 1) := by decide +kernel
theorem dX5_test_0 : decode cX5_test 0 = .ok (.aload_n 0, 1) := by decide +kernel
theorem dX5_test_1 : decode cX5_test 1 = .ok (.iconst 0, 1) := by decide +kernel
theorem dX5_test_2 : decode cX5_test 2 = .ok (.putfield 73, 3) := by decide +kernel
theorem dX5_test_5 : decode cX5_test 5 = .ok (.aload_n 0, 1) := by decide +kernel
theorem dX5_test_6 : decode cX5_test 6 = .ok (.getfield 60, 3) := by decide +kernel
theorem dX5_test_9 : decode cX5_test 9 = .ok (.aload_n 0, 1) := by decide +kernel
theorem dX5_test_10 : decode cX5_test 10 = .ok (.getfield 122, 3) := by decide +kernel
theorem dX5_test_13 : decode cX5_test 13 = .ok (.iload_n 1, 1) := by decide +kernel
theorem dX5_test_14 : decode cX5_test 14 = .ok (.bastore, 1) := by decide +kernel
theorem dX5_test_15 : decode cX5_test 15 = .ok (.aload_n 0, 1) := by decide +kernel
theorem dX5_test_16 : decode cX5_test 16 = .ok (.dup, 1) := by decide +kernel
theorem dX5_test_17 : decode cX5_test 17 = .ok (.getfield 122, 3) := by decide +kernel
theorem dX5_test_20 : decode cX5_test 20 = .ok (.iconst 1, 1) := by decide +kernel
theorem dX5_test_21 : decode cX5_test 21 = .ok (.iadd, 1) := by decide +kernel
theorem dX5_test_22 : decode cX5_test 22 = .ok (.putfield 122, 3) := by decide +kernel
theorem dX5_test_25 : decode cX5_test 25 = .ok (.iconst 0, 1) := by decide +kernel
theorem dX5_test_26 : decode cX5_test 26 = .ok (.istore_n 2, 1) := by decide +kernel
theorem dX5_test_27 : decode cX5_test 27 = .ok (.aload_n 0, 1) := by decide +kernel
theorem dX5_test_28 : decode cX5_test 28 = .ok (.getfield 122, 3) := by decide +kernel
theorem dX5_test_31 : decode cX5_test 31 = .ok (.iconst 1, 1) := by decide +kernel
theorem dX5_test_32 : decode cX5_test 32 = .ok (.isub, 1) := by decide +kernel
theorem dX5_test_33 : decode cX5_test 33 = .ok (.istore_n 3, 1) := by decide +kernel
theorem dX5_test_34 : decode cX5_test 34 = .ok (.iload_n 3, 1) := by decide +kernel
theorem dX5_test_35 : decode cX5_test 35 = .ok (.ifCond .lt 39, 3) := by decide +kernel
theorem dX5_test_38 : decode cX5_test 38 = .ok (.iload_n 3, 1) := by decide +kernel
theorem dX5_test_39 : decode cX5_test 39 = .ok (.aload_n 0, 1) := by decide +kernel
theorem dX5_test_40 : decode cX5_test 40 = .ok (.getfield 122, 3) := by decide +kernel
theorem dX5_test_43 : decode cX5_test 43 = .ok (.aload_n 0, 1) := by decide +kernel
theorem dX5_test_44 : decode cX5_test 44 = .ok (.getfield 53, 3) := by decide +kernel
theorem dX5_test_47 : decode cX5_test 47 = .ok (.isub, 1) := by decide +kernel
theorem dX5_test_48 : decode cX5_test 48 = .ok (.if_icmp .lt 26, 3) := by decide +kernel
theorem dX5_test_51 : decode cX5_test 51 = .ok (.aload_n 0, 1) := by decide +kernel
theorem dX5_test_52 : decode cX5_test 52 = .ok (.getfield 60, 3) := by decide +kernel
theorem dX5_test_55 : decode cX5_test 55 = .ok (.iload_n 3, 1) := by decide +kernel
theorem dX5_test_56 : decode cX5_test 56 = .ok (.baload, 1) := by decide +kernel
theorem dX5_test_57 : decode cX5_test 57 = .ok (.ifCond .eq 9, 3) := by decide +kernel
theorem dX5_test_60 : decode cX5_test 60 = .ok (.iload_n 2, 1) := by decide +kernel
theorem dX5_test_61 : decode cX5_test 61 = .ok (.iconst 1, 1) := by decide +kernel
theorem dX5_test_62 : decode cX5_test 62 = .ok (.iadd, 1) := by decide +kernel
theorem dX5_test_63 : decode cX5_test 63 = .ok (.goto 4, 3) := by decide +kernel
theorem dX5_test_66 : decode cX5_test 66 = .ok (.iload_n 2, 1) := by decide +kernel
theorem dX5_test_67 : decode cX5_test 67 = .ok (.istore_n 2, 1) := by decide +kernel
theorem dX5_test_68 : decode cX5_test 68 = .ok (.iinc 3 (-1), 3) := by decide +kernel
theorem dX5_test_71 : decode cX5_test 71 = .ok (.goto (-37), 3) := by decide +kernel
theorem dX5_test_74 : decode cX5_test 74 = .ok (.aload_n 0, 1) := by decide +kernel
theorem dX5_test_75 : decode cX5_test 75 = .ok (.getfield 125, 3) := by decide +kernel
theorem dX5_test_78 : decode cX5_test 78 = .ok (.ifCond .le 15, 3) := by decide +kernel
theorem dX5_test_81 : decode cX5_test 81 = .ok (.aload_n 0, 1) := by decide +kernel
theorem dX5_test_82 : decode cX5_test 82 = .ok (.dup, 1) := by decide +kernel
theorem dX5_test_83 : decode cX5_test 83 = .ok (.getfield 125, 3) := by decide +kernel
theorem dX5_test_86 : decode cX5_test 86 = .ok (.iconst 1, 1) := by decide +kernel
theorem dX5_test_87 : decode cX5_test 87 = .ok (.isub, 1) := by decide +kernel
theorem dX5_test_88 : decode cX5_test 88 = .ok (.putfield 125, 3) := by decide +kernel
theorem dX5_test_91 : decode cX5_test 91 = .ok (.iconst 0, 1) := by decide +kernel
theorem dX5_test_92 : decode cX5_test 92 = .ok (.ireturn, 1) := by decide +kernel
theorem dX5_test_93 : decode cX5_test 93 = .ok (.iload_n 2, 1) := by decide +kernel
theorem dX5_test_94 : decode cX5_test 94 = .ok (.aload_n 0, 1) := by decide +kernel
theorem dX5_test_95 : decode cX5_test 95 = .ok (.getfield 57, 3) := by decide +kernel
theorem dX5_test_98 : decode cX5_test 98 = .ok (.if_icmp .le 7, 3) := by decide +kernel
theorem dX5_test_101 : decode cX5_test 101 = .ok (.iconst 1, 1) := by decide +kernel
theorem dX5_test_102 : decode cX5_test 102 = .ok (.goto 4, 3) := by decide +kernel
theorem dX5_test_105 : decode cX5_test 105 = .ok (.iconst 0, 1) := by decide +kernel
theorem dX5_test_106 : decode cX5_test 106 = .ok (.istore_n 3, 1) := by decide +kernel
theorem dX5_test_107 : decode cX5_test 107 = .ok (.aload_n 0, 1) := by decide +kernel
theorem dX5_test_108 : decode cX5_test 108 = .ok (.iload_n 3, 1) := by decide +kernel
theorem dX5_test_109 : decode cX5_test 109 = .ok (.ifCond .eq 10, 3) := by decide +kernel
theorem dX5_test_112 : decode cX5_test 112 = .ok (.aload_n 0, 1) := by decide +kernel
theorem dX5_test_113 : decode cX5_test 113 = .ok (.getfield 53, 3) := by decide +kernel
theorem dX5_test_116 : decode cX5_test 116 = .ok (.goto 4, 3) := by decide +kernel
theorem dX5_test_119 : decode cX5_test 119 = .ok (.iconst 0, 1) := by decide +kernel
theorem dX5_test_120 : decode cX5_test 120 = .ok (.putfield 125, 3) := by decide +kernel
theorem dX5_test_123 : decode cX5_test 123 = .ok (.iload_n 3, 1) := by decide +kernel
theorem dX5_test_124 : decode cX5_test 124 = .ok (.ireturn, 1) := by decide +kernel
theorem dX5_proof_0 : decode cX5_proof 0 = .ok (.aload_n 0, 1) := by decide +kernel
theorem dX5_proof_1 : decode cX5_proof 1 = .ok (.dload_n 1, 1) := by decide +kernel
theorem dX5_proof_2 : decode cX5_proof 2 = .ok (.dconst 0, 1) := by decide +kernel
theorem dX5_proof_3 : decode cX5_proof 3 = .ok (.ldc2_w 83, 3) := by decide +kernel
theorem dX5_proof_6 : decode cX5_proof 6 = .ok (.invokestatic 85, 3) := by decide +kernel
theorem dX5_proof_9 : decode cX5_proof 9 = .ok (.ifCond .eq 7, 3) := by decide +kernel
theorem dX5_proof_12 : decode cX5_proof 12 = .ok (.iconst 0, 1) := by decide +kernel
theorem dX5_proof_13 : decode cX5_proof 13 = .ok (.goto 4, 3) := by decide +kernel
theorem dX5_proof_16 : decode cX5_proof 16 = .ok (.iconst 1, 1) := by decide +kernel
theorem dX5_proof_17 : decode cX5_proof 17 = .ok (.putfield 73, 3) := by decide +kernel
theorem dX5_proof_20 : decode cX5_proof 20 = .ok (.iconst 0, 1) := by decide +kernel
theorem dX5_proof_21 : decode cX5_proof 21 = .ok (.istore_n 3, 1) := by decide +kernel
theorem dX5_proof_22 : decode cX5_proof 22 = .ok (.iconst 0, 1) := by decide +kernel
theorem dX5_proof_23 : decode cX5_proof 23 = .ok (.istore 4, 2) := by decide +kernel
theorem dX5_proof_25 : decode cX5_proof 25 = .ok (.iload 4, 2) := by decide +kernel
theorem dX5_proof_27 : decode cX5_proof 27 = .ok (.aload_n 0, 1) := by decide +kernel
theorem dX5_proof_28 : decode cX5_proof 28 = .ok (.getfield 76, 3) := by decide +kernel
theorem dX5_proof_31 : decode cX5_proof 31 = .ok (.if_icmp .ge 59, 3) := by decide +kernel
theorem dX5_proof_34 : decode cX5_proof 34 = .ok (.aload_n 0, 1) := by decide +kernel
theorem dX5_proof_35 : decode cX5_proof 35 = .ok (.getfield 73, 3) := by decide +kernel
theorem dX5_proof_38 : decode cX5_proof 38 = .ok (.ifCond .ne 52, 3) := by decide +kernel
theorem dX5_proof_41 : decode cX5_proof 41 = .ok (.aload_n 0, 1) := by decide +kernel
theorem dX5_proof_42 : decode cX5_proof 42 = .ok (.getfield 26, 3) := by decide +kernel
theorem dX5_proof_45 : decode cX5_proof 45 = .ok (.iload 4, 2) := by decide +kernel
theorem dX5_proof_47 : decode cX5_proof 47 = .ok (.baload, 1) := by decide +kernel
theorem dX5_proof_48 : decode cX5_proof 48 = .ok (.ifCond .eq 36, 3) := by decide +kernel
theorem dX5_proof_51 : decode cX5_proof 51 = .ok (.aload_n 0, 1) := by decide +kernel
theorem dX5_proof_52 : decode cX5_proof 52 = .ok (.getfield 30, 3) := by decide +kernel
theorem dX5_proof_55 : decode cX5_proof 55 = .ok (.iload 4, 2) := by decide +kernel
theorem dX5_proof_57 : decode cX5_proof 57 = .ok (.baload, 1) := by decide +kernel
theorem dX5_proof_58 : decode cX5_proof 58 = .ok (.ifCond .ne 26, 3) := by decide +kernel
theorem dX5_proof_61 : decode cX5_proof 61 = .ok (.aload_n 0, 1) := by decide +kernel
theorem dX5_proof_62 : decode cX5_proof 62 = .ok (.getfield 23, 3) := by decide +kernel
theorem dX5_proof_65 : decode cX5_proof 65 = .ok (.iload 4, 2) := by decide +kernel
theorem dX5_proof_67 : decode cX5_proof 67 = .ok (.daload, 1) := by decide +kernel
theorem dX5_proof_68 : decode cX5_proof 68 = .ok (.dload_n 1, 1) := by decide +kernel
theorem dX5_proof_69 : decode cX5_proof 69 = .ok (.dcmp .g, 1) := by decide +kernel
theorem dX5_proof_70 : decode cX5_proof 70 = .ok (.ifCond .ge 14, 3) := by decide +kernel
theorem dX5_proof_73 : decode cX5_proof 73 = .ok (.aload_n 0, 1) := by decide +kernel
theorem dX5_proof_74 : decode cX5_proof 74 = .ok (.getfield 30, 3) := by decide +kernel
theorem dX5_proof_77 : decode cX5_proof 77 = .ok (.iload 4, 2) := by decide +kernel
theorem dX5_proof_79 : decode cX5_proof 79 = .ok (.iconst 1, 1) := by decide +kernel
theorem dX5_proof_80 : decode cX5_proof 80 = .ok (.bastore, 1) := by decide +kernel
theorem dX5_proof_81 : decode cX5_proof 81 = .ok (.iinc 3 1, 3) := by decide +kernel
theorem dX5_proof_84 : decode cX5_proof 84 = .ok (.iinc 4 1, 3) := by decide +kernel
theorem dX5_proof_87 : decode cX5_proof 87 = .ok (.goto (-62), 3) := by decide +kernel
theorem dX5_proof_90 : decode cX5_proof 90 = .ok (.iload_n 3, 1) := by decide +kernel
theorem dX5_proof_91 : decode cX5_proof 91 = .ok (.ireturn, 1) := by decide +kernel
theorem dX5_about_0 : decode cX5_about 0 = .ok (.aload_n 0, 1) := by decide +kernel
theorem dX5_about_1 : decode cX5_about 1 = .ok (.aload_n 0, 1) := by decide +kernel
theorem dX5_about_2 : decode cX5_about 2 = .ok (.iload_n 1, 1) := by decide +kernel
theorem dX5_about_3 : decode cX5_about 3 = .ok (.invokevirtual 79, 3) := by decide +kernel
theorem dX5_about_6 : decode cX5_about 6 = .ok (.ifCond .ne 12, 3) := by decide +kernel
theorem dX5_about_9 : decode cX5_about 9 = .ok (.iload_n 2, 1) := by decide +kernel
theorem dX5_about_10 : decode cX5_about 10 = .ok (.ifCond .lt 8, 3) := by decide +kernel
theorem dX5_about_13 : decode cX5_about 13 = .ok (.iload_n 2, 1) := by decide +kernel
theorem dX5_about_14 : decode cX5_about 14 = .ok (.iconst 3, 1) := by decide +kernel
theorem dX5_about_15 : decode cX5_about 15 = .ok (.if_icmp .le 7, 3) := by decide +kernel
theorem dX5_about_18 : decode cX5_about 18 = .ok (.iconst 1, 1) := by decide +kernel
theorem dX5_about_19 : decode cX5_about 19 = .ok (.goto 4, 3) := by decide +kernel
theorem dX5_about_22 : decode cX5_about 22 = .ok (.iconst 0, 1) := by decide +kernel
theorem dX5_about_23 : decode cX5_about 23 = .ok (.putfield 73, 3) := by decide +kernel
theorem dX5_about_26 : decode cX5_about 26 = .ok (.aload_n 0, 1) := by decide +kernel
theorem dX5_about_27 : decode cX5_about 27 = .ok (.getfield 73, 3) := by decide +kernel
theorem dX5_about_30 : decode cX5_about 30 = .ok (.ifCond .le 5, 3) := by decide +kernel
theorem dX5_about_33 : decode cX5_about 33 = .ok (.iconst 0, 1) := by decide +kernel
theorem dX5_about_34 : decode cX5_about 34 = .ok (.ireturn, 1) := by decide +kernel
theorem dX5_about_35 : decode cX5_about 35 = .ok (.iload_n 2, 1) := by decide +kernel
theorem dX5_about_36 : decode cX5_about 36 = .ok (.ifCond .ne 12, 3) := by decide +kernel
theorem dX5_about_39 : decode cX5_about 39 = .ok (.aload_n 0, 1) := by decide +kernel
theorem dX5_about_40 : decode cX5_about 40 = .ok (.getfield 13, 3) := by decide +kernel
theorem dX5_about_43 : decode cX5_about 43 = .ok (.iload_n 1, 1) := by decide +kernel
theorem dX5_about_44 : decode cX5_about 44 = .ok (.iaload, 1) := by decide +kernel
theorem dX5_about_45 : decode cX5_about 45 = .ok (.goto 60, 3) := by decide +kernel
theorem dX5_about_48 : decode cX5_about 48 = .ok (.iload_n 2, 1) := by decide +kernel
theorem dX5_about_49 : decode cX5_about 49 = .ok (.iconst 1, 1) := by decide +kernel
theorem dX5_about_50 : decode cX5_about 50 = .ok (.if_icmp .ne 19, 3) := by decide +kernel
theorem dX5_about_53 : decode cX5_about 53 = .ok (.aload_n 0, 1) := by decide +kernel
theorem dX5_about_54 : decode cX5_about 54 = .ok (.iload_n 1, 1) := by decide +kernel
theorem dX5_about_55 : decode cX5_about 55 = .ok (.invokevirtual 99, 3) := by decide +kernel
theorem dX5_about_58 : decode cX5_about 58 = .ok (.ifCond .eq 7, 3) := by decide +kernel
theorem dX5_about_61 : decode cX5_about 61 = .ok (.iconst 1, 1) := by decide +kernel
theorem dX5_about_62 : decode cX5_about 62 = .ok (.goto 43, 3) := by decide +kernel
theorem dX5_about_65 : decode cX5_about 65 = .ok (.iconst 0, 1) := by decide +kernel
theorem dX5_about_66 : decode cX5_about 66 = .ok (.goto 39, 3) := by decide +kernel
theorem dX5_about_69 : decode cX5_about 69 = .ok (.iload_n 2, 1) := by decide +kernel
theorem dX5_about_70 : decode cX5_about 70 = .ok (.iconst 2, 1) := by decide +kernel
theorem dX5_about_71 : decode cX5_about 71 = .ok (.if_icmp .ne 20, 3) := by decide +kernel
theorem dX5_about_74 : decode cX5_about 74 = .ok (.aload_n 0, 1) := by decide +kernel
theorem dX5_about_75 : decode cX5_about 75 = .ok (.getfield 26, 3) := by decide +kernel
theorem dX5_about_78 : decode cX5_about 78 = .ok (.iload_n 1, 1) := by decide +kernel
theorem dX5_about_79 : decode cX5_about 79 = .ok (.baload, 1) := by decide +kernel
theorem dX5_about_80 : decode cX5_about 80 = .ok (.ifCond .eq 7, 3) := by decide +kernel
theorem dX5_about_83 : decode cX5_about 83 = .ok (.iconst 1, 1) := by decide +kernel
theorem dX5_about_84 : decode cX5_about 84 = .ok (.goto 21, 3) := by decide +kernel
theorem dX5_about_87 : decode cX5_about 87 = .ok (.iconst 0, 1) := by decide +kernel
theorem dX5_about_88 : decode cX5_about 88 = .ok (.goto 17, 3) := by decide +kernel
theorem dX5_about_91 : decode cX5_about 91 = .ok (.aload_n 0, 1) := by decide +kernel
theorem dX5_about_92 : decode cX5_about 92 = .ok (.getfield 30, 3) := by decide +kernel
theorem dX5_about_95 : decode cX5_about 95 = .ok (.iload_n 1, 1) := by decide +kernel
theorem dX5_about_96 : decode cX5_about 96 = .ok (.baload, 1) := by decide +kernel
theorem dX5_about_97 : decode cX5_about 97 = .ok (.ifCond .eq 7, 3) := by decide +kernel
theorem dX5_about_100 : decode cX5_about 100 = .ok (.iconst 1, 1) := by decide +kernel
theorem dX5_about_101 : decode cX5_about 101 = .ok (.goto 4, 3) := by decide +kernel
theorem dX5_about_104 : decode cX5_about 104 = .ok (.iconst 0, 1) := by decide +kernel
theorem dX5_about_105 : decode cX5_about 105 = .ok (.ireturn, 1) := by decide +kernel
theorem dX5_reference_0 : decode cX5_reference 0 = .ok (.iload_n 1, 1) := by decide +kernel
theorem dX5_reference_1 : decode cX5_reference 1 = .ok (.ifCond .lt 49, 3) := by decide +kernel
theorem dX5_reference_4 : decode cX5_reference 4 = .ok (.iload_n 1, 1) := by decide +kernel
theorem dX5_reference_5 : decode cX5_reference 5 = .ok (.sipush 10000, 3) := by decide +kernel
theorem dX5_reference_8 : decode cX5_reference 8 = .ok (.if_icmp .gt 42, 3) := by decide +kernel
theorem dX5_reference_11 : decode cX5_reference 11 = .ok (.aload_n 0, 1) := by decide +kernel
theorem dX5_reference_12 : decode cX5_reference 12 = .ok (.getfield 128, 3) := by decide +kernel
theorem dX5_reference_15 : decode cX5_reference 15 = .ok (.ifCond .eq 18, 3) := by decide +kernel
theorem dX5_reference_18 : decode cX5_reference 18 = .ok (.iload_n 1, 1) := by decide +kernel
theorem dX5_reference_19 : decode cX5_reference 19 = .ok (.aload_n 0, 1) := by decide +kernel
theorem dX5_reference_20 : decode cX5_reference 20 = .ok (.getfield 63, 3) := by decide +kernel
theorem dX5_reference_23 : decode cX5_reference 23 = .ok (.aload_n 0, 1) := by decide +kernel
theorem dX5_reference_24 : decode cX5_reference 24 = .ok (.getfield 128, 3) := by decide +kernel
theorem dX5_reference_27 : decode cX5_reference 27 = .ok (.iconst 1, 1) := by decide +kernel
theorem dX5_reference_28 : decode cX5_reference 28 = .ok (.isub, 1) := by decide +kernel
theorem dX5_reference_29 : decode cX5_reference 29 = .ok (.iaload, 1) := by decide +kernel
theorem dX5_reference_30 : decode cX5_reference 30 = .ok (.if_icmp .le 20, 3) := by decide +kernel
theorem dX5_reference_33 : decode cX5_reference 33 = .ok (.dload_n 2, 1) := by decide +kernel
theorem dX5_reference_34 : decode cX5_reference 34 = .ok (.ldc2_w 131, 3) := by decide +kernel
theorem dX5_reference_37 : decode cX5_reference 37 = .ok (.ldc2_w 83, 3) := by decide +kernel
theorem dX5_reference_40 : decode cX5_reference 40 = .ok (.invokestatic 85, 3) := by decide +kernel
theorem dX5_reference_43 : decode cX5_reference 43 = .ok (.ifCond .eq 7, 3) := by decide +kernel
theorem dX5_reference_46 : decode cX5_reference 46 = .ok (.iconst 1, 1) := by decide +kernel
theorem dX5_reference_47 : decode cX5_reference 47 = .ok (.goto 4, 3) := by decide +kernel
theorem dX5_reference_50 : decode cX5_reference 50 = .ok (.iconst 0, 1) := by decide +kernel
theorem dX5_reference_51 : decode cX5_reference 51 = .ok (.istore 4, 2) := by decide +kernel
theorem dX5_reference_53 : decode cX5_reference 53 = .ok (.aload_n 0, 1) := by decide +kernel
theorem dX5_reference_54 : decode cX5_reference 54 = .ok (.iload 4, 2) := by decide +kernel
theorem dX5_reference_56 : decode cX5_reference 56 = .ok (.ifCond .ne 7, 3) := by decide +kernel
theorem dX5_reference_59 : decode cX5_reference 59 = .ok (.iconst 1, 1) := by decide +kernel
theorem dX5_reference_60 : decode cX5_reference 60 = .ok (.goto 17, 3) := by decide +kernel
theorem dX5_reference_63 : decode cX5_reference 63 = .ok (.aload_n 0, 1) := by decide +kernel
theorem dX5_reference_64 : decode cX5_reference 64 = .ok (.getfield 128, 3) := by decide +kernel
theorem dX5_reference_67 : decode cX5_reference 67 = .ok (.bipush 16, 2) := by decide +kernel
theorem dX5_reference_69 : decode cX5_reference 69 = .ok (.if_icmp .ne 7, 3) := by decide +kernel
theorem dX5_reference_72 : decode cX5_reference 72 = .ok (.iconst 2, 1) := by decide +kernel
theorem dX5_reference_73 : decode cX5_reference 73 = .ok (.goto 4, 3) := by decide +kernel
theorem dX5_reference_76 : decode cX5_reference 76 = .ok (.iconst 0, 1) := by decide +kernel
theorem dX5_reference_77 : decode cX5_reference 77 = .ok (.putfield 73, 3) := by decide +kernel
theorem dX5_reference_80 : decode cX5_reference 80 = .ok (.aload_n 0, 1) := by decide +kernel
theorem dX5_reference_81 : decode cX5_reference 81 = .ok (.getfield 73, 3) := by decide +kernel
theorem dX5_reference_84 : decode cX5_reference 84 = .ok (.ifCond .le 5, 3) := by decide +kernel
theorem dX5_reference_87 : decode cX5_reference 87 = .ok (.iconst 0, 1) := by decide +kernel
theorem dX5_reference_88 : decode cX5_reference 88 = .ok (.ireturn, 1) := by decide +kernel
theorem dX5_reference_89 : decode cX5_reference 89 = .ok (.aload_n 0, 1) := by decide +kernel
theorem dX5_reference_90 : decode cX5_reference 90 = .ok (.getfield 63, 3) := by decide +kernel
theorem dX5_reference_93 : decode cX5_reference 93 = .ok (.aload_n 0, 1) := by decide +kernel
theorem dX5_reference_94 : decode cX5_reference 94 = .ok (.getfield 128, 3) := by decide +kernel
theorem dX5_reference_97 : decode cX5_reference 97 = .ok (.iload_n 1, 1) := by decide +kernel
theorem dX5_reference_98 : decode cX5_reference 98 = .ok (.iastore, 1) := by decide +kernel
theorem dX5_reference_99 : decode cX5_reference 99 = .ok (.aload_n 0, 1) := by decide +kernel
theorem dX5_reference_100 : decode cX5_reference 100 = .ok (.getfield 66, 3) := by decide +kernel
theorem dX5_reference_103 : decode cX5_reference 103 = .ok (.aload_n 0, 1) := by decide +kernel
theorem dX5_reference_104 : decode cX5_reference 104 = .ok (.getfield 128, 3) := by decide +kernel
theorem dX5_reference_107 : decode cX5_reference 107 = .ok (.dload_n 2, 1) := by decide +kernel
theorem dX5_reference_108 : decode cX5_reference 108 = .ok (.dastore, 1) := by decide +kernel
theorem dX5_reference_109 : decode cX5_reference 109 = .ok (.aload_n 0, 1) := by decide +kernel
theorem dX5_reference_110 : decode cX5_reference 110 = .ok (.dup, 1) := by decide +kernel
theorem dX5_reference_111 : decode cX5_reference 111 = .ok (.getfield 128, 3) := by decide +kernel
theorem dX5_reference_114 : decode cX5_reference 114 = .ok (.iconst 1, 1) := by decide +kernel
theorem dX5_reference_115 : decode cX5_reference 115 = .ok (.iadd, 1) := by decide +kernel
theorem dX5_reference_116 : decode cX5_reference 116 = .ok (.putfield 128, 3) := by decide +kernel
theorem dX5_reference_119 : decode cX5_reference 119 = .ok (.aload_n 0, 1) := by decide +kernel
theorem dX5_reference_120 : decode cX5_reference 120 = .ok (.getfield 128, 3) := by decide +kernel
theorem dX5_reference_123 : decode cX5_reference 123 = .ok (.ireturn, 1) := by decide +kernel
theorem dX5_drift_0 : decode cX5_drift 0 = .ok (.aload_n 0, 1) := by decide +kernel
theorem dX5_drift_1 : decode cX5_drift 1 = .ok (.iload_n 1, 1) := by decide +kernel
theorem dX5_drift_2 : decode cX5_drift 2 = .ok (.ifCond .lt 14, 3) := by decide +kernel
theorem dX5_drift_5 : decode cX5_drift 5 = .ok (.iload_n 1, 1) := by decide +kernel
theorem dX5_drift_6 : decode cX5_drift 6 = .ok (.sipush 10000, 3) := by decide +kernel
theorem dX5_drift_9 : decode cX5_drift 9 = .ok (.if_icmp .gt 7, 3) := by decide +kernel
theorem dX5_drift_12 : decode cX5_drift 12 = .ok (.iconst 0, 1) := by decide +kernel
theorem dX5_drift_13 : decode cX5_drift 13 = .ok (.goto 4, 3) := by decide +kernel
theorem dX5_drift_16 : decode cX5_drift 16 = .ok (.iconst 1, 1) := by decide +kernel
theorem dX5_drift_17 : decode cX5_drift 17 = .ok (.putfield 73, 3) := by decide +kernel
theorem dX5_drift_20 : decode cX5_drift 20 = .ok (.aload_n 0, 1) := by decide +kernel
theorem dX5_drift_21 : decode cX5_drift 21 = .ok (.getfield 73, 3) := by decide +kernel
theorem dX5_drift_24 : decode cX5_drift 24 = .ok (.ifCond .gt 10, 3) := by decide +kernel
theorem dX5_drift_27 : decode cX5_drift 27 = .ok (.aload_n 0, 1) := by decide +kernel
theorem dX5_drift_28 : decode cX5_drift 28 = .ok (.getfield 128, 3) := by decide +kernel
theorem dX5_drift_31 : decode cX5_drift 31 = .ok (.ifCond .ne 5, 3) := by decide +kernel
theorem dX5_drift_34 : decode cX5_drift 34 = .ok (.dconst 0, 1) := by decide +kernel
theorem dX5_drift_35 : decode cX5_drift 35 = .ok (.dreturn, 1) := by decide +kernel
theorem dX5_drift_36 : decode cX5_drift 36 = .ok (.iload_n 1, 1) := by decide +kernel
theorem dX5_drift_37 : decode cX5_drift 37 = .ok (.aload_n 0, 1) := by decide +kernel
theorem dX5_drift_38 : decode cX5_drift 38 = .ok (.getfield 63, 3) := by decide +kernel
theorem dX5_drift_41 : decode cX5_drift 41 = .ok (.iconst 0, 1) := by decide +kernel
theorem dX5_drift_42 : decode cX5_drift 42 = .ok (.iaload, 1) := by decide +kernel
theorem dX5_drift_43 : decode cX5_drift 43 = .ok (.if_icmp .gt 10, 3) := by decide +kernel
theorem dX5_drift_46 : decode cX5_drift 46 = .ok (.aload_n 0, 1) := by decide +kernel
theorem dX5_drift_47 : decode cX5_drift 47 = .ok (.getfield 66, 3) := by decide +kernel
theorem dX5_drift_50 : decode cX5_drift 50 = .ok (.iconst 0, 1) := by decide +kernel
theorem dX5_drift_51 : decode cX5_drift 51 = .ok (.daload, 1) := by decide +kernel
theorem dX5_drift_52 : decode cX5_drift 52 = .ok (.dreturn, 1) := by decide +kernel
theorem dX5_drift_53 : decode cX5_drift 53 = .ok (.iconst 0, 1) := by decide +kernel
theorem dX5_drift_54 : decode cX5_drift 54 = .ok (.istore_n 2, 1) := by decide +kernel
theorem dX5_drift_55 : decode cX5_drift 55 = .ok (.iload_n 2, 1) := by decide +kernel
theorem dX5_drift_56 : decode cX5_drift 56 = .ok (.iconst 1, 1) := by decide +kernel
theorem dX5_drift_57 : decode cX5_drift 57 = .ok (.iadd, 1) := by decide +kernel
theorem dX5_drift_58 : decode cX5_drift 58 = .ok (.aload_n 0, 1) := by decide +kernel
theorem dX5_drift_59 : decode cX5_drift 59 = .ok (.getfield 128, 3) := by decide +kernel
theorem dX5_drift_62 : decode cX5_drift 62 = .ok (.if_icmp .ge 21, 3) := by decide +kernel
theorem dX5_drift_65 : decode cX5_drift 65 = .ok (.aload_n 0, 1) := by decide +kernel
theorem dX5_drift_66 : decode cX5_drift 66 = .ok (.getfield 63, 3) := by decide +kernel
theorem dX5_drift_69 : decode cX5_drift 69 = .ok (.iload_n 2, 1) := by decide +kernel
theorem dX5_drift_70 : decode cX5_drift 70 = .ok (.iconst 1, 1) := by decide +kernel
theorem dX5_drift_71 : decode cX5_drift 71 = .ok (.iadd, 1) := by decide +kernel
theorem dX5_drift_72 : decode cX5_drift 72 = .ok (.iaload, 1) := by decide +kernel
theorem dX5_drift_73 : decode cX5_drift 73 = .ok (.iload_n 1, 1) := by decide +kernel
theorem dX5_drift_74 : decode cX5_drift 74 = .ok (.if_icmp .gt 9, 3) := by decide +kernel
theorem dX5_drift_77 : decode cX5_drift 77 = .ok (.iinc 2 1, 3) := by decide +kernel
theorem dX5_drift_80 : decode cX5_drift 80 = .ok (.goto (-25), 3) := by decide +kernel
theorem dX5_drift_83 : decode cX5_drift 83 = .ok (.iload_n 2, 1) := by decide +kernel
theorem dX5_drift_84 : decode cX5_drift 84 = .ok (.iconst 1, 1) := by decide +kernel
theorem dX5_drift_85 : decode cX5_drift 85 = .ok (.iadd, 1) := by decide +kernel
theorem dX5_drift_86 : decode cX5_drift 86 = .ok (.aload_n 0, 1) := by decide +kernel
theorem dX5_drift_87 : decode cX5_drift 87 = .ok (.getfield 128, 3) := by decide +kernel
theorem dX5_drift_90 : decode cX5_drift 90 = .ok (.if_icmp .ne 10, 3) := by decide +kernel
theorem dX5_drift_93 : decode cX5_drift 93 = .ok (.aload_n 0, 1) := by decide +kernel
theorem dX5_drift_94 : decode cX5_drift 94 = .ok (.getfield 66, 3) := by decide +kernel
theorem dX5_drift_97 : decode cX5_drift 97 = .ok (.iload_n 2, 1) := by decide +kernel
theorem dX5_drift_98 : decode cX5_drift 98 = .ok (.daload, 1) := by decide +kernel
theorem dX5_drift_99 : decode cX5_drift 99 = .ok (.dreturn, 1) := by decide +kernel
theorem dX5_drift_100 : decode cX5_drift 100 = .ok (.aload_n 0, 1) := by decide +kernel
theorem dX5_drift_101 : decode cX5_drift 101 = .ok (.getfield 66, 3) := by decide +kernel
theorem dX5_drift_104 : decode cX5_drift 104 = .ok (.iload_n 2, 1) := by decide +kernel
theorem dX5_drift_105 : decode cX5_drift 105 = .ok (.daload, 1) := by decide +kernel
theorem dX5_drift_106 : decode cX5_drift 106 = .ok (.iload_n 1, 1) := by decide +kernel
theorem dX5_drift_107 : decode cX5_drift 107 = .ok (.aload_n 0, 1) := by decide +kernel
theorem dX5_drift_108 : decode cX5_drift 108 = .ok (.getfield 63, 3) := by decide +kernel
theorem dX5_drift_111 : decode cX5_drift 111 = .ok (.iload_n 2, 1) := by decide +kernel
theorem dX5_drift_112 : decode cX5_drift 112 = .ok (.iaload, 1) := by decide +kernel
theorem dX5_drift_113 : decode cX5_drift 113 = .ok (.isub, 1) := by decide +kernel
theorem dX5_drift_114 : decode cX5_drift 114 = .ok (.i2d, 1) := by decide +kernel
theorem dX5_drift_115 : decode cX5_drift 115 = .ok (.aload_n 0, 1) := by decide +kernel
theorem dX5_drift_116 : decode cX5_drift 116 = .ok (.getfield 66, 3) := by decide +kernel
theorem dX5_drift_119 : decode cX5_drift 119 = .ok (.iload_n 2, 1) := by decide +kernel
theorem dX5_drift_120 : decode cX5_drift 120 = .ok (.iconst 1, 1) := by decide +kernel
theorem dX5_drift_121 : decode cX5_drift 121 = .ok (.iadd, 1) := by decide +kernel
theorem dX5_drift_122 : decode cX5_drift 122 = .ok (.daload, 1) := by decide +kernel
theorem dX5_drift_123 : decode cX5_drift 123 = .ok (.aload_n 0, 1) := by decide +kernel
theorem dX5_drift_124 : decode cX5_drift 124 = .ok (.getfield 66, 3) := by decide +kernel
theorem dX5_drift_127 : decode cX5_drift 127 = .ok (.iload_n 2, 1) := by decide +kernel
theorem dX5_drift_128 : decode cX5_drift 128 = .ok (.daload, 1) := by decide +kernel
theorem dX5_drift_129 : decode cX5_drift 129 = .ok (.dsub, 1) := by decide +kernel
theorem dX5_drift_130 : decode cX5_drift 130 = .ok (.dmul, 1) := by decide +kernel
theorem dX5_drift_131 : decode cX5_drift 131 = .ok (.aload_n 0, 1) := by decide +kernel
theorem dX5_drift_132 : decode cX5_drift 132 = .ok (.getfield 63, 3) := by decide +kernel
theorem dX5_drift_135 : decode cX5_drift 135 = .ok (.iload_n 2, 1) := by decide +kernel
theorem dX5_drift_136 : decode cX5_drift 136 = .ok (.iconst 1, 1) := by decide +kernel
theorem dX5_drift_137 : decode cX5_drift 137 = .ok (.iadd, 1) := by decide +kernel
theorem dX5_drift_138 : decode cX5_drift 138 = .ok (.iaload, 1) := by decide +kernel
theorem dX5_drift_139 : decode cX5_drift 139 = .ok (.aload_n 0, 1) := by decide +kernel
theorem dX5_drift_140 : decode cX5_drift 140 = .ok (.getfield 63, 3) := by decide +kernel
theorem dX5_drift_143 : decode cX5_drift 143 = .ok (.iload_n 2, 1) := by decide +kernel
theorem dX5_drift_144 : decode cX5_drift 144 = .ok (.iaload, 1) := by decide +kernel
theorem dX5_drift_145 : decode cX5_drift 145 = .ok (.isub, 1) := by decide +kernel
theorem dX5_drift_146 : decode cX5_drift 146 = .ok (.i2d, 1) := by decide +kernel
theorem dX5_drift_147 : decode cX5_drift 147 = .ok (.ddiv, 1) := by decide +kernel
theorem dX5_drift_148 : decode cX5_drift 148 = .ok (.dadd, 1) := by decide +kernel
theorem dX5_drift_149 : decode cX5_drift 149 = .ok (.dreturn, 1) := by decide +kernel
theorem dX5_drawn_0 : decode cX5_drawn 0 = .ok (.aload_n 0, 1) := by decide +kernel
theorem dX5_drawn_1 : decode cX5_drawn 1 = .ok (.iload_n 1, 1) := by decide +kernel
theorem dX5_drawn_2 : decode cX5_drawn 2 = .ok (.ifCond .ge 7, 3) := by decide +kernel
theorem dX5_drawn_5 : decode cX5_drawn 5 = .ok (.iconst 1, 1) := by decide +kernel
theorem dX5_drawn_6 : decode cX5_drawn 6 = .ok (.goto 4, 3) := by decide +kernel
theorem dX5_drawn_9 : decode cX5_drawn 9 = .ok (.iconst 0, 1) := by decide +kernel
theorem dX5_drawn_10 : decode cX5_drawn 10 = .ok (.putfield 73, 3) := by decide +kernel
theorem dX5_drawn_13 : decode cX5_drawn 13 = .ok (.aload_n 0, 1) := by decide +kernel
theorem dX5_drawn_14 : decode cX5_drawn 14 = .ok (.getfield 73, 3) := by decide +kernel
theorem dX5_drawn_17 : decode cX5_drawn 17 = .ok (.ifCond .le 5, 3) := by decide +kernel
theorem dX5_drawn_20 : decode cX5_drawn 20 = .ok (.dconst 0, 1) := by decide +kernel
theorem dX5_drawn_21 : decode cX5_drawn 21 = .ok (.dreturn, 1) := by decide +kernel
theorem dX5_drawn_22 : decode cX5_drawn 22 = .ok (.aload_n 0, 1) := by decide +kernel
theorem dX5_drawn_23 : decode cX5_drawn 23 = .ok (.getfield 69, 3) := by decide +kernel
theorem dX5_drawn_26 : decode cX5_drawn 26 = .ok (.iload_n 1, 1) := by decide +kernel
theorem dX5_drawn_27 : decode cX5_drawn 27 = .ok (.i2l, 1) := by decide +kernel
theorem dX5_drawn_28 : decode cX5_drawn 28 = .ok (.lconst 1, 1) := by decide +kernel
theorem dX5_drawn_29 : decode cX5_drawn 29 = .ok (.ladd, 1) := by decide +kernel
theorem dX5_drawn_30 : decode cX5_drawn 30 = .ok (.ldc2_w 133, 3) := by decide +kernel
theorem dX5_drawn_33 : decode cX5_drawn 33 = .ok (.lmul, 1) := by decide +kernel
theorem dX5_drawn_34 : decode cX5_drawn 34 = .ok (.ladd, 1) := by decide +kernel
theorem dX5_drawn_35 : decode cX5_drawn 35 = .ok (.lstore_n 2, 1) := by decide +kernel
theorem dX5_drawn_36 : decode cX5_drawn 36 = .ok (.lload_n 2, 1) := by decide +kernel
theorem dX5_drawn_37 : decode cX5_drawn 37 = .ok (.lload_n 2, 1) := by decide +kernel
theorem dX5_drawn_38 : decode cX5_drawn 38 = .ok (.bipush 30, 2) := by decide +kernel
theorem dX5_drawn_40 : decode cX5_drawn 40 = .ok (.lushr, 1) := by decide +kernel
theorem dX5_drawn_41 : decode cX5_drawn 41 = .ok (.lxor, 1) := by decide +kernel
theorem dX5_drawn_42 : decode cX5_drawn 42 = .ok (.ldc2_w 135, 3) := by decide +kernel
theorem dX5_drawn_45 : decode cX5_drawn 45 = .ok (.lmul, 1) := by decide +kernel
theorem dX5_drawn_46 : decode cX5_drawn 46 = .ok (.lstore_n 2, 1) := by decide +kernel
theorem dX5_drawn_47 : decode cX5_drawn 47 = .ok (.lload_n 2, 1) := by decide +kernel
theorem dX5_drawn_48 : decode cX5_drawn 48 = .ok (.lload_n 2, 1) := by decide +kernel
theorem dX5_drawn_49 : decode cX5_drawn 49 = .ok (.bipush 27, 2) := by decide +kernel
theorem dX5_drawn_51 : decode cX5_drawn 51 = .ok (.lushr, 1) := by decide +kernel
theorem dX5_drawn_52 : decode cX5_drawn 52 = .ok (.lxor, 1) := by decide +kernel
theorem dX5_drawn_53 : decode cX5_drawn 53 = .ok (.ldc2_w 137, 3) := by decide +kernel
theorem dX5_drawn_56 : decode cX5_drawn 56 = .ok (.lmul, 1) := by decide +kernel
theorem dX5_drawn_57 : decode cX5_drawn 57 = .ok (.lstore_n 2, 1) := by decide +kernel
theorem dX5_drawn_58 : decode cX5_drawn 58 = .ok (.lload_n 2, 1) := by decide +kernel
theorem dX5_drawn_59 : decode cX5_drawn 59 = .ok (.lload_n 2, 1) := by decide +kernel
theorem dX5_drawn_60 : decode cX5_drawn 60 = .ok (.bipush 31, 2) := by decide +kernel
theorem dX5_drawn_62 : decode cX5_drawn 62 = .ok (.lushr, 1) := by decide +kernel
theorem dX5_drawn_63 : decode cX5_drawn 63 = .ok (.lxor, 1) := by decide +kernel
theorem dX5_drawn_64 : decode cX5_drawn 64 = .ok (.lstore_n 2, 1) := by decide +kernel
theorem dX5_drawn_65 : decode cX5_drawn 65 = .ok (.lload_n 2, 1) := by decide +kernel
theorem dX5_drawn_66 : decode cX5_drawn 66 = .ok (.bipush 44, 2) := by decide +kernel
theorem dX5_drawn_68 : decode cX5_drawn 68 = .ok (.lushr, 1) := by decide +kernel
theorem dX5_drawn_69 : decode cX5_drawn 69 = .ok (.l2d, 1) := by decide +kernel
theorem dX5_drawn_70 : decode cX5_drawn 70 = .ok (.ldc2_w 139, 3) := by decide +kernel
theorem dX5_drawn_73 : decode cX5_drawn 73 = .ok (.ddiv, 1) := by decide +kernel
theorem dX5_drawn_74 : decode cX5_drawn 74 = .ok (.dreturn, 1) := by decide +kernel
theorem dJ6_bitCount_0f7a4_0 : decode cJ6_bitCount_0f7a4 0 = .ok (.iload_n 0, 1) := by decide +kernel
theorem dJ6_bitCount_0f7a4_1 : decode cJ6_bitCount_0f7a4 1 = .ok (.iload_n 0, 1) := by decide +kernel
theorem dJ6_bitCount_0f7a4_2 : decode cJ6_bitCount_0f7a4 2 = .ok (.iconst 1, 1) := by decide +kernel
theorem dJ6_bitCount_0f7a4_3 : decode cJ6_bitCount_0f7a4 3 = .ok (.iushr, 1) := by decide +kernel
theorem dJ6_bitCount_0f7a4_4 : decode cJ6_bitCount_0f7a4 4 = .ok (.ldc_w 265, 3) := by decide +kernel
theorem dJ6_bitCount_0f7a4_7 : decode cJ6_bitCount_0f7a4 7 = .ok (.iand, 1) := by decide +kernel
theorem dJ6_bitCount_0f7a4_8 : decode cJ6_bitCount_0f7a4 8 = .ok (.isub, 1) := by decide +kernel
theorem dJ6_bitCount_0f7a4_9 : decode cJ6_bitCount_0f7a4 9 = .ok (.istore_n 0, 1) := by decide +kernel
theorem dJ6_bitCount_0f7a4_10 : decode cJ6_bitCount_0f7a4 10 = .ok (.iload_n 0, 1) := by decide +kernel
theorem dJ6_bitCount_0f7a4_11 : decode cJ6_bitCount_0f7a4 11 = .ok (.ldc_w 266, 3) := by decide +kernel
theorem dJ6_bitCount_0f7a4_14 : decode cJ6_bitCount_0f7a4 14 = .ok (.iand, 1) := by decide +kernel
theorem dJ6_bitCount_0f7a4_15 : decode cJ6_bitCount_0f7a4 15 = .ok (.iload_n 0, 1) := by decide +kernel
theorem dJ6_bitCount_0f7a4_16 : decode cJ6_bitCount_0f7a4 16 = .ok (.iconst 2, 1) := by decide +kernel
theorem dJ6_bitCount_0f7a4_17 : decode cJ6_bitCount_0f7a4 17 = .ok (.iushr, 1) := by decide +kernel
theorem dJ6_bitCount_0f7a4_18 : decode cJ6_bitCount_0f7a4 18 = .ok (.ldc_w 266, 3) := by decide +kernel
theorem dJ6_bitCount_0f7a4_21 : decode cJ6_bitCount_0f7a4 21 = .ok (.iand, 1) := by decide +kernel
theorem dJ6_bitCount_0f7a4_22 : decode cJ6_bitCount_0f7a4 22 = .ok (.iadd, 1) := by decide +kernel
theorem dJ6_bitCount_0f7a4_23 : decode cJ6_bitCount_0f7a4 23 = .ok (.istore_n 0, 1) := by decide +kernel
theorem dJ6_bitCount_0f7a4_24 : decode cJ6_bitCount_0f7a4 24 = .ok (.iload_n 0, 1) := by decide +kernel
theorem dJ6_bitCount_0f7a4_25 : decode cJ6_bitCount_0f7a4 25 = .ok (.iload_n 0, 1) := by decide +kernel
theorem dJ6_bitCount_0f7a4_26 : decode cJ6_bitCount_0f7a4 26 = .ok (.iconst 4, 1) := by decide +kernel
theorem dJ6_bitCount_0f7a4_27 : decode cJ6_bitCount_0f7a4 27 = .ok (.iushr, 1) := by decide +kernel
theorem dJ6_bitCount_0f7a4_28 : decode cJ6_bitCount_0f7a4 28 = .ok (.iadd, 1) := by decide +kernel
theorem dJ6_bitCount_0f7a4_29 : decode cJ6_bitCount_0f7a4 29 = .ok (.ldc_w 267, 3) := by decide +kernel
theorem dJ6_bitCount_0f7a4_32 : decode cJ6_bitCount_0f7a4 32 = .ok (.iand, 1) := by decide +kernel
theorem dJ6_bitCount_0f7a4_33 : decode cJ6_bitCount_0f7a4 33 = .ok (.istore_n 0, 1) := by decide +kernel
theorem dJ6_bitCount_0f7a4_34 : decode cJ6_bitCount_0f7a4 34 = .ok (.iload_n 0, 1) := by decide +kernel
theorem dJ6_bitCount_0f7a4_35 : decode cJ6_bitCount_0f7a4 35 = .ok (.iload_n 0, 1) := by decide +kernel
theorem dJ6_bitCount_0f7a4_36 : decode cJ6_bitCount_0f7a4 36 = .ok (.bipush 8, 2) := by decide +kernel
theorem dJ6_bitCount_0f7a4_38 : decode cJ6_bitCount_0f7a4 38 = .ok (.iushr, 1) := by decide +kernel
theorem dJ6_bitCount_0f7a4_39 : decode cJ6_bitCount_0f7a4 39 = .ok (.iadd, 1) := by decide +kernel
theorem dJ6_bitCount_0f7a4_40 : decode cJ6_bitCount_0f7a4 40 = .ok (.istore_n 0, 1) := by decide +kernel
theorem dJ6_bitCount_0f7a4_41 : decode cJ6_bitCount_0f7a4 41 = .ok (.iload_n 0, 1) := by decide +kernel
theorem dJ6_bitCount_0f7a4_42 : decode cJ6_bitCount_0f7a4 42 = .ok (.iload_n 0, 1) := by decide +kernel
theorem dJ6_bitCount_0f7a4_43 : decode cJ6_bitCount_0f7a4 43 = .ok (.bipush 16, 2) := by decide +kernel
theorem dJ6_bitCount_0f7a4_45 : decode cJ6_bitCount_0f7a4 45 = .ok (.iushr, 1) := by decide +kernel
theorem dJ6_bitCount_0f7a4_46 : decode cJ6_bitCount_0f7a4 46 = .ok (.iadd, 1) := by decide +kernel
theorem dJ6_bitCount_0f7a4_47 : decode cJ6_bitCount_0f7a4 47 = .ok (.istore_n 0, 1) := by decide +kernel
theorem dJ6_bitCount_0f7a4_48 : decode cJ6_bitCount_0f7a4 48 = .ok (.iload_n 0, 1) := by decide +kernel
theorem dJ6_bitCount_0f7a4_49 : decode cJ6_bitCount_0f7a4 49 = .ok (.bipush 63, 2) := by decide +kernel
theorem dJ6_bitCount_0f7a4_51 : decode cJ6_bitCount_0f7a4 51 = .ok (.iand, 1) := by decide +kernel
theorem dJ6_bitCount_0f7a4_52 : decode cJ6_bitCount_0f7a4 52 = .ok (.ireturn, 1) := by decide +kernel
theorem dL_cell_0 : decode cL_cell 0 = .ok (.iload_n 1, 1) := by decide +kernel
theorem dL_cell_1 : decode cL_cell 1 = .ok (.aload_n 0, 1) := by decide +kernel
theorem dL_cell_2 : decode cL_cell 2 = .ok (.arraylength, 1) := by decide +kernel
theorem dL_cell_3 : decode cL_cell 3 = .ok (.if_icmp .ge 9, 3) := by decide +kernel
theorem dL_cell_6 : decode cL_cell 6 = .ok (.aload_n 0, 1) := by decide +kernel
theorem dL_cell_7 : decode cL_cell 7 = .ok (.iload_n 1, 1) := by decide +kernel
theorem dL_cell_8 : decode cL_cell 8 = .ok (.iaload, 1) := by decide +kernel
theorem dL_cell_9 : decode cL_cell 9 = .ok (.goto 4, 3) := by decide +kernel
theorem dL_cell_12 : decode cL_cell 12 = .ok (.iconst 0, 1) := by decide +kernel
theorem dL_cell_13 : decode cL_cell 13 = .ok (.ireturn, 1) := by decide +kernel
theorem dL_board_0 : decode cL_board 0 = .ok (.aload_n 1, 1) := by decide +kernel
theorem dL_board_1 : decode cL_board 1 = .ok (.iconst 0, 1) := by decide +kernel
theorem dL_board_2 : decode cL_board 2 = .ok (.aload_n 0, 1) := by decide +kernel
theorem dL_board_3 : decode cL_board 3 = .ok (.invokevirtual 7, 3) := by decide +kernel
theorem dL_board_6 : decode cL_board 6 = .ok (.i2l, 1) := by decide +kernel
theorem dL_board_7 : decode cL_board 7 = .ok (.lastore, 1) := by decide +kernel
theorem dL_board_8 : decode cL_board 8 = .ok (.goto 6, 3) := by decide +kernel
theorem dL_board_11 : decode cL_board 11 = .ok (.astore_n 2, 1) := by decide +kernel
theorem dL_board_12 : decode cL_board 12 = .ok (.iconst 1, 1) := by decide +kernel
theorem dL_board_13 : decode cL_board 13 = .ok (.ireturn, 1) := by decide +kernel
theorem dL_board_14 : decode cL_board 14 = .ok (.iconst 0, 1) := by decide +kernel
theorem dL_board_15 : decode cL_board 15 = .ok (.ireturn, 1) := by decide +kernel
theorem dL_row_0 : decode cL_row 0 = .ok (.aload 4, 2) := by decide +kernel
theorem dL_row_2 : decode cL_row 2 = .ok (.iconst 0, 1) := by decide +kernel
theorem dL_row_3 : decode cL_row 3 = .ok (.aload_n 0, 1) := by decide +kernel
theorem dL_row_4 : decode cL_row 4 = .ok (.iload_n 1, 1) := by decide +kernel
theorem dL_row_5 : decode cL_row 5 = .ok (.dload_n 2, 1) := by decide +kernel
theorem dL_row_6 : decode cL_row 6 = .ok (.invokevirtual 15, 3) := by decide +kernel
theorem dL_row_9 : decode cL_row 9 = .ok (.i2l, 1) := by decide +kernel
theorem dL_row_10 : decode cL_row 10 = .ok (.lastore, 1) := by decide +kernel
theorem dL_row_11 : decode cL_row 11 = .ok (.goto 15, 3) := by decide +kernel
theorem dL_row_14 : decode cL_row 14 = .ok (.astore 5, 2) := by decide +kernel
theorem dL_row_16 : decode cL_row 16 = .ok (.iconst 1, 1) := by decide +kernel
theorem dL_row_17 : decode cL_row 17 = .ok (.ireturn, 1) := by decide +kernel
theorem dL_row_18 : decode cL_row 18 = .ok (.astore 5, 2) := by decide +kernel
theorem dL_row_20 : decode cL_row 20 = .ok (.iconst 2, 1) := by decide +kernel
theorem dL_row_21 : decode cL_row 21 = .ok (.ireturn, 1) := by decide +kernel
theorem dL_row_22 : decode cL_row 22 = .ok (.astore 5, 2) := by decide +kernel
theorem dL_row_24 : decode cL_row 24 = .ok (.iconst 3, 1) := by decide +kernel
theorem dL_row_25 : decode cL_row 25 = .ok (.ireturn, 1) := by decide +kernel
theorem dL_row_26 : decode cL_row 26 = .ok (.iconst 0, 1) := by decide +kernel
theorem dL_row_27 : decode cL_row 27 = .ok (.ireturn, 1) := by decide +kernel
theorem dL_echo_0 : decode cL_echo 0 = .ok (.aload_n 0, 1) := by decide +kernel
theorem dL_echo_1 : decode cL_echo 1 = .ok (.iload_n 1, 1) := by decide +kernel
theorem dL_echo_2 : decode cL_echo 2 = .ok (.dload_n 2, 1) := by decide +kernel
theorem dL_echo_3 : decode cL_echo 3 = .ok (.dload 4, 2) := by decide +kernel
theorem dL_echo_5 : decode cL_echo 5 = .ok (.invokevirtual 23, 3) := by decide +kernel
theorem dL_echo_8 : decode cL_echo 8 = .ok (.goto 11, 3) := by decide +kernel
theorem dL_echo_11 : decode cL_echo 11 = .ok (.astore 6, 2) := by decide +kernel
theorem dL_echo_13 : decode cL_echo 13 = .ok (.iconst 1, 1) := by decide +kernel
theorem dL_echo_14 : decode cL_echo 14 = .ok (.ireturn, 1) := by decide +kernel
theorem dL_echo_15 : decode cL_echo 15 = .ok (.astore 6, 2) := by decide +kernel
theorem dL_echo_17 : decode cL_echo 17 = .ok (.iconst 2, 1) := by decide +kernel
theorem dL_echo_18 : decode cL_echo 18 = .ok (.ireturn, 1) := by decide +kernel
theorem dL_echo_19 : decode cL_echo 19 = .ok (.iconst 0, 1) := by decide +kernel
theorem dL_echo_20 : decode cL_echo 20 = .ok (.ireturn, 1) := by decide +kernel
theorem dL_knots_0 : decode cL_knots 0 = .ok (.aload_n 0, 1) := by decide +kernel
theorem dL_knots_1 : decode cL_knots 1 = .ok (.iload_n 1, 1) := by decide +kernel
theorem dL_knots_2 : decode cL_knots 2 = .ok (.dload_n 2, 1) := by decide +kernel
theorem dL_knots_3 : decode cL_knots 3 = .ok (.invokevirtual 27, 3) := by decide +kernel
theorem dL_knots_6 : decode cL_knots 6 = .ok (.goto 11, 3) := by decide +kernel
theorem dL_knots_9 : decode cL_knots 9 = .ok (.astore 4, 2) := by decide +kernel
theorem dL_knots_11 : decode cL_knots 11 = .ok (.iconst 1, 1) := by decide +kernel
theorem dL_knots_12 : decode cL_knots 12 = .ok (.ireturn, 1) := by decide +kernel
theorem dL_knots_13 : decode cL_knots 13 = .ok (.astore 4, 2) := by decide +kernel
theorem dL_knots_15 : decode cL_knots 15 = .ok (.iconst 2, 1) := by decide +kernel
theorem dL_knots_16 : decode cL_knots 16 = .ok (.ireturn, 1) := by decide +kernel
theorem dL_knots_17 : decode cL_knots 17 = .ok (.iconst 0, 1) := by decide +kernel
theorem dL_knots_18 : decode cL_knots 18 = .ok (.ireturn, 1) := by decide +kernel
theorem dL_broken_0 : decode cL_broken 0 = .ok (.aload_n 0, 1) := by decide +kernel
theorem dL_broken_1 : decode cL_broken 1 = .ok (.iload_n 1, 1) := by decide +kernel
theorem dL_broken_2 : decode cL_broken 2 = .ok (.dload_n 2, 1) := by decide +kernel
theorem dL_broken_3 : decode cL_broken 3 = .ok (.invokevirtual 31, 3) := by decide +kernel
theorem dL_broken_6 : decode cL_broken 6 = .ok (.goto 15, 3) := by decide +kernel
theorem dL_broken_9 : decode cL_broken 9 = .ok (.astore 4, 2) := by decide +kernel
theorem dL_broken_11 : decode cL_broken 11 = .ok (.iconst 1, 1) := by decide +kernel
theorem dL_broken_12 : decode cL_broken 12 = .ok (.ireturn, 1) := by decide +kernel
theorem dL_broken_13 : decode cL_broken 13 = .ok (.astore 4, 2) := by decide +kernel
theorem dL_broken_15 : decode cL_broken 15 = .ok (.iconst 2, 1) := by decide +kernel
theorem dL_broken_16 : decode cL_broken 16 = .ok (.ireturn, 1) := by decide +kernel
theorem dL_broken_17 : decode cL_broken 17 = .ok (.astore 4, 2) := by decide +kernel
theorem dL_broken_19 : decode cL_broken 19 = .ok (.iconst 3, 1) := by decide +kernel
theorem dL_broken_20 : decode cL_broken 20 = .ok (.ireturn, 1) := by decide +kernel
theorem dL_broken_21 : decode cL_broken 21 = .ok (.iconst 0, 1) := by decide +kernel
theorem dL_broken_22 : decode cL_broken 22 = .ok (.ireturn, 1) := by decide +kernel
theorem dL_number_0 : decode cL_number 0 = .ok (.aload_n 2, 1) := by decide +kernel
theorem dL_number_1 : decode cL_number 1 = .ok (.iconst 0, 1) := by decide +kernel
theorem dL_number_2 : decode cL_number 2 = .ok (.aload_n 0, 1) := by decide +kernel
theorem dL_number_3 : decode cL_number 3 = .ok (.iload_n 1, 1) := by decide +kernel
theorem dL_number_4 : decode cL_number 4 = .ok (.invokevirtual 34, 3) := by decide +kernel
theorem dL_number_7 : decode cL_number 7 = .ok (.dastore, 1) := by decide +kernel
theorem dL_number_8 : decode cL_number 8 = .ok (.goto 6, 3) := by decide +kernel
theorem dL_number_11 : decode cL_number 11 = .ok (.astore_n 3, 1) := by decide +kernel
theorem dL_number_12 : decode cL_number 12 = .ok (.iconst 1, 1) := by decide +kernel
theorem dL_number_13 : decode cL_number 13 = .ok (.ireturn, 1) := by decide +kernel
theorem dL_number_14 : decode cL_number 14 = .ok (.iconst 0, 1) := by decide +kernel
theorem dL_number_15 : decode cL_number 15 = .ok (.ireturn, 1) := by decide +kernel
theorem dL_foretold_0 : decode cL_foretold 0 = .ok (.aload_n 2, 1) := by decide +kernel
theorem dL_foretold_1 : decode cL_foretold 1 = .ok (.iconst 0, 1) := by decide +kernel
theorem dL_foretold_2 : decode cL_foretold 2 = .ok (.aload_n 0, 1) := by decide +kernel
theorem dL_foretold_3 : decode cL_foretold 3 = .ok (.iload_n 1, 1) := by decide +kernel
theorem dL_foretold_4 : decode cL_foretold 4 = .ok (.invokevirtual 38, 3) := by decide +kernel
theorem dL_foretold_7 : decode cL_foretold 7 = .ok (.dastore, 1) := by decide +kernel
theorem dL_foretold_8 : decode cL_foretold 8 = .ok (.goto 9, 3) := by decide +kernel
theorem dL_foretold_11 : decode cL_foretold 11 = .ok (.astore_n 3, 1) := by decide +kernel
theorem dL_foretold_12 : decode cL_foretold 12 = .ok (.iconst 1, 1) := by decide +kernel
theorem dL_foretold_13 : decode cL_foretold 13 = .ok (.ireturn, 1) := by decide +kernel
theorem dL_foretold_14 : decode cL_foretold 14 = .ok (.astore_n 3, 1) := by decide +kernel
theorem dL_foretold_15 : decode cL_foretold 15 = .ok (.iconst 2, 1) := by decide +kernel
theorem dL_foretold_16 : decode cL_foretold 16 = .ok (.ireturn, 1) := by decide +kernel
theorem dL_foretold_17 : decode cL_foretold 17 = .ok (.iconst 0, 1) := by decide +kernel
theorem dL_foretold_18 : decode cL_foretold 18 = .ok (.ireturn, 1) := by decide +kernel
theorem dL_leftOut_0 : decode cL_leftOut 0 = .ok (.aload_n 2, 1) := by decide +kernel
theorem dL_leftOut_1 : decode cL_leftOut 1 = .ok (.iconst 0, 1) := by decide +kernel
theorem dL_leftOut_2 : decode cL_leftOut 2 = .ok (.aload_n 0, 1) := by decide +kernel
theorem dL_leftOut_3 : decode cL_leftOut 3 = .ok (.iload_n 1, 1) := by decide +kernel
theorem dL_leftOut_4 : decode cL_leftOut 4 = .ok (.invokevirtual 41, 3) := by decide +kernel
theorem dL_leftOut_7 : decode cL_leftOut 7 = .ok (.dastore, 1) := by decide +kernel
theorem dL_leftOut_8 : decode cL_leftOut 8 = .ok (.goto 9, 3) := by decide +kernel
theorem dL_leftOut_11 : decode cL_leftOut 11 = .ok (.astore_n 3, 1) := by decide +kernel
theorem dL_leftOut_12 : decode cL_leftOut 12 = .ok (.iconst 1, 1) := by decide +kernel
theorem dL_leftOut_13 : decode cL_leftOut 13 = .ok (.ireturn, 1) := by decide +kernel
theorem dL_leftOut_14 : decode cL_leftOut 14 = .ok (.astore_n 3, 1) := by decide +kernel
theorem dL_leftOut_15 : decode cL_leftOut 15 = .ok (.iconst 2, 1) := by decide +kernel
theorem dL_leftOut_16 : decode cL_leftOut 16 = .ok (.ireturn, 1) := by decide +kernel
theorem dL_leftOut_17 : decode cL_leftOut 17 = .ok (.iconst 0, 1) := by decide +kernel
theorem dL_leftOut_18 : decode cL_leftOut 18 = .ok (.ireturn, 1) := by decide +kernel
theorem dL_limit_0 : decode cL_limit 0 = .ok (.aload_n 0, 1) := by decide +kernel
theorem dL_limit_1 : decode cL_limit 1 = .ok (.iload_n 1, 1) := by decide +kernel
theorem dL_limit_2 : decode cL_limit 2 = .ok (.dload_n 2, 1) := by decide +kernel
theorem dL_limit_3 : decode cL_limit 3 = .ok (.invokevirtual 44, 3) := by decide +kernel
theorem dL_limit_6 : decode cL_limit 6 = .ok (.goto 11, 3) := by decide +kernel
theorem dL_limit_9 : decode cL_limit 9 = .ok (.astore 4, 2) := by decide +kernel
theorem dL_limit_11 : decode cL_limit 11 = .ok (.iconst 1, 1) := by decide +kernel
theorem dL_limit_12 : decode cL_limit 12 = .ok (.ireturn, 1) := by decide +kernel
theorem dL_limit_13 : decode cL_limit 13 = .ok (.astore 4, 2) := by decide +kernel
theorem dL_limit_15 : decode cL_limit 15 = .ok (.iconst 2, 1) := by decide +kernel
theorem dL_limit_16 : decode cL_limit 16 = .ok (.ireturn, 1) := by decide +kernel
theorem dL_limit_17 : decode cL_limit 17 = .ok (.iconst 0, 1) := by decide +kernel
theorem dL_limit_18 : decode cL_limit 18 = .ok (.ireturn, 1) := by decide +kernel
theorem dL_setting_0 : decode cL_setting 0 = .ok (.aload 4, 2) := by decide +kernel
theorem dL_setting_2 : decode cL_setting 2 = .ok (.iconst 0, 1) := by decide +kernel
theorem dL_setting_3 : decode cL_setting 3 = .ok (.aload_n 0, 1) := by decide +kernel
theorem dL_setting_4 : decode cL_setting 4 = .ok (.iload_n 1, 1) := by decide +kernel
theorem dL_setting_5 : decode cL_setting 5 = .ok (.iload_n 2, 1) := by decide +kernel
theorem dL_setting_6 : decode cL_setting 6 = .ok (.iload_n 3, 1) := by decide +kernel
theorem dL_setting_7 : decode cL_setting 7 = .ok (.invokevirtual 47, 3) := by decide +kernel
theorem dL_setting_10 : decode cL_setting 10 = .ok (.i2l, 1) := by decide +kernel
theorem dL_setting_11 : decode cL_setting 11 = .ok (.lastore, 1) := by decide +kernel
theorem dL_setting_12 : decode cL_setting 12 = .ok (.goto 11, 3) := by decide +kernel
theorem dL_setting_15 : decode cL_setting 15 = .ok (.astore 5, 2) := by decide +kernel
theorem dL_setting_17 : decode cL_setting 17 = .ok (.iconst 1, 1) := by decide +kernel
theorem dL_setting_18 : decode cL_setting 18 = .ok (.ireturn, 1) := by decide +kernel
theorem dL_setting_19 : decode cL_setting 19 = .ok (.astore 5, 2) := by decide +kernel
theorem dL_setting_21 : decode cL_setting 21 = .ok (.iconst 2, 1) := by decide +kernel
theorem dL_setting_22 : decode cL_setting 22 = .ok (.ireturn, 1) := by decide +kernel
theorem dL_setting_23 : decode cL_setting 23 = .ok (.iconst 0, 1) := by decide +kernel
theorem dL_setting_24 : decode cL_setting 24 = .ok (.ireturn, 1) := by decide +kernel
theorem dL_odds_0 : decode cL_odds 0 = .ok (.aload 6, 2) := by decide +kernel
theorem dL_odds_2 : decode cL_odds 2 = .ok (.iconst 0, 1) := by decide +kernel
theorem dL_odds_3 : decode cL_odds 3 = .ok (.aload_n 0, 1) := by decide +kernel
theorem dL_odds_4 : decode cL_odds 4 = .ok (.iload_n 1, 1) := by decide +kernel
theorem dL_odds_5 : decode cL_odds 5 = .ok (.iload_n 2, 1) := by decide +kernel
theorem dL_odds_6 : decode cL_odds 6 = .ok (.iload_n 3, 1) := by decide +kernel
theorem dL_odds_7 : decode cL_odds 7 = .ok (.iload 4, 2) := by decide +kernel
theorem dL_odds_9 : decode cL_odds 9 = .ok (.iload 5, 2) := by decide +kernel
theorem dL_odds_11 : decode cL_odds 11 = .ok (.invokevirtual 51, 3) := by decide +kernel
theorem dL_odds_14 : decode cL_odds 14 = .ok (.lastore, 1) := by decide +kernel
theorem dL_odds_15 : decode cL_odds 15 = .ok (.goto 11, 3) := by decide +kernel
theorem dL_odds_18 : decode cL_odds 18 = .ok (.astore 7, 2) := by decide +kernel
theorem dL_odds_20 : decode cL_odds 20 = .ok (.iconst 1, 1) := by decide +kernel
theorem dL_odds_21 : decode cL_odds 21 = .ok (.ireturn, 1) := by decide +kernel
theorem dL_odds_22 : decode cL_odds 22 = .ok (.astore 7, 2) := by decide +kernel
theorem dL_odds_24 : decode cL_odds 24 = .ok (.iconst 2, 1) := by decide +kernel
theorem dL_odds_25 : decode cL_odds 25 = .ok (.ireturn, 1) := by decide +kernel
theorem dL_odds_26 : decode cL_odds 26 = .ok (.iconst 0, 1) := by decide +kernel
theorem dL_odds_27 : decode cL_odds 27 = .ok (.ireturn, 1) := by decide +kernel
theorem dL_chart_0 : decode cL_chart 0 = .ok (.aload_n 0, 1) := by decide +kernel
theorem dL_chart_1 : decode cL_chart 1 = .ok (.iload_n 1, 1) := by decide +kernel
theorem dL_chart_2 : decode cL_chart 2 = .ok (.iload_n 2, 1) := by decide +kernel
theorem dL_chart_3 : decode cL_chart 3 = .ok (.invokevirtual 55, 3) := by decide +kernel
theorem dL_chart_6 : decode cL_chart 6 = .ok (.goto 6, 3) := by decide +kernel
theorem dL_chart_9 : decode cL_chart 9 = .ok (.astore_n 3, 1) := by decide +kernel
theorem dL_chart_10 : decode cL_chart 10 = .ok (.iconst 1, 1) := by decide +kernel
theorem dL_chart_11 : decode cL_chart 11 = .ok (.ireturn, 1) := by decide +kernel
theorem dL_chart_12 : decode cL_chart 12 = .ok (.iconst 0, 1) := by decide +kernel
theorem dL_chart_13 : decode cL_chart 13 = .ok (.ireturn, 1) := by decide +kernel
theorem dL_proof_0 : decode cL_proof 0 = .ok (.aload_n 3, 1) := by decide +kernel
theorem dL_proof_1 : decode cL_proof 1 = .ok (.iconst 0, 1) := by decide +kernel
theorem dL_proof_2 : decode cL_proof 2 = .ok (.aload_n 0, 1) := by decide +kernel
theorem dL_proof_3 : decode cL_proof 3 = .ok (.dload_n 1, 1) := by decide +kernel
theorem dL_proof_4 : decode cL_proof 4 = .ok (.invokevirtual 59, 3) := by decide +kernel
theorem dL_proof_7 : decode cL_proof 7 = .ok (.i2l, 1) := by decide +kernel
theorem dL_proof_8 : decode cL_proof 8 = .ok (.lastore, 1) := by decide +kernel
theorem dL_proof_9 : decode cL_proof 9 = .ok (.goto 7, 3) := by decide +kernel
theorem dL_proof_12 : decode cL_proof 12 = .ok (.astore 4, 2) := by decide +kernel
theorem dL_proof_14 : decode cL_proof 14 = .ok (.iconst 1, 1) := by decide +kernel
theorem dL_proof_15 : decode cL_proof 15 = .ok (.ireturn, 1) := by decide +kernel
theorem dL_proof_16 : decode cL_proof 16 = .ok (.iconst 0, 1) := by decide +kernel
theorem dL_proof_17 : decode cL_proof 17 = .ok (.ireturn, 1) := by decide +kernel
theorem dL_about_0 : decode cL_about 0 = .ok (.aload_n 3, 1) := by decide +kernel
theorem dL_about_1 : decode cL_about 1 = .ok (.iconst 0, 1) := by decide +kernel
theorem dL_about_2 : decode cL_about 2 = .ok (.aload_n 0, 1) := by decide +kernel
theorem dL_about_3 : decode cL_about 3 = .ok (.iload_n 1, 1) := by decide +kernel
theorem dL_about_4 : decode cL_about 4 = .ok (.iload_n 2, 1) := by decide +kernel
theorem dL_about_5 : decode cL_about 5 = .ok (.invokevirtual 63, 3) := by decide +kernel
theorem dL_about_8 : decode cL_about 8 = .ok (.i2l, 1) := by decide +kernel
theorem dL_about_9 : decode cL_about 9 = .ok (.lastore, 1) := by decide +kernel
theorem dL_about_10 : decode cL_about 10 = .ok (.goto 7, 3) := by decide +kernel
theorem dL_about_13 : decode cL_about 13 = .ok (.astore 4, 2) := by decide +kernel
theorem dL_about_15 : decode cL_about 15 = .ok (.iconst 1, 1) := by decide +kernel
theorem dL_about_16 : decode cL_about 16 = .ok (.ireturn, 1) := by decide +kernel
theorem dL_about_17 : decode cL_about 17 = .ok (.iconst 0, 1) := by decide +kernel
theorem dL_about_18 : decode cL_about 18 = .ok (.ireturn, 1) := by decide +kernel
theorem dL_reference_0 : decode cL_reference 0 = .ok (.aload 4, 2) := by decide +kernel
theorem dL_reference_2 : decode cL_reference 2 = .ok (.iconst 0, 1) := by decide +kernel
theorem dL_reference_3 : decode cL_reference 3 = .ok (.aload_n 0, 1) := by decide +kernel
theorem dL_reference_4 : decode cL_reference 4 = .ok (.iload_n 1, 1) := by decide +kernel
theorem dL_reference_5 : decode cL_reference 5 = .ok (.dload_n 2, 1) := by decide +kernel
theorem dL_reference_6 : decode cL_reference 6 = .ok (.invokevirtual 67, 3) := by decide +kernel
theorem dL_reference_9 : decode cL_reference 9 = .ok (.i2l, 1) := by decide +kernel
theorem dL_reference_10 : decode cL_reference 10 = .ok (.lastore, 1) := by decide +kernel
theorem dL_reference_11 : decode cL_reference 11 = .ok (.goto 11, 3) := by decide +kernel
theorem dL_reference_14 : decode cL_reference 14 = .ok (.astore 5, 2) := by decide +kernel
theorem dL_reference_16 : decode cL_reference 16 = .ok (.iconst 1, 1) := by decide +kernel
theorem dL_reference_17 : decode cL_reference 17 = .ok (.ireturn, 1) := by decide +kernel
theorem dL_reference_18 : decode cL_reference 18 = .ok (.astore 5, 2) := by decide +kernel
theorem dL_reference_20 : decode cL_reference 20 = .ok (.iconst 2, 1) := by decide +kernel
theorem dL_reference_21 : decode cL_reference 21 = .ok (.ireturn, 1) := by decide +kernel
theorem dL_reference_22 : decode cL_reference 22 = .ok (.iconst 0, 1) := by decide +kernel
theorem dL_reference_23 : decode cL_reference 23 = .ok (.ireturn, 1) := by decide +kernel
theorem dL_drift_0 : decode cL_drift 0 = .ok (.aload_n 2, 1) := by decide +kernel
theorem dL_drift_1 : decode cL_drift 1 = .ok (.iconst 0, 1) := by decide +kernel
theorem dL_drift_2 : decode cL_drift 2 = .ok (.aload_n 0, 1) := by decide +kernel
theorem dL_drift_3 : decode cL_drift 3 = .ok (.iload_n 1, 1) := by decide +kernel
theorem dL_drift_4 : decode cL_drift 4 = .ok (.invokevirtual 70, 3) := by decide +kernel
theorem dL_drift_7 : decode cL_drift 7 = .ok (.dastore, 1) := by decide +kernel
theorem dL_drift_8 : decode cL_drift 8 = .ok (.goto 6, 3) := by decide +kernel
theorem dL_drift_11 : decode cL_drift 11 = .ok (.astore_n 3, 1) := by decide +kernel
theorem dL_drift_12 : decode cL_drift 12 = .ok (.iconst 1, 1) := by decide +kernel
theorem dL_drift_13 : decode cL_drift 13 = .ok (.ireturn, 1) := by decide +kernel
theorem dL_drift_14 : decode cL_drift 14 = .ok (.iconst 0, 1) := by decide +kernel
theorem dL_drift_15 : decode cL_drift 15 = .ok (.ireturn, 1) := by decide +kernel
theorem dL_drawn_0 : decode cL_drawn 0 = .ok (.aload_n 2, 1) := by decide +kernel
theorem dL_drawn_1 : decode cL_drawn 1 = .ok (.iconst 0, 1) := by decide +kernel
theorem dL_drawn_2 : decode cL_drawn 2 = .ok (.aload_n 0, 1) := by decide +kernel
theorem dL_drawn_3 : decode cL_drawn 3 = .ok (.iload_n 1, 1) := by decide +kernel
theorem dL_drawn_4 : decode cL_drawn 4 = .ok (.invokevirtual 73, 3) := by decide +kernel
theorem dL_drawn_7 : decode cL_drawn 7 = .ok (.dastore, 1) := by decide +kernel
theorem dL_drawn_8 : decode cL_drawn 8 = .ok (.goto 6, 3) := by decide +kernel
theorem dL_drawn_11 : decode cL_drawn 11 = .ok (.astore_n 3, 1) := by decide +kernel
theorem dL_drawn_12 : decode cL_drawn 12 = .ok (.iconst 1, 1) := by decide +kernel
theorem dL_drawn_13 : decode cL_drawn 13 = .ok (.ireturn, 1) := by decide +kernel
theorem dL_drawn_14 : decode cL_drawn 14 = .ok (.iconst 0, 1) := by decide +kernel
theorem dL_drawn_15 : decode cL_drawn 15 = .ok (.ireturn, 1) := by decide +kernel
abbrev vwCl : List vw_C := [(RX0, TX0, 8), (RX1, TX1, 4), (RX2, TX2, 3), (RX3, TX3, 4), (RX4, TX4, 8), (RX5, TX5, 24)]
end
section
theorem dL_law_0 : decode cL_law 0 = .ok (.new 8, 3) := by decide +kernel
theorem dL_law_3 : decode cL_law 3 = .ok (.dup, 1) := by decide +kernel
theorem dL_law_4 : decode cL_law 4 = .ok (.aload_n 0, 1) := by decide +kernel
theorem dL_law_5 : decode cL_law 5 = .ok (.iconst 0, 1) := by decide +kernel
theorem dL_law_6 : decode cL_law 6 = .ok (.invokestatic 76, 3) := by decide +kernel
theorem dL_law_9 : decode cL_law 9 = .ok (.invokespecial 82, 3) := by decide +kernel
theorem dL_law_12 : decode cL_law 12 = .ok (.astore_n 1, 1) := by decide +kernel
theorem dL_law_13 : decode cL_law 13 = .ok (.new 85, 3) := by decide +kernel
theorem dL_law_16 : decode cL_law 16 = .ok (.dup, 1) := by decide +kernel
theorem dL_law_17 : decode cL_law 17 = .ok (.aload_n 0, 1) := by decide +kernel
theorem dL_law_18 : decode cL_law 18 = .ok (.iconst 0, 1) := by decide +kernel
theorem dL_law_19 : decode cL_law 19 = .ok (.invokestatic 76, 3) := by decide +kernel
theorem dL_law_22 : decode cL_law 22 = .ok (.invokespecial 87, 3) := by decide +kernel
theorem dL_law_25 : decode cL_law 25 = .ok (.astore_n 2, 1) := by decide +kernel
theorem dL_law_26 : decode cL_law 26 = .ok (.iconst 1, 1) := by decide +kernel
theorem dL_law_27 : decode cL_law 27 = .ok (.newarray .long, 2) := by decide +kernel
theorem dL_law_29 : decode cL_law 29 = .ok (.astore_n 3, 1) := by decide +kernel
theorem dL_law_30 : decode cL_law 30 = .ok (.iconst 1, 1) := by decide +kernel
theorem dL_law_31 : decode cL_law 31 = .ok (.newarray .double, 2) := by decide +kernel
theorem dL_law_33 : decode cL_law 33 = .ok (.astore 4, 2) := by decide +kernel
theorem dL_law_35 : decode cL_law 35 = .ok (.iconst 1, 1) := by decide +kernel
theorem dL_law_36 : decode cL_law 36 = .ok (.istore 5, 2) := by decide +kernel
theorem dL_law_38 : decode cL_law 38 = .ok (.iload 5, 2) := by decide +kernel
theorem dL_law_40 : decode cL_law 40 = .ok (.aload_n 0, 1) := by decide +kernel
theorem dL_law_41 : decode cL_law 41 = .ok (.arraylength, 1) := by decide +kernel
theorem dL_law_42 : decode cL_law 42 = .ok (.bipush 6, 2) := by decide +kernel
theorem dL_law_44 : decode cL_law 44 = .ok (.isub, 1) := by decide +kernel
theorem dL_law_45 : decode cL_law 45 = .ok (.if_icmp .gt 1363, 3) := by decide +kernel
theorem dL_law_48 : decode cL_law 48 = .ok (.aload_n 0, 1) := by decide +kernel
theorem dL_law_49 : decode cL_law 49 = .ok (.iload 5, 2) := by decide +kernel
theorem dL_law_51 : decode cL_law 51 = .ok (.iaload, 1) := by decide +kernel
theorem dL_law_52 : decode cL_law 52 = .ok (.bipush 31, 2) := by decide +kernel
theorem dL_law_54 : decode cL_law 54 = .ok (.iand, 1) := by decide +kernel
theorem dL_law_55 : decode cL_law 55 = .ok (.tableswitch 1347 0 18 #[89, 133, 211, 291, 349, 407, 420, 497, 574, 651, 709, 789, 892, 940, 981, 1047, 1115, 1193, 1270], 89) := by decide +kernel
theorem dL_law_144 : decode cL_law 144 = .ok (.aload_n 1, 1) := by decide +kernel
theorem dL_law_145 : decode cL_law 145 = .ok (.aload_n 3, 1) := by decide +kernel
theorem dL_law_146 : decode cL_law 146 = .ok (.invokestatic 88, 3) := by decide +kernel
theorem dL_law_149 : decode cL_law 149 = .ok (.istore 6, 2) := by decide +kernel
theorem dL_law_151 : decode cL_law 151 = .ok (.aload_n 2, 1) := by decide +kernel
theorem dL_law_152 : decode cL_law 152 = .ok (.invokevirtual 91, 3) := by decide +kernel
theorem dL_law_155 : decode cL_law 155 = .ok (.istore 7, 2) := by decide +kernel
theorem dL_law_157 : decode cL_law 157 = .ok (.aload_n 2, 1) := by decide +kernel
theorem dL_law_158 : decode cL_law 158 = .ok (.invokevirtual 92, 3) := by decide +kernel
theorem dL_law_161 : decode cL_law 161 = .ok (.iload 6, 2) := by decide +kernel
theorem dL_law_163 : decode cL_law 163 = .ok (.if_icmp .eq 5, 3) := by decide +kernel
theorem dL_law_166 : decode cL_law 166 = .ok (.iconst 0, 1) := by decide +kernel
theorem dL_law_167 : decode cL_law 167 = .ok (.ireturn, 1) := by decide +kernel
theorem dL_law_168 : decode cL_law 168 = .ok (.iload 6, 2) := by decide +kernel
theorem dL_law_170 : decode cL_law 170 = .ok (.ifCond .ne 15, 3) := by decide +kernel
theorem dL_law_173 : decode cL_law 173 = .ok (.aload_n 3, 1) := by decide +kernel
theorem dL_law_174 : decode cL_law 174 = .ok (.iconst 0, 1) := by decide +kernel
theorem dL_law_175 : decode cL_law 175 = .ok (.laload, 1) := by decide +kernel
theorem dL_law_176 : decode cL_law 176 = .ok (.iload 7, 2) := by decide +kernel
theorem dL_law_178 : decode cL_law 178 = .ok (.i2l, 1) := by decide +kernel
theorem dL_law_179 : decode cL_law 179 = .ok (.lcmp, 1) := by decide +kernel
theorem dL_law_180 : decode cL_law 180 = .ok (.ifCond .eq 5, 3) := by decide +kernel
theorem dL_law_183 : decode cL_law 183 = .ok (.iconst 0, 1) := by decide +kernel
theorem dL_law_184 : decode cL_law 184 = .ok (.ireturn, 1) := by decide +kernel
theorem dL_law_185 : decode cL_law 185 = .ok (.goto 1217, 3) := by decide +kernel
theorem dL_law_188 : decode cL_law 188 = .ok (.aload_n 1, 1) := by decide +kernel
theorem dL_law_189 : decode cL_law 189 = .ok (.aload_n 0, 1) := by decide +kernel
theorem dL_law_190 : decode cL_law 190 = .ok (.iload 5, 2) := by decide +kernel
theorem dL_law_192 : decode cL_law 192 = .ok (.iconst 1, 1) := by decide +kernel
theorem dL_law_193 : decode cL_law 193 = .ok (.iadd, 1) := by decide +kernel
theorem dL_law_194 : decode cL_law 194 = .ok (.iaload, 1) := by decide +kernel
theorem dL_law_195 : decode cL_law 195 = .ok (.aload_n 0, 1) := by decide +kernel
theorem dL_law_196 : decode cL_law 196 = .ok (.iload 5, 2) := by decide +kernel
theorem dL_law_198 : decode cL_law 198 = .ok (.iconst 2, 1) := by decide +kernel
theorem dL_law_199 : decode cL_law 199 = .ok (.iadd, 1) := by decide +kernel
theorem dL_law_200 : decode cL_law 200 = .ok (.iaload, 1) := by decide +kernel
theorem dL_law_201 : decode cL_law 201 = .ok (.i2d, 1) := by decide +kernel
theorem dL_law_202 : decode cL_law 202 = .ok (.ldc2_w 95, 3) := by decide +kernel
theorem dL_law_205 : decode cL_law 205 = .ok (.dmul, 1) := by decide +kernel
theorem dL_law_206 : decode cL_law 206 = .ok (.aload_n 3, 1) := by decide +kernel
theorem dL_law_207 : decode cL_law 207 = .ok (.invokestatic 97, 3) := by decide +kernel
theorem dL_law_210 : decode cL_law 210 = .ok (.istore 6, 2) := by decide +kernel
theorem dL_law_212 : decode cL_law 212 = .ok (.aload_n 2, 1) := by decide +kernel
theorem dL_law_213 : decode cL_law 213 = .ok (.aload_n 0, 1) := by decide +kernel
theorem dL_law_214 : decode cL_law 214 = .ok (.iload 5, 2) := by decide +kernel
theorem dL_law_216 : decode cL_law 216 = .ok (.iconst 1, 1) := by decide +kernel
theorem dL_law_217 : decode cL_law 217 = .ok (.iadd, 1) := by decide +kernel
theorem dL_law_218 : decode cL_law 218 = .ok (.iaload, 1) := by decide +kernel
theorem dL_law_219 : decode cL_law 219 = .ok (.aload_n 0, 1) := by decide +kernel
theorem dL_law_220 : decode cL_law 220 = .ok (.iload 5, 2) := by decide +kernel
theorem dL_law_222 : decode cL_law 222 = .ok (.iconst 2, 1) := by decide +kernel
theorem dL_law_223 : decode cL_law 223 = .ok (.iadd, 1) := by decide +kernel
theorem dL_law_224 : decode cL_law 224 = .ok (.iaload, 1) := by decide +kernel
theorem dL_law_225 : decode cL_law 225 = .ok (.i2d, 1) := by decide +kernel
theorem dL_law_226 : decode cL_law 226 = .ok (.ldc2_w 95, 3) := by decide +kernel
theorem dL_law_229 : decode cL_law 229 = .ok (.dmul, 1) := by decide +kernel
theorem dL_law_230 : decode cL_law 230 = .ok (.invokevirtual 100, 3) := by decide +kernel
theorem dL_law_233 : decode cL_law 233 = .ok (.istore 7, 2) := by decide +kernel
theorem dL_law_235 : decode cL_law 235 = .ok (.aload_n 2, 1) := by decide +kernel
theorem dL_law_236 : decode cL_law 236 = .ok (.invokevirtual 92, 3) := by decide +kernel
theorem dL_law_239 : decode cL_law 239 = .ok (.iload 6, 2) := by decide +kernel
theorem dL_law_241 : decode cL_law 241 = .ok (.if_icmp .eq 5, 3) := by decide +kernel
theorem dL_law_244 : decode cL_law 244 = .ok (.iconst 0, 1) := by decide +kernel
theorem dL_law_245 : decode cL_law 245 = .ok (.ireturn, 1) := by decide +kernel
theorem dL_law_246 : decode cL_law 246 = .ok (.iload 6, 2) := by decide +kernel
theorem dL_law_248 : decode cL_law 248 = .ok (.ifCond .ne 15, 3) := by decide +kernel
theorem dL_law_251 : decode cL_law 251 = .ok (.aload_n 3, 1) := by decide +kernel
theorem dL_law_252 : decode cL_law 252 = .ok (.iconst 0, 1) := by decide +kernel
theorem dL_law_253 : decode cL_law 253 = .ok (.laload, 1) := by decide +kernel
theorem dL_law_254 : decode cL_law 254 = .ok (.iload 7, 2) := by decide +kernel
theorem dL_law_256 : decode cL_law 256 = .ok (.i2l, 1) := by decide +kernel
theorem dL_law_257 : decode cL_law 257 = .ok (.lcmp, 1) := by decide +kernel
theorem dL_law_258 : decode cL_law 258 = .ok (.ifCond .eq 5, 3) := by decide +kernel
theorem dL_law_261 : decode cL_law 261 = .ok (.iconst 0, 1) := by decide +kernel
theorem dL_law_262 : decode cL_law 262 = .ok (.ireturn, 1) := by decide +kernel
theorem dL_law_263 : decode cL_law 263 = .ok (.goto 1139, 3) := by decide +kernel
theorem dL_law_266 : decode cL_law 266 = .ok (.aload_n 1, 1) := by decide +kernel
theorem dL_law_267 : decode cL_law 267 = .ok (.aload_n 0, 1) := by decide +kernel
theorem dL_law_268 : decode cL_law 268 = .ok (.iload 5, 2) := by decide +kernel
theorem dL_law_270 : decode cL_law 270 = .ok (.iconst 1, 1) := by decide +kernel
theorem dL_law_271 : decode cL_law 271 = .ok (.iadd, 1) := by decide +kernel
theorem dL_law_272 : decode cL_law 272 = .ok (.iaload, 1) := by decide +kernel
theorem dL_law_273 : decode cL_law 273 = .ok (.aload_n 0, 1) := by decide +kernel
theorem dL_law_274 : decode cL_law 274 = .ok (.iload 5, 2) := by decide +kernel
theorem dL_law_276 : decode cL_law 276 = .ok (.iconst 2, 1) := by decide +kernel
theorem dL_law_277 : decode cL_law 277 = .ok (.iadd, 1) := by decide +kernel
theorem dL_law_278 : decode cL_law 278 = .ok (.iaload, 1) := by decide +kernel
theorem dL_law_279 : decode cL_law 279 = .ok (.i2d, 1) := by decide +kernel
theorem dL_law_280 : decode cL_law 280 = .ok (.ldc2_w 95, 3) := by decide +kernel
theorem dL_law_283 : decode cL_law 283 = .ok (.dmul, 1) := by decide +kernel
theorem dL_law_284 : decode cL_law 284 = .ok (.aload_n 0, 1) := by decide +kernel
theorem dL_law_285 : decode cL_law 285 = .ok (.iload 5, 2) := by decide +kernel
theorem dL_law_287 : decode cL_law 287 = .ok (.iconst 3, 1) := by decide +kernel
theorem dL_law_288 : decode cL_law 288 = .ok (.iadd, 1) := by decide +kernel
theorem dL_law_289 : decode cL_law 289 = .ok (.iaload, 1) := by decide +kernel
theorem dL_law_290 : decode cL_law 290 = .ok (.i2d, 1) := by decide +kernel
theorem dL_law_291 : decode cL_law 291 = .ok (.ldc2_w 95, 3) := by decide +kernel
theorem dL_law_294 : decode cL_law 294 = .ok (.dmul, 1) := by decide +kernel
theorem dL_law_295 : decode cL_law 295 = .ok (.invokestatic 101, 3) := by decide +kernel
theorem dL_law_298 : decode cL_law 298 = .ok (.istore 6, 2) := by decide +kernel
theorem dL_law_300 : decode cL_law 300 = .ok (.aload_n 2, 1) := by decide +kernel
theorem dL_law_301 : decode cL_law 301 = .ok (.aload_n 0, 1) := by decide +kernel
theorem dL_law_302 : decode cL_law 302 = .ok (.iload 5, 2) := by decide +kernel
theorem dL_law_304 : decode cL_law 304 = .ok (.iconst 1, 1) := by decide +kernel
theorem dL_law_305 : decode cL_law 305 = .ok (.iadd, 1) := by decide +kernel
theorem dL_law_306 : decode cL_law 306 = .ok (.iaload, 1) := by decide +kernel
theorem dL_law_307 : decode cL_law 307 = .ok (.aload_n 0, 1) := by decide +kernel
theorem dL_law_308 : decode cL_law 308 = .ok (.iload 5, 2) := by decide +kernel
theorem dL_law_310 : decode cL_law 310 = .ok (.iconst 2, 1) := by decide +kernel
theorem dL_law_311 : decode cL_law 311 = .ok (.iadd, 1) := by decide +kernel
theorem dL_law_312 : decode cL_law 312 = .ok (.iaload, 1) := by decide +kernel
theorem dL_law_313 : decode cL_law 313 = .ok (.i2d, 1) := by decide +kernel
theorem dL_law_314 : decode cL_law 314 = .ok (.ldc2_w 95, 3) := by decide +kernel
theorem dL_law_317 : decode cL_law 317 = .ok (.dmul, 1) := by decide +kernel
theorem dL_law_318 : decode cL_law 318 = .ok (.aload_n 0, 1) := by decide +kernel
theorem dL_law_319 : decode cL_law 319 = .ok (.iload 5, 2) := by decide +kernel
theorem dL_law_321 : decode cL_law 321 = .ok (.iconst 3, 1) := by decide +kernel
theorem dL_law_322 : decode cL_law 322 = .ok (.iadd, 1) := by decide +kernel
theorem dL_law_323 : decode cL_law 323 = .ok (.iaload, 1) := by decide +kernel
theorem dL_law_324 : decode cL_law 324 = .ok (.i2d, 1) := by decide +kernel
theorem dL_law_325 : decode cL_law 325 = .ok (.ldc2_w 95, 3) := by decide +kernel
theorem dL_law_328 : decode cL_law 328 = .ok (.dmul, 1) := by decide +kernel
theorem dL_law_329 : decode cL_law 329 = .ok (.invokevirtual 104, 3) := by decide +kernel
theorem dL_law_332 : decode cL_law 332 = .ok (.aload_n 2, 1) := by decide +kernel
theorem dL_law_333 : decode cL_law 333 = .ok (.invokevirtual 92, 3) := by decide +kernel
theorem dL_law_336 : decode cL_law 336 = .ok (.iload 6, 2) := by decide +kernel
theorem dL_law_338 : decode cL_law 338 = .ok (.if_icmp .eq 5, 3) := by decide +kernel
theorem dL_law_341 : decode cL_law 341 = .ok (.iconst 0, 1) := by decide +kernel
theorem dL_law_342 : decode cL_law 342 = .ok (.ireturn, 1) := by decide +kernel
theorem dL_law_343 : decode cL_law 343 = .ok (.goto 1059, 3) := by decide +kernel
theorem dL_law_346 : decode cL_law 346 = .ok (.aload_n 1, 1) := by decide +kernel
theorem dL_law_347 : decode cL_law 347 = .ok (.aload_n 0, 1) := by decide +kernel
theorem dL_law_348 : decode cL_law 348 = .ok (.iload 5, 2) := by decide +kernel
theorem dL_law_350 : decode cL_law 350 = .ok (.iconst 1, 1) := by decide +kernel
theorem dL_law_351 : decode cL_law 351 = .ok (.iadd, 1) := by decide +kernel
theorem dL_law_352 : decode cL_law 352 = .ok (.iaload, 1) := by decide +kernel
theorem dL_law_353 : decode cL_law 353 = .ok (.aload_n 0, 1) := by decide +kernel
theorem dL_law_354 : decode cL_law 354 = .ok (.iload 5, 2) := by decide +kernel
theorem dL_law_356 : decode cL_law 356 = .ok (.iconst 2, 1) := by decide +kernel
theorem dL_law_357 : decode cL_law 357 = .ok (.iadd, 1) := by decide +kernel
theorem dL_law_358 : decode cL_law 358 = .ok (.iaload, 1) := by decide +kernel
theorem dL_law_359 : decode cL_law 359 = .ok (.i2d, 1) := by decide +kernel
theorem dL_law_360 : decode cL_law 360 = .ok (.ldc2_w 95, 3) := by decide +kernel
theorem dL_law_363 : decode cL_law 363 = .ok (.dmul, 1) := by decide +kernel
theorem dL_law_364 : decode cL_law 364 = .ok (.invokestatic 105, 3) := by decide +kernel
theorem dL_law_367 : decode cL_law 367 = .ok (.istore 6, 2) := by decide +kernel
theorem dL_law_369 : decode cL_law 369 = .ok (.aload_n 2, 1) := by decide +kernel
theorem dL_law_370 : decode cL_law 370 = .ok (.aload_n 0, 1) := by decide +kernel
theorem dL_law_371 : decode cL_law 371 = .ok (.iload 5, 2) := by decide +kernel
theorem dL_law_373 : decode cL_law 373 = .ok (.iconst 1, 1) := by decide +kernel
theorem dL_law_374 : decode cL_law 374 = .ok (.iadd, 1) := by decide +kernel
theorem dL_law_375 : decode cL_law 375 = .ok (.iaload, 1) := by decide +kernel
theorem dL_law_376 : decode cL_law 376 = .ok (.aload_n 0, 1) := by decide +kernel
theorem dL_law_377 : decode cL_law 377 = .ok (.iload 5, 2) := by decide +kernel
theorem dL_law_379 : decode cL_law 379 = .ok (.iconst 2, 1) := by decide +kernel
theorem dL_law_380 : decode cL_law 380 = .ok (.iadd, 1) := by decide +kernel
theorem dL_law_381 : decode cL_law 381 = .ok (.iaload, 1) := by decide +kernel
theorem dL_law_382 : decode cL_law 382 = .ok (.i2d, 1) := by decide +kernel
theorem dL_law_383 : decode cL_law 383 = .ok (.ldc2_w 95, 3) := by decide +kernel
theorem dL_law_386 : decode cL_law 386 = .ok (.dmul, 1) := by decide +kernel
theorem dL_law_387 : decode cL_law 387 = .ok (.invokevirtual 108, 3) := by decide +kernel
theorem dL_law_390 : decode cL_law 390 = .ok (.aload_n 2, 1) := by decide +kernel
theorem dL_law_391 : decode cL_law 391 = .ok (.invokevirtual 92, 3) := by decide +kernel
theorem dL_law_394 : decode cL_law 394 = .ok (.iload 6, 2) := by decide +kernel
theorem dL_law_396 : decode cL_law 396 = .ok (.if_icmp .eq 5, 3) := by decide +kernel
theorem dL_law_399 : decode cL_law 399 = .ok (.iconst 0, 1) := by decide +kernel
theorem dL_law_400 : decode cL_law 400 = .ok (.ireturn, 1) := by decide +kernel
theorem dL_law_401 : decode cL_law 401 = .ok (.goto 1001, 3) := by decide +kernel
theorem dL_law_404 : decode cL_law 404 = .ok (.aload_n 1, 1) := by decide +kernel
theorem dL_law_405 : decode cL_law 405 = .ok (.aload_n 0, 1) := by decide +kernel
theorem dL_law_406 : decode cL_law 406 = .ok (.iload 5, 2) := by decide +kernel
theorem dL_law_408 : decode cL_law 408 = .ok (.iconst 1, 1) := by decide +kernel
theorem dL_law_409 : decode cL_law 409 = .ok (.iadd, 1) := by decide +kernel
theorem dL_law_410 : decode cL_law 410 = .ok (.iaload, 1) := by decide +kernel
theorem dL_law_411 : decode cL_law 411 = .ok (.aload_n 0, 1) := by decide +kernel
theorem dL_law_412 : decode cL_law 412 = .ok (.iload 5, 2) := by decide +kernel
theorem dL_law_414 : decode cL_law 414 = .ok (.iconst 2, 1) := by decide +kernel
theorem dL_law_415 : decode cL_law 415 = .ok (.iadd, 1) := by decide +kernel
theorem dL_law_416 : decode cL_law 416 = .ok (.iaload, 1) := by decide +kernel
theorem dL_law_417 : decode cL_law 417 = .ok (.i2d, 1) := by decide +kernel
theorem dL_law_418 : decode cL_law 418 = .ok (.ldc2_w 95, 3) := by decide +kernel
theorem dL_law_421 : decode cL_law 421 = .ok (.dmul, 1) := by decide +kernel
theorem dL_law_422 : decode cL_law 422 = .ok (.invokestatic 109, 3) := by decide +kernel
theorem dL_law_425 : decode cL_law 425 = .ok (.istore 6, 2) := by decide +kernel
theorem dL_law_427 : decode cL_law 427 = .ok (.aload_n 2, 1) := by decide +kernel
theorem dL_law_428 : decode cL_law 428 = .ok (.aload_n 0, 1) := by decide +kernel
theorem dL_law_429 : decode cL_law 429 = .ok (.iload 5, 2) := by decide +kernel
theorem dL_law_431 : decode cL_law 431 = .ok (.iconst 1, 1) := by decide +kernel
theorem dL_law_432 : decode cL_law 432 = .ok (.iadd, 1) := by decide +kernel
theorem dL_law_433 : decode cL_law 433 = .ok (.iaload, 1) := by decide +kernel
theorem dL_law_434 : decode cL_law 434 = .ok (.aload_n 0, 1) := by decide +kernel
theorem dL_law_435 : decode cL_law 435 = .ok (.iload 5, 2) := by decide +kernel
theorem dL_law_437 : decode cL_law 437 = .ok (.iconst 2, 1) := by decide +kernel
theorem dL_law_438 : decode cL_law 438 = .ok (.iadd, 1) := by decide +kernel
theorem dL_law_439 : decode cL_law 439 = .ok (.iaload, 1) := by decide +kernel
theorem dL_law_440 : decode cL_law 440 = .ok (.i2d, 1) := by decide +kernel
theorem dL_law_441 : decode cL_law 441 = .ok (.ldc2_w 95, 3) := by decide +kernel
theorem dL_law_444 : decode cL_law 444 = .ok (.dmul, 1) := by decide +kernel
theorem dL_law_445 : decode cL_law 445 = .ok (.invokevirtual 111, 3) := by decide +kernel
theorem dL_law_448 : decode cL_law 448 = .ok (.aload_n 2, 1) := by decide +kernel
theorem dL_law_449 : decode cL_law 449 = .ok (.invokevirtual 92, 3) := by decide +kernel
theorem dL_law_452 : decode cL_law 452 = .ok (.iload 6, 2) := by decide +kernel
theorem dL_law_454 : decode cL_law 454 = .ok (.if_icmp .eq 5, 3) := by decide +kernel
theorem dL_law_457 : decode cL_law 457 = .ok (.iconst 0, 1) := by decide +kernel
theorem dL_law_458 : decode cL_law 458 = .ok (.ireturn, 1) := by decide +kernel
theorem dL_law_459 : decode cL_law 459 = .ok (.goto 943, 3) := by decide +kernel
theorem dL_law_462 : decode cL_law 462 = .ok (.aload_n 1, 1) := by decide +kernel
theorem dL_law_463 : decode cL_law 463 = .ok (.invokevirtual 112, 3) := by decide +kernel
theorem dL_law_466 : decode cL_law 466 = .ok (.aload_n 2, 1) := by decide +kernel
theorem dL_law_467 : decode cL_law 467 = .ok (.invokevirtual 115, 3) := by decide +kernel
theorem dL_law_470 : decode cL_law 470 = .ok (.if_icmp .eq 932, 3) := by decide +kernel
theorem dL_law_473 : decode cL_law 473 = .ok (.iconst 0, 1) := by decide +kernel
theorem dL_law_474 : decode cL_law 474 = .ok (.ireturn, 1) := by decide +kernel
theorem dL_law_475 : decode cL_law 475 = .ok (.aload_n 1, 1) := by decide +kernel
theorem dL_law_476 : decode cL_law 476 = .ok (.aload_n 0, 1) := by decide +kernel
theorem dL_law_477 : decode cL_law 477 = .ok (.iload 5, 2) := by decide +kernel
theorem dL_law_479 : decode cL_law 479 = .ok (.iconst 1, 1) := by decide +kernel
theorem dL_law_480 : decode cL_law 480 = .ok (.iadd, 1) := by decide +kernel
theorem dL_law_481 : decode cL_law 481 = .ok (.iaload, 1) := by decide +kernel
theorem dL_law_482 : decode cL_law 482 = .ok (.aload 4, 2) := by decide +kernel
theorem dL_law_484 : decode cL_law 484 = .ok (.invokestatic 116, 3) := by decide +kernel
theorem dL_law_487 : decode cL_law 487 = .ok (.istore 6, 2) := by decide +kernel
theorem dL_law_489 : decode cL_law 489 = .ok (.aload_n 2, 1) := by decide +kernel
theorem dL_law_490 : decode cL_law 490 = .ok (.aload_n 0, 1) := by decide +kernel
theorem dL_law_491 : decode cL_law 491 = .ok (.iload 5, 2) := by decide +kernel
theorem dL_law_493 : decode cL_law 493 = .ok (.iconst 1, 1) := by decide +kernel
theorem dL_law_494 : decode cL_law 494 = .ok (.iadd, 1) := by decide +kernel
theorem dL_law_495 : decode cL_law 495 = .ok (.iaload, 1) := by decide +kernel
theorem dL_law_496 : decode cL_law 496 = .ok (.invokevirtual 119, 3) := by decide +kernel
theorem dL_law_499 : decode cL_law 499 = .ok (.dstore 7, 2) := by decide +kernel
theorem dL_law_501 : decode cL_law 501 = .ok (.aload_n 2, 1) := by decide +kernel
theorem dL_law_502 : decode cL_law 502 = .ok (.invokevirtual 92, 3) := by decide +kernel
theorem dL_law_505 : decode cL_law 505 = .ok (.iload 6, 2) := by decide +kernel
theorem dL_law_507 : decode cL_law 507 = .ok (.if_icmp .eq 5, 3) := by decide +kernel
theorem dL_law_510 : decode cL_law 510 = .ok (.iconst 0, 1) := by decide +kernel
theorem dL_law_511 : decode cL_law 511 = .ok (.ireturn, 1) := by decide +kernel
theorem dL_law_512 : decode cL_law 512 = .ok (.iload 6, 2) := by decide +kernel
theorem dL_law_514 : decode cL_law 514 = .ok (.ifCond .ne 35, 3) := by decide +kernel
theorem dL_law_517 : decode cL_law 517 = .ok (.aload 4, 2) := by decide +kernel
theorem dL_law_519 : decode cL_law 519 = .ok (.iconst 0, 1) := by decide +kernel
theorem dL_law_520 : decode cL_law 520 = .ok (.daload, 1) := by decide +kernel
theorem dL_law_521 : decode cL_law 521 = .ok (.dload 7, 2) := by decide +kernel
theorem dL_law_523 : decode cL_law 523 = .ok (.dcmp .l, 1) := by decide +kernel
theorem dL_law_524 : decode cL_law 524 = .ok (.ifCond .eq 25, 3) := by decide +kernel
theorem dL_law_527 : decode cL_law 527 = .ok (.aload 4, 2) := by decide +kernel
theorem dL_law_529 : decode cL_law 529 = .ok (.iconst 0, 1) := by decide +kernel
theorem dL_law_530 : decode cL_law 530 = .ok (.daload, 1) := by decide +kernel
theorem dL_law_531 : decode cL_law 531 = .ok (.aload 4, 2) := by decide +kernel
theorem dL_law_533 : decode cL_law 533 = .ok (.iconst 0, 1) := by decide +kernel
theorem dL_law_534 : decode cL_law 534 = .ok (.daload, 1) := by decide +kernel
theorem dL_law_535 : decode cL_law 535 = .ok (.dcmp .l, 1) := by decide +kernel
theorem dL_law_536 : decode cL_law 536 = .ok (.ifCond .eq 11, 3) := by decide +kernel
theorem dL_law_539 : decode cL_law 539 = .ok (.dload 7, 2) := by decide +kernel
theorem dL_law_541 : decode cL_law 541 = .ok (.dload 7, 2) := by decide +kernel
theorem dL_law_543 : decode cL_law 543 = .ok (.dcmp .l, 1) := by decide +kernel
theorem dL_law_544 : decode cL_law 544 = .ok (.ifCond .ne 5, 3) := by decide +kernel
theorem dL_law_547 : decode cL_law 547 = .ok (.iconst 0, 1) := by decide +kernel
theorem dL_law_548 : decode cL_law 548 = .ok (.ireturn, 1) := by decide +kernel
theorem dL_law_549 : decode cL_law 549 = .ok (.goto 853, 3) := by decide +kernel
theorem dL_law_552 : decode cL_law 552 = .ok (.aload_n 1, 1) := by decide +kernel
theorem dL_law_553 : decode cL_law 553 = .ok (.aload_n 0, 1) := by decide +kernel
theorem dL_law_554 : decode cL_law 554 = .ok (.iload 5, 2) := by decide +kernel
theorem dL_law_556 : decode cL_law 556 = .ok (.iconst 1, 1) := by decide +kernel
theorem dL_law_557 : decode cL_law 557 = .ok (.iadd, 1) := by decide +kernel
theorem dL_law_558 : decode cL_law 558 = .ok (.iaload, 1) := by decide +kernel
theorem dL_law_559 : decode cL_law 559 = .ok (.aload 4, 2) := by decide +kernel
theorem dL_law_561 : decode cL_law 561 = .ok (.invokestatic 120, 3) := by decide +kernel
theorem dL_law_564 : decode cL_law 564 = .ok (.istore 6, 2) := by decide +kernel
theorem dL_law_566 : decode cL_law 566 = .ok (.aload_n 2, 1) := by decide +kernel
theorem dL_law_567 : decode cL_law 567 = .ok (.aload_n 0, 1) := by decide +kernel
theorem dL_law_568 : decode cL_law 568 = .ok (.iload 5, 2) := by decide +kernel
theorem dL_law_570 : decode cL_law 570 = .ok (.iconst 1, 1) := by decide +kernel
theorem dL_law_571 : decode cL_law 571 = .ok (.iadd, 1) := by decide +kernel
theorem dL_law_572 : decode cL_law 572 = .ok (.iaload, 1) := by decide +kernel
theorem dL_law_573 : decode cL_law 573 = .ok (.invokevirtual 122, 3) := by decide +kernel
theorem dL_law_576 : decode cL_law 576 = .ok (.dstore 7, 2) := by decide +kernel
theorem dL_law_578 : decode cL_law 578 = .ok (.aload_n 2, 1) := by decide +kernel
theorem dL_law_579 : decode cL_law 579 = .ok (.invokevirtual 92, 3) := by decide +kernel
theorem dL_law_582 : decode cL_law 582 = .ok (.iload 6, 2) := by decide +kernel
theorem dL_law_584 : decode cL_law 584 = .ok (.if_icmp .eq 5, 3) := by decide +kernel
theorem dL_law_587 : decode cL_law 587 = .ok (.iconst 0, 1) := by decide +kernel
theorem dL_law_588 : decode cL_law 588 = .ok (.ireturn, 1) := by decide +kernel
theorem dL_law_589 : decode cL_law 589 = .ok (.iload 6, 2) := by decide +kernel
theorem dL_law_591 : decode cL_law 591 = .ok (.ifCond .ne 35, 3) := by decide +kernel
theorem dL_law_594 : decode cL_law 594 = .ok (.aload 4, 2) := by decide +kernel
theorem dL_law_596 : decode cL_law 596 = .ok (.iconst 0, 1) := by decide +kernel
theorem dL_law_597 : decode cL_law 597 = .ok (.daload, 1) := by decide +kernel
theorem dL_law_598 : decode cL_law 598 = .ok (.dload 7, 2) := by decide +kernel
theorem dL_law_600 : decode cL_law 600 = .ok (.dcmp .l, 1) := by decide +kernel
theorem dL_law_601 : decode cL_law 601 = .ok (.ifCond .eq 25, 3) := by decide +kernel
theorem dL_law_604 : decode cL_law 604 = .ok (.aload 4, 2) := by decide +kernel
theorem dL_law_606 : decode cL_law 606 = .ok (.iconst 0, 1) := by decide +kernel
theorem dL_law_607 : decode cL_law 607 = .ok (.daload, 1) := by decide +kernel
theorem dL_law_608 : decode cL_law 608 = .ok (.aload 4, 2) := by decide +kernel
theorem dL_law_610 : decode cL_law 610 = .ok (.iconst 0, 1) := by decide +kernel
theorem dL_law_611 : decode cL_law 611 = .ok (.daload, 1) := by decide +kernel
theorem dL_law_612 : decode cL_law 612 = .ok (.dcmp .l, 1) := by decide +kernel
theorem dL_law_613 : decode cL_law 613 = .ok (.ifCond .eq 11, 3) := by decide +kernel
theorem dL_law_616 : decode cL_law 616 = .ok (.dload 7, 2) := by decide +kernel
theorem dL_law_618 : decode cL_law 618 = .ok (.dload 7, 2) := by decide +kernel
theorem dL_law_620 : decode cL_law 620 = .ok (.dcmp .l, 1) := by decide +kernel
theorem dL_law_621 : decode cL_law 621 = .ok (.ifCond .ne 5, 3) := by decide +kernel
theorem dL_law_624 : decode cL_law 624 = .ok (.iconst 0, 1) := by decide +kernel
theorem dL_law_625 : decode cL_law 625 = .ok (.ireturn, 1) := by decide +kernel
theorem dL_law_626 : decode cL_law 626 = .ok (.goto 776, 3) := by decide +kernel
theorem dL_law_629 : decode cL_law 629 = .ok (.aload_n 1, 1) := by decide +kernel
theorem dL_law_630 : decode cL_law 630 = .ok (.aload_n 0, 1) := by decide +kernel
theorem dL_law_631 : decode cL_law 631 = .ok (.iload 5, 2) := by decide +kernel
theorem dL_law_633 : decode cL_law 633 = .ok (.iconst 1, 1) := by decide +kernel
theorem dL_law_634 : decode cL_law 634 = .ok (.iadd, 1) := by decide +kernel
theorem dL_law_635 : decode cL_law 635 = .ok (.iaload, 1) := by decide +kernel
theorem dL_law_636 : decode cL_law 636 = .ok (.aload 4, 2) := by decide +kernel
theorem dL_law_638 : decode cL_law 638 = .ok (.invokestatic 123, 3) := by decide +kernel
theorem dL_law_641 : decode cL_law 641 = .ok (.istore 6, 2) := by decide +kernel
theorem dL_law_643 : decode cL_law 643 = .ok (.aload_n 2, 1) := by decide +kernel
theorem dL_law_644 : decode cL_law 644 = .ok (.aload_n 0, 1) := by decide +kernel
theorem dL_law_645 : decode cL_law 645 = .ok (.iload 5, 2) := by decide +kernel
theorem dL_law_647 : decode cL_law 647 = .ok (.iconst 1, 1) := by decide +kernel
theorem dL_law_648 : decode cL_law 648 = .ok (.iadd, 1) := by decide +kernel
theorem dL_law_649 : decode cL_law 649 = .ok (.iaload, 1) := by decide +kernel
theorem dL_law_650 : decode cL_law 650 = .ok (.invokevirtual 125, 3) := by decide +kernel
theorem dL_law_653 : decode cL_law 653 = .ok (.dstore 7, 2) := by decide +kernel
theorem dL_law_655 : decode cL_law 655 = .ok (.aload_n 2, 1) := by decide +kernel
theorem dL_law_656 : decode cL_law 656 = .ok (.invokevirtual 92, 3) := by decide +kernel
theorem dL_law_659 : decode cL_law 659 = .ok (.iload 6, 2) := by decide +kernel
theorem dL_law_661 : decode cL_law 661 = .ok (.if_icmp .eq 5, 3) := by decide +kernel
theorem dL_law_664 : decode cL_law 664 = .ok (.iconst 0, 1) := by decide +kernel
theorem dL_law_665 : decode cL_law 665 = .ok (.ireturn, 1) := by decide +kernel
theorem dL_law_666 : decode cL_law 666 = .ok (.iload 6, 2) := by decide +kernel
theorem dL_law_668 : decode cL_law 668 = .ok (.ifCond .ne 35, 3) := by decide +kernel
theorem dL_law_671 : decode cL_law 671 = .ok (.aload 4, 2) := by decide +kernel
theorem dL_law_673 : decode cL_law 673 = .ok (.iconst 0, 1) := by decide +kernel
theorem dL_law_674 : decode cL_law 674 = .ok (.daload, 1) := by decide +kernel
theorem dL_law_675 : decode cL_law 675 = .ok (.dload 7, 2) := by decide +kernel
theorem dL_law_677 : decode cL_law 677 = .ok (.dcmp .l, 1) := by decide +kernel
theorem dL_law_678 : decode cL_law 678 = .ok (.ifCond .eq 25, 3) := by decide +kernel
theorem dL_law_681 : decode cL_law 681 = .ok (.aload 4, 2) := by decide +kernel
theorem dL_law_683 : decode cL_law 683 = .ok (.iconst 0, 1) := by decide +kernel
theorem dL_law_684 : decode cL_law 684 = .ok (.daload, 1) := by decide +kernel
theorem dL_law_685 : decode cL_law 685 = .ok (.aload 4, 2) := by decide +kernel
theorem dL_law_687 : decode cL_law 687 = .ok (.iconst 0, 1) := by decide +kernel
theorem dL_law_688 : decode cL_law 688 = .ok (.daload, 1) := by decide +kernel
theorem dL_law_689 : decode cL_law 689 = .ok (.dcmp .l, 1) := by decide +kernel
theorem dL_law_690 : decode cL_law 690 = .ok (.ifCond .eq 11, 3) := by decide +kernel
theorem dL_law_693 : decode cL_law 693 = .ok (.dload 7, 2) := by decide +kernel
theorem dL_law_695 : decode cL_law 695 = .ok (.dload 7, 2) := by decide +kernel
theorem dL_law_697 : decode cL_law 697 = .ok (.dcmp .l, 1) := by decide +kernel
theorem dL_law_698 : decode cL_law 698 = .ok (.ifCond .ne 5, 3) := by decide +kernel
theorem dL_law_701 : decode cL_law 701 = .ok (.iconst 0, 1) := by decide +kernel
theorem dL_law_702 : decode cL_law 702 = .ok (.ireturn, 1) := by decide +kernel
theorem dL_law_703 : decode cL_law 703 = .ok (.goto 699, 3) := by decide +kernel
theorem dL_law_706 : decode cL_law 706 = .ok (.aload_n 1, 1) := by decide +kernel
theorem dL_law_707 : decode cL_law 707 = .ok (.aload_n 0, 1) := by decide +kernel
theorem dL_law_708 : decode cL_law 708 = .ok (.iload 5, 2) := by decide +kernel
theorem dL_law_710 : decode cL_law 710 = .ok (.iconst 1, 1) := by decide +kernel
theorem dL_law_711 : decode cL_law 711 = .ok (.iadd, 1) := by decide +kernel
theorem dL_law_712 : decode cL_law 712 = .ok (.iaload, 1) := by decide +kernel
theorem dL_law_713 : decode cL_law 713 = .ok (.aload_n 0, 1) := by decide +kernel
theorem dL_law_714 : decode cL_law 714 = .ok (.iload 5, 2) := by decide +kernel
theorem dL_law_716 : decode cL_law 716 = .ok (.iconst 2, 1) := by decide +kernel
theorem dL_law_717 : decode cL_law 717 = .ok (.iadd, 1) := by decide +kernel
theorem dL_law_718 : decode cL_law 718 = .ok (.iaload, 1) := by decide +kernel
theorem dL_law_719 : decode cL_law 719 = .ok (.i2d, 1) := by decide +kernel
theorem dL_law_720 : decode cL_law 720 = .ok (.ldc2_w 95, 3) := by decide +kernel
theorem dL_law_723 : decode cL_law 723 = .ok (.dmul, 1) := by decide +kernel
theorem dL_law_724 : decode cL_law 724 = .ok (.invokestatic 126, 3) := by decide +kernel
theorem dL_law_727 : decode cL_law 727 = .ok (.istore 6, 2) := by decide +kernel
theorem dL_law_729 : decode cL_law 729 = .ok (.aload_n 2, 1) := by decide +kernel
theorem dL_law_730 : decode cL_law 730 = .ok (.aload_n 0, 1) := by decide +kernel
theorem dL_law_731 : decode cL_law 731 = .ok (.iload 5, 2) := by decide +kernel
theorem dL_law_733 : decode cL_law 733 = .ok (.iconst 1, 1) := by decide +kernel
theorem dL_law_734 : decode cL_law 734 = .ok (.iadd, 1) := by decide +kernel
theorem dL_law_735 : decode cL_law 735 = .ok (.iaload, 1) := by decide +kernel
theorem dL_law_736 : decode cL_law 736 = .ok (.aload_n 0, 1) := by decide +kernel
theorem dL_law_737 : decode cL_law 737 = .ok (.iload 5, 2) := by decide +kernel
theorem dL_law_739 : decode cL_law 739 = .ok (.iconst 2, 1) := by decide +kernel
theorem dL_law_740 : decode cL_law 740 = .ok (.iadd, 1) := by decide +kernel
theorem dL_law_741 : decode cL_law 741 = .ok (.iaload, 1) := by decide +kernel
theorem dL_law_742 : decode cL_law 742 = .ok (.i2d, 1) := by decide +kernel
theorem dL_law_743 : decode cL_law 743 = .ok (.ldc2_w 95, 3) := by decide +kernel
theorem dL_law_746 : decode cL_law 746 = .ok (.dmul, 1) := by decide +kernel
theorem dL_law_747 : decode cL_law 747 = .ok (.invokevirtual 128, 3) := by decide +kernel
theorem dL_law_750 : decode cL_law 750 = .ok (.aload_n 2, 1) := by decide +kernel
theorem dL_law_751 : decode cL_law 751 = .ok (.invokevirtual 92, 3) := by decide +kernel
theorem dL_law_754 : decode cL_law 754 = .ok (.iload 6, 2) := by decide +kernel
theorem dL_law_756 : decode cL_law 756 = .ok (.if_icmp .eq 5, 3) := by decide +kernel
theorem dL_law_759 : decode cL_law 759 = .ok (.iconst 0, 1) := by decide +kernel
theorem dL_law_760 : decode cL_law 760 = .ok (.ireturn, 1) := by decide +kernel
theorem dL_law_761 : decode cL_law 761 = .ok (.goto 641, 3) := by decide +kernel
theorem dL_law_764 : decode cL_law 764 = .ok (.aload_n 1, 1) := by decide +kernel
theorem dL_law_765 : decode cL_law 765 = .ok (.aload_n 0, 1) := by decide +kernel
theorem dL_law_766 : decode cL_law 766 = .ok (.iload 5, 2) := by decide +kernel
theorem dL_law_768 : decode cL_law 768 = .ok (.iconst 1, 1) := by decide +kernel
theorem dL_law_769 : decode cL_law 769 = .ok (.iadd, 1) := by decide +kernel
theorem dL_law_770 : decode cL_law 770 = .ok (.iaload, 1) := by decide +kernel
theorem dL_law_771 : decode cL_law 771 = .ok (.aload_n 0, 1) := by decide +kernel
theorem dL_law_772 : decode cL_law 772 = .ok (.iload 5, 2) := by decide +kernel
theorem dL_law_774 : decode cL_law 774 = .ok (.iconst 2, 1) := by decide +kernel
theorem dL_law_775 : decode cL_law 775 = .ok (.iadd, 1) := by decide +kernel
theorem dL_law_776 : decode cL_law 776 = .ok (.iaload, 1) := by decide +kernel
theorem dL_law_777 : decode cL_law 777 = .ok (.aload_n 0, 1) := by decide +kernel
theorem dL_law_778 : decode cL_law 778 = .ok (.iload 5, 2) := by decide +kernel
theorem dL_law_780 : decode cL_law 780 = .ok (.iconst 3, 1) := by decide +kernel
theorem dL_law_781 : decode cL_law 781 = .ok (.iadd, 1) := by decide +kernel
theorem dL_law_782 : decode cL_law 782 = .ok (.iaload, 1) := by decide +kernel
theorem dL_law_783 : decode cL_law 783 = .ok (.aload_n 3, 1) := by decide +kernel
theorem dL_law_784 : decode cL_law 784 = .ok (.invokestatic 129, 3) := by decide +kernel
theorem dL_law_787 : decode cL_law 787 = .ok (.istore 6, 2) := by decide +kernel
theorem dL_law_789 : decode cL_law 789 = .ok (.aload_n 2, 1) := by decide +kernel
theorem dL_law_790 : decode cL_law 790 = .ok (.aload_n 0, 1) := by decide +kernel
theorem dL_law_791 : decode cL_law 791 = .ok (.iload 5, 2) := by decide +kernel
theorem dL_law_793 : decode cL_law 793 = .ok (.iconst 1, 1) := by decide +kernel
theorem dL_law_794 : decode cL_law 794 = .ok (.iadd, 1) := by decide +kernel
theorem dL_law_795 : decode cL_law 795 = .ok (.iaload, 1) := by decide +kernel
theorem dL_law_796 : decode cL_law 796 = .ok (.aload_n 0, 1) := by decide +kernel
theorem dL_law_797 : decode cL_law 797 = .ok (.iload 5, 2) := by decide +kernel
theorem dL_law_799 : decode cL_law 799 = .ok (.iconst 2, 1) := by decide +kernel
theorem dL_law_800 : decode cL_law 800 = .ok (.iadd, 1) := by decide +kernel
theorem dL_law_801 : decode cL_law 801 = .ok (.iaload, 1) := by decide +kernel
theorem dL_law_802 : decode cL_law 802 = .ok (.aload_n 0, 1) := by decide +kernel
theorem dL_law_803 : decode cL_law 803 = .ok (.iload 5, 2) := by decide +kernel
theorem dL_law_805 : decode cL_law 805 = .ok (.iconst 3, 1) := by decide +kernel
theorem dL_law_806 : decode cL_law 806 = .ok (.iadd, 1) := by decide +kernel
theorem dL_law_807 : decode cL_law 807 = .ok (.iaload, 1) := by decide +kernel
theorem dL_law_808 : decode cL_law 808 = .ok (.invokevirtual 132, 3) := by decide +kernel
theorem dL_law_811 : decode cL_law 811 = .ok (.istore 7, 2) := by decide +kernel
theorem dL_law_813 : decode cL_law 813 = .ok (.aload_n 2, 1) := by decide +kernel
theorem dL_law_814 : decode cL_law 814 = .ok (.invokevirtual 92, 3) := by decide +kernel
theorem dL_law_817 : decode cL_law 817 = .ok (.iload 6, 2) := by decide +kernel
theorem dL_law_819 : decode cL_law 819 = .ok (.if_icmp .eq 5, 3) := by decide +kernel
theorem dL_law_822 : decode cL_law 822 = .ok (.iconst 0, 1) := by decide +kernel
theorem dL_law_823 : decode cL_law 823 = .ok (.ireturn, 1) := by decide +kernel
theorem dL_law_824 : decode cL_law 824 = .ok (.iload 6, 2) := by decide +kernel
theorem dL_law_826 : decode cL_law 826 = .ok (.ifCond .ne 15, 3) := by decide +kernel
theorem dL_law_829 : decode cL_law 829 = .ok (.aload_n 3, 1) := by decide +kernel
theorem dL_law_830 : decode cL_law 830 = .ok (.iconst 0, 1) := by decide +kernel
theorem dL_law_831 : decode cL_law 831 = .ok (.laload, 1) := by decide +kernel
theorem dL_law_832 : decode cL_law 832 = .ok (.iload 7, 2) := by decide +kernel
theorem dL_law_834 : decode cL_law 834 = .ok (.i2l, 1) := by decide +kernel
theorem dL_law_835 : decode cL_law 835 = .ok (.lcmp, 1) := by decide +kernel
theorem dL_law_836 : decode cL_law 836 = .ok (.ifCond .eq 5, 3) := by decide +kernel
theorem dL_law_839 : decode cL_law 839 = .ok (.iconst 0, 1) := by decide +kernel
theorem dL_law_840 : decode cL_law 840 = .ok (.ireturn, 1) := by decide +kernel
theorem dL_law_841 : decode cL_law 841 = .ok (.goto 561, 3) := by decide +kernel
theorem dL_law_844 : decode cL_law 844 = .ok (.aload_n 1, 1) := by decide +kernel
theorem dL_law_845 : decode cL_law 845 = .ok (.aload_n 0, 1) := by decide +kernel
theorem dL_law_846 : decode cL_law 846 = .ok (.iload 5, 2) := by decide +kernel
theorem dL_law_848 : decode cL_law 848 = .ok (.iconst 1, 1) := by decide +kernel
theorem dL_law_849 : decode cL_law 849 = .ok (.iadd, 1) := by decide +kernel
theorem dL_law_850 : decode cL_law 850 = .ok (.iaload, 1) := by decide +kernel
theorem dL_law_851 : decode cL_law 851 = .ok (.aload_n 0, 1) := by decide +kernel
theorem dL_law_852 : decode cL_law 852 = .ok (.iload 5, 2) := by decide +kernel
theorem dL_law_854 : decode cL_law 854 = .ok (.iconst 2, 1) := by decide +kernel
theorem dL_law_855 : decode cL_law 855 = .ok (.iadd, 1) := by decide +kernel
theorem dL_law_856 : decode cL_law 856 = .ok (.iaload, 1) := by decide +kernel
theorem dL_law_857 : decode cL_law 857 = .ok (.aload_n 0, 1) := by decide +kernel
theorem dL_law_858 : decode cL_law 858 = .ok (.iload 5, 2) := by decide +kernel
theorem dL_law_860 : decode cL_law 860 = .ok (.iconst 3, 1) := by decide +kernel
theorem dL_law_861 : decode cL_law 861 = .ok (.iadd, 1) := by decide +kernel
theorem dL_law_862 : decode cL_law 862 = .ok (.iaload, 1) := by decide +kernel
theorem dL_law_863 : decode cL_law 863 = .ok (.aload_n 0, 1) := by decide +kernel
theorem dL_law_864 : decode cL_law 864 = .ok (.iload 5, 2) := by decide +kernel
theorem dL_law_866 : decode cL_law 866 = .ok (.iconst 4, 1) := by decide +kernel
theorem dL_law_867 : decode cL_law 867 = .ok (.iadd, 1) := by decide +kernel
theorem dL_law_868 : decode cL_law 868 = .ok (.iaload, 1) := by decide +kernel
theorem dL_law_869 : decode cL_law 869 = .ok (.aload_n 0, 1) := by decide +kernel
theorem dL_law_870 : decode cL_law 870 = .ok (.iload 5, 2) := by decide +kernel
theorem dL_law_872 : decode cL_law 872 = .ok (.iconst 5, 1) := by decide +kernel
theorem dL_law_873 : decode cL_law 873 = .ok (.iadd, 1) := by decide +kernel
theorem dL_law_874 : decode cL_law 874 = .ok (.iaload, 1) := by decide +kernel
theorem dL_law_875 : decode cL_law 875 = .ok (.aload_n 3, 1) := by decide +kernel
theorem dL_law_876 : decode cL_law 876 = .ok (.invokestatic 133, 3) := by decide +kernel
theorem dL_law_879 : decode cL_law 879 = .ok (.istore 6, 2) := by decide +kernel
theorem dL_law_881 : decode cL_law 881 = .ok (.aload_n 2, 1) := by decide +kernel
theorem dL_law_882 : decode cL_law 882 = .ok (.aload_n 0, 1) := by decide +kernel
theorem dL_law_883 : decode cL_law 883 = .ok (.iload 5, 2) := by decide +kernel
theorem dL_law_885 : decode cL_law 885 = .ok (.iconst 1, 1) := by decide +kernel
theorem dL_law_886 : decode cL_law 886 = .ok (.iadd, 1) := by decide +kernel
theorem dL_law_887 : decode cL_law 887 = .ok (.iaload, 1) := by decide +kernel
theorem dL_law_888 : decode cL_law 888 = .ok (.aload_n 0, 1) := by decide +kernel
theorem dL_law_889 : decode cL_law 889 = .ok (.iload 5, 2) := by decide +kernel
theorem dL_law_891 : decode cL_law 891 = .ok (.iconst 2, 1) := by decide +kernel
theorem dL_law_892 : decode cL_law 892 = .ok (.iadd, 1) := by decide +kernel
theorem dL_law_893 : decode cL_law 893 = .ok (.iaload, 1) := by decide +kernel
theorem dL_law_894 : decode cL_law 894 = .ok (.aload_n 0, 1) := by decide +kernel
theorem dL_law_895 : decode cL_law 895 = .ok (.iload 5, 2) := by decide +kernel
theorem dL_law_897 : decode cL_law 897 = .ok (.iconst 3, 1) := by decide +kernel
theorem dL_law_898 : decode cL_law 898 = .ok (.iadd, 1) := by decide +kernel
theorem dL_law_899 : decode cL_law 899 = .ok (.iaload, 1) := by decide +kernel
theorem dL_law_900 : decode cL_law 900 = .ok (.aload_n 0, 1) := by decide +kernel
theorem dL_law_901 : decode cL_law 901 = .ok (.iload 5, 2) := by decide +kernel
theorem dL_law_903 : decode cL_law 903 = .ok (.iconst 4, 1) := by decide +kernel
theorem dL_law_904 : decode cL_law 904 = .ok (.iadd, 1) := by decide +kernel
theorem dL_law_905 : decode cL_law 905 = .ok (.iaload, 1) := by decide +kernel
theorem dL_law_906 : decode cL_law 906 = .ok (.aload_n 0, 1) := by decide +kernel
theorem dL_law_907 : decode cL_law 907 = .ok (.iload 5, 2) := by decide +kernel
theorem dL_law_909 : decode cL_law 909 = .ok (.iconst 5, 1) := by decide +kernel
theorem dL_law_910 : decode cL_law 910 = .ok (.iadd, 1) := by decide +kernel
theorem dL_law_911 : decode cL_law 911 = .ok (.iaload, 1) := by decide +kernel
theorem dL_law_912 : decode cL_law 912 = .ok (.invokevirtual 136, 3) := by decide +kernel
theorem dL_law_915 : decode cL_law 915 = .ok (.lstore 7, 2) := by decide +kernel
theorem dL_law_917 : decode cL_law 917 = .ok (.aload_n 2, 1) := by decide +kernel
theorem dL_law_918 : decode cL_law 918 = .ok (.invokevirtual 92, 3) := by decide +kernel
theorem dL_law_921 : decode cL_law 921 = .ok (.iload 6, 2) := by decide +kernel
theorem dL_law_923 : decode cL_law 923 = .ok (.if_icmp .eq 5, 3) := by decide +kernel
theorem dL_law_926 : decode cL_law 926 = .ok (.iconst 0, 1) := by decide +kernel
theorem dL_law_927 : decode cL_law 927 = .ok (.ireturn, 1) := by decide +kernel
theorem dL_law_928 : decode cL_law 928 = .ok (.iload 6, 2) := by decide +kernel
theorem dL_law_930 : decode cL_law 930 = .ok (.ifCond .ne 14, 3) := by decide +kernel
theorem dL_law_933 : decode cL_law 933 = .ok (.aload_n 3, 1) := by decide +kernel
theorem dL_law_934 : decode cL_law 934 = .ok (.iconst 0, 1) := by decide +kernel
theorem dL_law_935 : decode cL_law 935 = .ok (.laload, 1) := by decide +kernel
theorem dL_law_936 : decode cL_law 936 = .ok (.lload 7, 2) := by decide +kernel
theorem dL_law_938 : decode cL_law 938 = .ok (.lcmp, 1) := by decide +kernel
theorem dL_law_939 : decode cL_law 939 = .ok (.ifCond .eq 5, 3) := by decide +kernel
theorem dL_law_942 : decode cL_law 942 = .ok (.iconst 0, 1) := by decide +kernel
theorem dL_law_943 : decode cL_law 943 = .ok (.ireturn, 1) := by decide +kernel
theorem dL_law_944 : decode cL_law 944 = .ok (.goto 458, 3) := by decide +kernel
theorem dL_law_947 : decode cL_law 947 = .ok (.aload_n 1, 1) := by decide +kernel
theorem dL_law_948 : decode cL_law 948 = .ok (.aload_n 0, 1) := by decide +kernel
theorem dL_law_949 : decode cL_law 949 = .ok (.iload 5, 2) := by decide +kernel
theorem dL_law_951 : decode cL_law 951 = .ok (.iconst 1, 1) := by decide +kernel
theorem dL_law_952 : decode cL_law 952 = .ok (.iadd, 1) := by decide +kernel
theorem dL_law_953 : decode cL_law 953 = .ok (.iaload, 1) := by decide +kernel
theorem dL_law_954 : decode cL_law 954 = .ok (.aload_n 0, 1) := by decide +kernel
theorem dL_law_955 : decode cL_law 955 = .ok (.iload 5, 2) := by decide +kernel
theorem dL_law_957 : decode cL_law 957 = .ok (.iconst 2, 1) := by decide +kernel
theorem dL_law_958 : decode cL_law 958 = .ok (.iadd, 1) := by decide +kernel
theorem dL_law_959 : decode cL_law 959 = .ok (.iaload, 1) := by decide +kernel
theorem dL_law_960 : decode cL_law 960 = .ok (.invokestatic 137, 3) := by decide +kernel
theorem dL_law_963 : decode cL_law 963 = .ok (.istore 6, 2) := by decide +kernel
theorem dL_law_965 : decode cL_law 965 = .ok (.aload_n 2, 1) := by decide +kernel
theorem dL_law_966 : decode cL_law 966 = .ok (.aload_n 0, 1) := by decide +kernel
theorem dL_law_967 : decode cL_law 967 = .ok (.iload 5, 2) := by decide +kernel
theorem dL_law_969 : decode cL_law 969 = .ok (.iconst 1, 1) := by decide +kernel
theorem dL_law_970 : decode cL_law 970 = .ok (.iadd, 1) := by decide +kernel
theorem dL_law_971 : decode cL_law 971 = .ok (.iaload, 1) := by decide +kernel
theorem dL_law_972 : decode cL_law 972 = .ok (.aload_n 0, 1) := by decide +kernel
theorem dL_law_973 : decode cL_law 973 = .ok (.iload 5, 2) := by decide +kernel
theorem dL_law_975 : decode cL_law 975 = .ok (.iconst 2, 1) := by decide +kernel
theorem dL_law_976 : decode cL_law 976 = .ok (.iadd, 1) := by decide +kernel
theorem dL_law_977 : decode cL_law 977 = .ok (.iaload, 1) := by decide +kernel
theorem dL_law_978 : decode cL_law 978 = .ok (.invokevirtual 140, 3) := by decide +kernel
theorem dL_law_981 : decode cL_law 981 = .ok (.aload_n 2, 1) := by decide +kernel
theorem dL_law_982 : decode cL_law 982 = .ok (.invokevirtual 92, 3) := by decide +kernel
theorem dL_law_985 : decode cL_law 985 = .ok (.iload 6, 2) := by decide +kernel
theorem dL_law_987 : decode cL_law 987 = .ok (.if_icmp .eq 5, 3) := by decide +kernel
theorem dL_law_990 : decode cL_law 990 = .ok (.iconst 0, 1) := by decide +kernel
theorem dL_law_991 : decode cL_law 991 = .ok (.ireturn, 1) := by decide +kernel
theorem dL_law_992 : decode cL_law 992 = .ok (.goto 410, 3) := by decide +kernel
theorem dL_law_995 : decode cL_law 995 = .ok (.aload_n 1, 1) := by decide +kernel
theorem dL_law_996 : decode cL_law 996 = .ok (.aload_n 0, 1) := by decide +kernel
theorem dL_law_997 : decode cL_law 997 = .ok (.iload 5, 2) := by decide +kernel
theorem dL_law_999 : decode cL_law 999 = .ok (.iconst 1, 1) := by decide +kernel
theorem dL_law_1000 : decode cL_law 1000 = .ok (.iadd, 1) := by decide +kernel
theorem dL_law_1001 : decode cL_law 1001 = .ok (.iaload, 1) := by decide +kernel
theorem dL_law_1002 : decode cL_law 1002 = .ok (.ifCond .eq 7, 3) := by decide +kernel
theorem dL_law_1005 : decode cL_law 1005 = .ok (.iconst 1, 1) := by decide +kernel
theorem dL_law_1006 : decode cL_law 1006 = .ok (.goto 4, 3) := by decide +kernel
theorem dL_law_1009 : decode cL_law 1009 = .ok (.iconst 0, 1) := by decide +kernel
theorem dL_law_1010 : decode cL_law 1010 = .ok (.invokevirtual 141, 3) := by decide +kernel
theorem dL_law_1013 : decode cL_law 1013 = .ok (.aload_n 2, 1) := by decide +kernel
theorem dL_law_1014 : decode cL_law 1014 = .ok (.aload_n 0, 1) := by decide +kernel
theorem dL_law_1015 : decode cL_law 1015 = .ok (.iload 5, 2) := by decide +kernel
theorem dL_law_1017 : decode cL_law 1017 = .ok (.iconst 1, 1) := by decide +kernel
theorem dL_law_1018 : decode cL_law 1018 = .ok (.iadd, 1) := by decide +kernel
theorem dL_law_1019 : decode cL_law 1019 = .ok (.iaload, 1) := by decide +kernel
theorem dL_law_1020 : decode cL_law 1020 = .ok (.ifCond .eq 7, 3) := by decide +kernel
theorem dL_law_1023 : decode cL_law 1023 = .ok (.iconst 1, 1) := by decide +kernel
theorem dL_law_1024 : decode cL_law 1024 = .ok (.goto 4, 3) := by decide +kernel
theorem dL_law_1027 : decode cL_law 1027 = .ok (.iconst 0, 1) := by decide +kernel
theorem dL_law_1028 : decode cL_law 1028 = .ok (.invokevirtual 145, 3) := by decide +kernel
theorem dL_law_1031 : decode cL_law 1031 = .ok (.if_icmp .eq 371, 3) := by decide +kernel
theorem dL_law_1034 : decode cL_law 1034 = .ok (.iconst 0, 1) := by decide +kernel
theorem dL_law_1035 : decode cL_law 1035 = .ok (.ireturn, 1) := by decide +kernel
theorem dL_law_1036 : decode cL_law 1036 = .ok (.aload_n 1, 1) := by decide +kernel
theorem dL_law_1037 : decode cL_law 1037 = .ok (.aload_n 0, 1) := by decide +kernel
theorem dL_law_1038 : decode cL_law 1038 = .ok (.iload 5, 2) := by decide +kernel
theorem dL_law_1040 : decode cL_law 1040 = .ok (.iconst 1, 1) := by decide +kernel
theorem dL_law_1041 : decode cL_law 1041 = .ok (.iadd, 1) := by decide +kernel
theorem dL_law_1042 : decode cL_law 1042 = .ok (.iaload, 1) := by decide +kernel
theorem dL_law_1043 : decode cL_law 1043 = .ok (.i2d, 1) := by decide +kernel
theorem dL_law_1044 : decode cL_law 1044 = .ok (.ldc2_w 95, 3) := by decide +kernel
theorem dL_law_1047 : decode cL_law 1047 = .ok (.dmul, 1) := by decide +kernel
theorem dL_law_1048 : decode cL_law 1048 = .ok (.aload_n 3, 1) := by decide +kernel
theorem dL_law_1049 : decode cL_law 1049 = .ok (.invokestatic 146, 3) := by decide +kernel
theorem dL_law_1052 : decode cL_law 1052 = .ok (.istore 6, 2) := by decide +kernel
theorem dL_law_1054 : decode cL_law 1054 = .ok (.aload_n 2, 1) := by decide +kernel
theorem dL_law_1055 : decode cL_law 1055 = .ok (.aload_n 0, 1) := by decide +kernel
theorem dL_law_1056 : decode cL_law 1056 = .ok (.iload 5, 2) := by decide +kernel
theorem dL_law_1058 : decode cL_law 1058 = .ok (.iconst 1, 1) := by decide +kernel
theorem dL_law_1059 : decode cL_law 1059 = .ok (.iadd, 1) := by decide +kernel
theorem dL_law_1060 : decode cL_law 1060 = .ok (.iaload, 1) := by decide +kernel
theorem dL_law_1061 : decode cL_law 1061 = .ok (.i2d, 1) := by decide +kernel
theorem dL_law_1062 : decode cL_law 1062 = .ok (.ldc2_w 95, 3) := by decide +kernel
theorem dL_law_1065 : decode cL_law 1065 = .ok (.dmul, 1) := by decide +kernel
theorem dL_law_1066 : decode cL_law 1066 = .ok (.invokevirtual 149, 3) := by decide +kernel
theorem dL_law_1069 : decode cL_law 1069 = .ok (.istore 7, 2) := by decide +kernel
theorem dL_law_1071 : decode cL_law 1071 = .ok (.aload_n 2, 1) := by decide +kernel
theorem dL_law_1072 : decode cL_law 1072 = .ok (.invokevirtual 92, 3) := by decide +kernel
theorem dL_law_1075 : decode cL_law 1075 = .ok (.iload 6, 2) := by decide +kernel
theorem dL_law_1077 : decode cL_law 1077 = .ok (.if_icmp .eq 5, 3) := by decide +kernel
theorem dL_law_1080 : decode cL_law 1080 = .ok (.iconst 0, 1) := by decide +kernel
theorem dL_law_1081 : decode cL_law 1081 = .ok (.ireturn, 1) := by decide +kernel
theorem dL_law_1082 : decode cL_law 1082 = .ok (.iload 6, 2) := by decide +kernel
theorem dL_law_1084 : decode cL_law 1084 = .ok (.ifCond .ne 15, 3) := by decide +kernel
theorem dL_law_1087 : decode cL_law 1087 = .ok (.aload_n 3, 1) := by decide +kernel
theorem dL_law_1088 : decode cL_law 1088 = .ok (.iconst 0, 1) := by decide +kernel
theorem dL_law_1089 : decode cL_law 1089 = .ok (.laload, 1) := by decide +kernel
theorem dL_law_1090 : decode cL_law 1090 = .ok (.iload 7, 2) := by decide +kernel
theorem dL_law_1092 : decode cL_law 1092 = .ok (.i2l, 1) := by decide +kernel
theorem dL_law_1093 : decode cL_law 1093 = .ok (.lcmp, 1) := by decide +kernel
theorem dL_law_1094 : decode cL_law 1094 = .ok (.ifCond .eq 5, 3) := by decide +kernel
theorem dL_law_1097 : decode cL_law 1097 = .ok (.iconst 0, 1) := by decide +kernel
theorem dL_law_1098 : decode cL_law 1098 = .ok (.ireturn, 1) := by decide +kernel
theorem dL_law_1099 : decode cL_law 1099 = .ok (.goto 303, 3) := by decide +kernel
theorem dL_law_1102 : decode cL_law 1102 = .ok (.aload_n 1, 1) := by decide +kernel
theorem dL_law_1103 : decode cL_law 1103 = .ok (.aload_n 0, 1) := by decide +kernel
theorem dL_law_1104 : decode cL_law 1104 = .ok (.iload 5, 2) := by decide +kernel
theorem dL_law_1106 : decode cL_law 1106 = .ok (.iconst 1, 1) := by decide +kernel
theorem dL_law_1107 : decode cL_law 1107 = .ok (.iadd, 1) := by decide +kernel
theorem dL_law_1108 : decode cL_law 1108 = .ok (.iaload, 1) := by decide +kernel
theorem dL_law_1109 : decode cL_law 1109 = .ok (.aload_n 0, 1) := by decide +kernel
theorem dL_law_1110 : decode cL_law 1110 = .ok (.iload 5, 2) := by decide +kernel
theorem dL_law_1112 : decode cL_law 1112 = .ok (.iconst 2, 1) := by decide +kernel
theorem dL_law_1113 : decode cL_law 1113 = .ok (.iadd, 1) := by decide +kernel
theorem dL_law_1114 : decode cL_law 1114 = .ok (.iaload, 1) := by decide +kernel
theorem dL_law_1115 : decode cL_law 1115 = .ok (.aload_n 3, 1) := by decide +kernel
theorem dL_law_1116 : decode cL_law 1116 = .ok (.invokestatic 150, 3) := by decide +kernel
theorem dL_law_1119 : decode cL_law 1119 = .ok (.istore 6, 2) := by decide +kernel
theorem dL_law_1121 : decode cL_law 1121 = .ok (.aload_n 2, 1) := by decide +kernel
theorem dL_law_1122 : decode cL_law 1122 = .ok (.aload_n 0, 1) := by decide +kernel
theorem dL_law_1123 : decode cL_law 1123 = .ok (.iload 5, 2) := by decide +kernel
theorem dL_law_1125 : decode cL_law 1125 = .ok (.iconst 1, 1) := by decide +kernel
theorem dL_law_1126 : decode cL_law 1126 = .ok (.iadd, 1) := by decide +kernel
theorem dL_law_1127 : decode cL_law 1127 = .ok (.iaload, 1) := by decide +kernel
theorem dL_law_1128 : decode cL_law 1128 = .ok (.aload_n 0, 1) := by decide +kernel
theorem dL_law_1129 : decode cL_law 1129 = .ok (.iload 5, 2) := by decide +kernel
theorem dL_law_1131 : decode cL_law 1131 = .ok (.iconst 2, 1) := by decide +kernel
theorem dL_law_1132 : decode cL_law 1132 = .ok (.iadd, 1) := by decide +kernel
theorem dL_law_1133 : decode cL_law 1133 = .ok (.iaload, 1) := by decide +kernel
theorem dL_law_1134 : decode cL_law 1134 = .ok (.invokevirtual 153, 3) := by decide +kernel
theorem dL_law_1137 : decode cL_law 1137 = .ok (.istore 7, 2) := by decide +kernel
theorem dL_law_1139 : decode cL_law 1139 = .ok (.aload_n 2, 1) := by decide +kernel
theorem dL_law_1140 : decode cL_law 1140 = .ok (.invokevirtual 92, 3) := by decide +kernel
theorem dL_law_1143 : decode cL_law 1143 = .ok (.iload 6, 2) := by decide +kernel
theorem dL_law_1145 : decode cL_law 1145 = .ok (.if_icmp .eq 5, 3) := by decide +kernel
theorem dL_law_1148 : decode cL_law 1148 = .ok (.iconst 0, 1) := by decide +kernel
theorem dL_law_1149 : decode cL_law 1149 = .ok (.ireturn, 1) := by decide +kernel
theorem dL_law_1150 : decode cL_law 1150 = .ok (.iload 6, 2) := by decide +kernel
theorem dL_law_1152 : decode cL_law 1152 = .ok (.ifCond .ne 15, 3) := by decide +kernel
theorem dL_law_1155 : decode cL_law 1155 = .ok (.aload_n 3, 1) := by decide +kernel
theorem dL_law_1156 : decode cL_law 1156 = .ok (.iconst 0, 1) := by decide +kernel
theorem dL_law_1157 : decode cL_law 1157 = .ok (.laload, 1) := by decide +kernel
theorem dL_law_1158 : decode cL_law 1158 = .ok (.iload 7, 2) := by decide +kernel
theorem dL_law_1160 : decode cL_law 1160 = .ok (.i2l, 1) := by decide +kernel
theorem dL_law_1161 : decode cL_law 1161 = .ok (.lcmp, 1) := by decide +kernel
theorem dL_law_1162 : decode cL_law 1162 = .ok (.ifCond .eq 5, 3) := by decide +kernel
theorem dL_law_1165 : decode cL_law 1165 = .ok (.iconst 0, 1) := by decide +kernel
theorem dL_law_1166 : decode cL_law 1166 = .ok (.ireturn, 1) := by decide +kernel
theorem dL_law_1167 : decode cL_law 1167 = .ok (.goto 235, 3) := by decide +kernel
theorem dL_law_1170 : decode cL_law 1170 = .ok (.aload_n 1, 1) := by decide +kernel
theorem dL_law_1171 : decode cL_law 1171 = .ok (.aload_n 0, 1) := by decide +kernel
theorem dL_law_1172 : decode cL_law 1172 = .ok (.iload 5, 2) := by decide +kernel
theorem dL_law_1174 : decode cL_law 1174 = .ok (.iconst 1, 1) := by decide +kernel
theorem dL_law_1175 : decode cL_law 1175 = .ok (.iadd, 1) := by decide +kernel
theorem dL_law_1176 : decode cL_law 1176 = .ok (.iaload, 1) := by decide +kernel
theorem dL_law_1177 : decode cL_law 1177 = .ok (.aload_n 0, 1) := by decide +kernel
theorem dL_law_1178 : decode cL_law 1178 = .ok (.iload 5, 2) := by decide +kernel
theorem dL_law_1180 : decode cL_law 1180 = .ok (.iconst 2, 1) := by decide +kernel
theorem dL_law_1181 : decode cL_law 1181 = .ok (.iadd, 1) := by decide +kernel
theorem dL_law_1182 : decode cL_law 1182 = .ok (.iaload, 1) := by decide +kernel
theorem dL_law_1183 : decode cL_law 1183 = .ok (.i2d, 1) := by decide +kernel
theorem dL_law_1184 : decode cL_law 1184 = .ok (.ldc2_w 95, 3) := by decide +kernel
theorem dL_law_1187 : decode cL_law 1187 = .ok (.dmul, 1) := by decide +kernel
theorem dL_law_1188 : decode cL_law 1188 = .ok (.aload_n 3, 1) := by decide +kernel
theorem dL_law_1189 : decode cL_law 1189 = .ok (.invokestatic 154, 3) := by decide +kernel
theorem dL_law_1192 : decode cL_law 1192 = .ok (.istore 6, 2) := by decide +kernel
theorem dL_law_1194 : decode cL_law 1194 = .ok (.aload_n 2, 1) := by decide +kernel
theorem dL_law_1195 : decode cL_law 1195 = .ok (.aload_n 0, 1) := by decide +kernel
theorem dL_law_1196 : decode cL_law 1196 = .ok (.iload 5, 2) := by decide +kernel
theorem dL_law_1198 : decode cL_law 1198 = .ok (.iconst 1, 1) := by decide +kernel
theorem dL_law_1199 : decode cL_law 1199 = .ok (.iadd, 1) := by decide +kernel
theorem dL_law_1200 : decode cL_law 1200 = .ok (.iaload, 1) := by decide +kernel
theorem dL_law_1201 : decode cL_law 1201 = .ok (.aload_n 0, 1) := by decide +kernel
theorem dL_law_1202 : decode cL_law 1202 = .ok (.iload 5, 2) := by decide +kernel
theorem dL_law_1204 : decode cL_law 1204 = .ok (.iconst 2, 1) := by decide +kernel
theorem dL_law_1205 : decode cL_law 1205 = .ok (.iadd, 1) := by decide +kernel
theorem dL_law_1206 : decode cL_law 1206 = .ok (.iaload, 1) := by decide +kernel
theorem dL_law_1207 : decode cL_law 1207 = .ok (.i2d, 1) := by decide +kernel
theorem dL_law_1208 : decode cL_law 1208 = .ok (.ldc2_w 95, 3) := by decide +kernel
theorem dL_law_1211 : decode cL_law 1211 = .ok (.dmul, 1) := by decide +kernel
theorem dL_law_1212 : decode cL_law 1212 = .ok (.invokevirtual 156, 3) := by decide +kernel
theorem dL_law_1215 : decode cL_law 1215 = .ok (.istore 7, 2) := by decide +kernel
theorem dL_law_1217 : decode cL_law 1217 = .ok (.aload_n 2, 1) := by decide +kernel
theorem dL_law_1218 : decode cL_law 1218 = .ok (.invokevirtual 92, 3) := by decide +kernel
theorem dL_law_1221 : decode cL_law 1221 = .ok (.iload 6, 2) := by decide +kernel
theorem dL_law_1223 : decode cL_law 1223 = .ok (.if_icmp .eq 5, 3) := by decide +kernel
theorem dL_law_1226 : decode cL_law 1226 = .ok (.iconst 0, 1) := by decide +kernel
theorem dL_law_1227 : decode cL_law 1227 = .ok (.ireturn, 1) := by decide +kernel
theorem dL_law_1228 : decode cL_law 1228 = .ok (.iload 6, 2) := by decide +kernel
theorem dL_law_1230 : decode cL_law 1230 = .ok (.ifCond .ne 15, 3) := by decide +kernel
theorem dL_law_1233 : decode cL_law 1233 = .ok (.aload_n 3, 1) := by decide +kernel
theorem dL_law_1234 : decode cL_law 1234 = .ok (.iconst 0, 1) := by decide +kernel
theorem dL_law_1235 : decode cL_law 1235 = .ok (.laload, 1) := by decide +kernel
theorem dL_law_1236 : decode cL_law 1236 = .ok (.iload 7, 2) := by decide +kernel
theorem dL_law_1238 : decode cL_law 1238 = .ok (.i2l, 1) := by decide +kernel
theorem dL_law_1239 : decode cL_law 1239 = .ok (.lcmp, 1) := by decide +kernel
theorem dL_law_1240 : decode cL_law 1240 = .ok (.ifCond .eq 5, 3) := by decide +kernel
theorem dL_law_1243 : decode cL_law 1243 = .ok (.iconst 0, 1) := by decide +kernel
theorem dL_law_1244 : decode cL_law 1244 = .ok (.ireturn, 1) := by decide +kernel
theorem dL_law_1245 : decode cL_law 1245 = .ok (.goto 157, 3) := by decide +kernel
theorem dL_law_1248 : decode cL_law 1248 = .ok (.aload_n 1, 1) := by decide +kernel
theorem dL_law_1249 : decode cL_law 1249 = .ok (.aload_n 0, 1) := by decide +kernel
theorem dL_law_1250 : decode cL_law 1250 = .ok (.iload 5, 2) := by decide +kernel
theorem dL_law_1252 : decode cL_law 1252 = .ok (.iconst 1, 1) := by decide +kernel
theorem dL_law_1253 : decode cL_law 1253 = .ok (.iadd, 1) := by decide +kernel
theorem dL_law_1254 : decode cL_law 1254 = .ok (.iaload, 1) := by decide +kernel
theorem dL_law_1255 : decode cL_law 1255 = .ok (.aload 4, 2) := by decide +kernel
theorem dL_law_1257 : decode cL_law 1257 = .ok (.invokestatic 157, 3) := by decide +kernel
theorem dL_law_1260 : decode cL_law 1260 = .ok (.istore 6, 2) := by decide +kernel
theorem dL_law_1262 : decode cL_law 1262 = .ok (.aload_n 2, 1) := by decide +kernel
theorem dL_law_1263 : decode cL_law 1263 = .ok (.aload_n 0, 1) := by decide +kernel
theorem dL_law_1264 : decode cL_law 1264 = .ok (.iload 5, 2) := by decide +kernel
theorem dL_law_1266 : decode cL_law 1266 = .ok (.iconst 1, 1) := by decide +kernel
theorem dL_law_1267 : decode cL_law 1267 = .ok (.iadd, 1) := by decide +kernel
theorem dL_law_1268 : decode cL_law 1268 = .ok (.iaload, 1) := by decide +kernel
theorem dL_law_1269 : decode cL_law 1269 = .ok (.invokevirtual 159, 3) := by decide +kernel
theorem dL_law_1272 : decode cL_law 1272 = .ok (.dstore 7, 2) := by decide +kernel
theorem dL_law_1274 : decode cL_law 1274 = .ok (.aload_n 2, 1) := by decide +kernel
theorem dL_law_1275 : decode cL_law 1275 = .ok (.invokevirtual 92, 3) := by decide +kernel
theorem dL_law_1278 : decode cL_law 1278 = .ok (.iload 6, 2) := by decide +kernel
theorem dL_law_1280 : decode cL_law 1280 = .ok (.if_icmp .eq 5, 3) := by decide +kernel
theorem dL_law_1283 : decode cL_law 1283 = .ok (.iconst 0, 1) := by decide +kernel
theorem dL_law_1284 : decode cL_law 1284 = .ok (.ireturn, 1) := by decide +kernel
theorem dL_law_1285 : decode cL_law 1285 = .ok (.iload 6, 2) := by decide +kernel
theorem dL_law_1287 : decode cL_law 1287 = .ok (.ifCond .ne 35, 3) := by decide +kernel
theorem dL_law_1290 : decode cL_law 1290 = .ok (.aload 4, 2) := by decide +kernel
theorem dL_law_1292 : decode cL_law 1292 = .ok (.iconst 0, 1) := by decide +kernel
theorem dL_law_1293 : decode cL_law 1293 = .ok (.daload, 1) := by decide +kernel
theorem dL_law_1294 : decode cL_law 1294 = .ok (.dload 7, 2) := by decide +kernel
theorem dL_law_1296 : decode cL_law 1296 = .ok (.dcmp .l, 1) := by decide +kernel
theorem dL_law_1297 : decode cL_law 1297 = .ok (.ifCond .eq 25, 3) := by decide +kernel
theorem dL_law_1300 : decode cL_law 1300 = .ok (.aload 4, 2) := by decide +kernel
theorem dL_law_1302 : decode cL_law 1302 = .ok (.iconst 0, 1) := by decide +kernel
theorem dL_law_1303 : decode cL_law 1303 = .ok (.daload, 1) := by decide +kernel
theorem dL_law_1304 : decode cL_law 1304 = .ok (.aload 4, 2) := by decide +kernel
theorem dL_law_1306 : decode cL_law 1306 = .ok (.iconst 0, 1) := by decide +kernel
theorem dL_law_1307 : decode cL_law 1307 = .ok (.daload, 1) := by decide +kernel
theorem dL_law_1308 : decode cL_law 1308 = .ok (.dcmp .l, 1) := by decide +kernel
theorem dL_law_1309 : decode cL_law 1309 = .ok (.ifCond .eq 11, 3) := by decide +kernel
theorem dL_law_1312 : decode cL_law 1312 = .ok (.dload 7, 2) := by decide +kernel
theorem dL_law_1314 : decode cL_law 1314 = .ok (.dload 7, 2) := by decide +kernel
theorem dL_law_1316 : decode cL_law 1316 = .ok (.dcmp .l, 1) := by decide +kernel
theorem dL_law_1317 : decode cL_law 1317 = .ok (.ifCond .ne 5, 3) := by decide +kernel
theorem dL_law_1320 : decode cL_law 1320 = .ok (.iconst 0, 1) := by decide +kernel
theorem dL_law_1321 : decode cL_law 1321 = .ok (.ireturn, 1) := by decide +kernel
theorem dL_law_1322 : decode cL_law 1322 = .ok (.goto 80, 3) := by decide +kernel
theorem dL_law_1325 : decode cL_law 1325 = .ok (.aload_n 1, 1) := by decide +kernel
theorem dL_law_1326 : decode cL_law 1326 = .ok (.aload_n 0, 1) := by decide +kernel
theorem dL_law_1327 : decode cL_law 1327 = .ok (.iload 5, 2) := by decide +kernel
theorem dL_law_1329 : decode cL_law 1329 = .ok (.iconst 1, 1) := by decide +kernel
theorem dL_law_1330 : decode cL_law 1330 = .ok (.iadd, 1) := by decide +kernel
theorem dL_law_1331 : decode cL_law 1331 = .ok (.iaload, 1) := by decide +kernel
theorem dL_law_1332 : decode cL_law 1332 = .ok (.aload 4, 2) := by decide +kernel
theorem dL_law_1334 : decode cL_law 1334 = .ok (.invokestatic 160, 3) := by decide +kernel
theorem dL_law_1337 : decode cL_law 1337 = .ok (.istore 6, 2) := by decide +kernel
theorem dL_law_1339 : decode cL_law 1339 = .ok (.aload_n 2, 1) := by decide +kernel
theorem dL_law_1340 : decode cL_law 1340 = .ok (.aload_n 0, 1) := by decide +kernel
theorem dL_law_1341 : decode cL_law 1341 = .ok (.iload 5, 2) := by decide +kernel
theorem dL_law_1343 : decode cL_law 1343 = .ok (.iconst 1, 1) := by decide +kernel
theorem dL_law_1344 : decode cL_law 1344 = .ok (.iadd, 1) := by decide +kernel
theorem dL_law_1345 : decode cL_law 1345 = .ok (.iaload, 1) := by decide +kernel
theorem dL_law_1346 : decode cL_law 1346 = .ok (.invokevirtual 162, 3) := by decide +kernel
theorem dL_law_1349 : decode cL_law 1349 = .ok (.dstore 7, 2) := by decide +kernel
theorem dL_law_1351 : decode cL_law 1351 = .ok (.aload_n 2, 1) := by decide +kernel
theorem dL_law_1352 : decode cL_law 1352 = .ok (.invokevirtual 92, 3) := by decide +kernel
theorem dL_law_1355 : decode cL_law 1355 = .ok (.iload 6, 2) := by decide +kernel
theorem dL_law_1357 : decode cL_law 1357 = .ok (.if_icmp .eq 5, 3) := by decide +kernel
theorem dL_law_1360 : decode cL_law 1360 = .ok (.iconst 0, 1) := by decide +kernel
theorem dL_law_1361 : decode cL_law 1361 = .ok (.ireturn, 1) := by decide +kernel
theorem dL_law_1362 : decode cL_law 1362 = .ok (.iload 6, 2) := by decide +kernel
theorem dL_law_1364 : decode cL_law 1364 = .ok (.ifCond .ne 35, 3) := by decide +kernel
theorem dL_law_1367 : decode cL_law 1367 = .ok (.aload 4, 2) := by decide +kernel
theorem dL_law_1369 : decode cL_law 1369 = .ok (.iconst 0, 1) := by decide +kernel
theorem dL_law_1370 : decode cL_law 1370 = .ok (.daload, 1) := by decide +kernel
theorem dL_law_1371 : decode cL_law 1371 = .ok (.dload 7, 2) := by decide +kernel
theorem dL_law_1373 : decode cL_law 1373 = .ok (.dcmp .l, 1) := by decide +kernel
theorem dL_law_1374 : decode cL_law 1374 = .ok (.ifCond .eq 25, 3) := by decide +kernel
theorem dL_law_1377 : decode cL_law 1377 = .ok (.aload 4, 2) := by decide +kernel
theorem dL_law_1379 : decode cL_law 1379 = .ok (.iconst 0, 1) := by decide +kernel
theorem dL_law_1380 : decode cL_law 1380 = .ok (.daload, 1) := by decide +kernel
theorem dL_law_1381 : decode cL_law 1381 = .ok (.aload 4, 2) := by decide +kernel
theorem dL_law_1383 : decode cL_law 1383 = .ok (.iconst 0, 1) := by decide +kernel
theorem dL_law_1384 : decode cL_law 1384 = .ok (.daload, 1) := by decide +kernel
theorem dL_law_1385 : decode cL_law 1385 = .ok (.dcmp .l, 1) := by decide +kernel
theorem dL_law_1386 : decode cL_law 1386 = .ok (.ifCond .eq 11, 3) := by decide +kernel
theorem dL_law_1389 : decode cL_law 1389 = .ok (.dload 7, 2) := by decide +kernel
theorem dL_law_1391 : decode cL_law 1391 = .ok (.dload 7, 2) := by decide +kernel
theorem dL_law_1393 : decode cL_law 1393 = .ok (.dcmp .l, 1) := by decide +kernel
theorem dL_law_1394 : decode cL_law 1394 = .ok (.ifCond .ne 5, 3) := by decide +kernel
theorem dL_law_1397 : decode cL_law 1397 = .ok (.iconst 0, 1) := by decide +kernel
theorem dL_law_1398 : decode cL_law 1398 = .ok (.ireturn, 1) := by decide +kernel
theorem dL_law_1399 : decode cL_law 1399 = .ok (.goto 3, 3) := by decide +kernel
theorem dL_law_1402 : decode cL_law 1402 = .ok (.iinc 5 6, 3) := by decide +kernel
theorem dL_law_1405 : decode cL_law 1405 = .ok (.goto (-1367), 3) := by decide +kernel
theorem dL_law_1408 : decode cL_law 1408 = .ok (.iconst 1, 1) := by decide +kernel
theorem dL_law_1409 : decode cL_law 1409 = .ok (.ireturn, 1) := by decide +kernel
end
section
/-! doubles up to which NaN: cn -/
def cn (x : UInt64) : UInt64 := if isNaN64 x = true then 0x7ff8000000000000 else x
theorem fp_nan {x : UInt64} : isNaN64 x = true ↔ FP.Core.val64 x = .nan := by
  rw [← FP.Core.dIsNaN_iff, FP.Core.isNaN_bits, isNaN64_iff]
  have h : x.toNat &&& 0x7fffffffffffffff = x.toNat % 2 ^ 63 := Nat.and_two_pow_sub_one_eq_mod x.toNat 63
  rw [h]
theorem fp_nan0 : isNaN64 0x7ff8000000000000 = true := by decide +kernel
theorem cn_nan {x : UInt64} (h : isNaN64 x = true) : cn x = 0x7ff8000000000000 := if_pos h
theorem cn_num {x : UInt64} (h : ¬ isNaN64 x = true) : cn x = x := if_neg h
theorem cn_isn (x : UInt64) : isNaN64 (cn x) = isNaN64 x := by
  by_cases h : isNaN64 x = true
  · rw [cn_nan h, h]; exact fp_nan0
  · rw [cn_num h]
theorem cn_cn (x : UInt64) : cn (cn x) = cn x := by
  by_cases h : isNaN64 x = true
  · rw [cn_nan (x := cn x) (by rw [cn_isn]; exact h), cn_nan h]
  · rw [cn_num (x := cn x) (by rw [cn_isn]; exact h)]
theorem cn_val (x : UInt64) : FP.Core.val64 (cn x) = FP.Core.val64 x := by
  by_cases h : isNaN64 x = true
  · rw [fp_nan.mp h, cn_nan h]; exact fp_nan.mp fp_nan0
  · rw [cn_num h]
theorem cn_al {r v : UInt64} (h : alike64 r v = true) : cn r = cn v := by
  unfold alike64 at h
  rw [Bool.or_eq_true, Bool.and_eq_true, decide_eq_true_eq] at h
  rcases h with rfl | ⟨h1, h2⟩
  · rfl
  · rw [cn_nan h1, cn_nan h2]
theorem cn_eq_num {x y : UInt64} (h : cn x = cn y) (hx : ¬ isNaN64 x = true) : x = y := by
  have hy : ¬ isNaN64 y = true := by rw [← cn_isn, ← h, cn_isn]; exact hx
  rw [cn_num hx, cn_num hy] at h
  exact h
/-- the four operations, and the comparison, on doubles up to NaN -/
def Ad (x y : UInt64) : UInt64 := cn (FP.dadd x y)
def Sb (x y : UInt64) : UInt64 := cn (FP.dsub x y)
def Mu (x y : UInt64) : UInt64 := cn (FP.dmul x y)
def Dv (x y : UInt64) : UInt64 := cn (FP.ddiv x y)
theorem fp_add {a b c d : UInt64} (h : FP.Core.val64 a = FP.Core.val64 c) (g : FP.Core.val64 b = FP.Core.val64 d) : FP.dadd a b = FP.dadd c d := by
  show FP.Core.of64 (FP.Core.round FP.Core.b64 (FP.Core.exactSum (FP.Core.val64 a) (FP.Core.val64 b))) = FP.Core.of64 (FP.Core.round FP.Core.b64 (FP.Core.exactSum (FP.Core.val64 c) (FP.Core.val64 d)))
  rw [h, g]
theorem fp_sub {a b c d : UInt64} (h : FP.Core.val64 a = FP.Core.val64 c) (g : FP.Core.val64 b = FP.Core.val64 d) : FP.dsub a b = FP.dsub c d := by
  show FP.Core.of64 (FP.Core.round FP.Core.b64 (FP.Core.exactSum (FP.Core.val64 a) (FP.Core.negate (FP.Core.val64 b)))) = FP.Core.of64 (FP.Core.round FP.Core.b64 (FP.Core.exactSum (FP.Core.val64 c) (FP.Core.negate (FP.Core.val64 d))))
  rw [h, g]
theorem fp_mul {a b c d : UInt64} (h : FP.Core.val64 a = FP.Core.val64 c) (g : FP.Core.val64 b = FP.Core.val64 d) : FP.dmul a b = FP.dmul c d := by
  show FP.Core.of64 (FP.Core.round FP.Core.b64 (FP.Core.exactProduct (FP.Core.val64 a) (FP.Core.val64 b))) = FP.Core.of64 (FP.Core.round FP.Core.b64 (FP.Core.exactProduct (FP.Core.val64 c) (FP.Core.val64 d)))
  rw [h, g]
theorem fp_div {a b c d : UInt64} (h : FP.Core.val64 a = FP.Core.val64 c) (g : FP.Core.val64 b = FP.Core.val64 d) : FP.ddiv a b = FP.ddiv c d := by
  show FP.Core.of64 (FP.Core.quotient FP.Core.b64 (FP.Core.val64 a) (FP.Core.val64 b)) = FP.Core.of64 (FP.Core.quotient FP.Core.b64 (FP.Core.val64 c) (FP.Core.val64 d))
  rw [h, g]
theorem fp_cmp {a b c d : UInt64} (h : FP.Core.val64 a = FP.Core.val64 c) (g : FP.Core.val64 b = FP.Core.val64 d) : FP.dcmp a b = FP.dcmp c d := by
  show FP.Core.order (FP.Core.val64 a) (FP.Core.val64 b) = FP.Core.order (FP.Core.val64 c) (FP.Core.val64 d)
  rw [h, g]
theorem cn_v {x X : UInt64} (h : cn x = X) : FP.Core.val64 x = FP.Core.val64 X := by rw [← h, cn_val]
theorem cn_add {r x y X Y : UInt64} (h : alike64 r (FP.dadd x y) = true) (hx : cn x = X) (hy : cn y = Y) : cn r = Ad X Y := by
  rw [cn_al h, Ad, fp_add (cn_v hx) (cn_v hy)]
theorem cn_sub {r x y X Y : UInt64} (h : alike64 r (FP.dsub x y) = true) (hx : cn x = X) (hy : cn y = Y) : cn r = Sb X Y := by
  rw [cn_al h, Sb, fp_sub (cn_v hx) (cn_v hy)]
theorem cn_mul {r x y X Y : UInt64} (h : alike64 r (FP.dmul x y) = true) (hx : cn x = X) (hy : cn y = Y) : cn r = Mu X Y := by
  rw [cn_al h, Mu, fp_mul (cn_v hx) (cn_v hy)]
theorem cn_div {r x y X Y : UInt64} (h : alike64 r (FP.ddiv x y) = true) (hx : cn x = X) (hy : cn y = Y) : cn r = Dv X Y := by
  rw [cn_al h, Dv, fp_div (cn_v hx) (cn_v hy)]
theorem cn_cmp {x y X Y : UInt64} (hx : cn x = X) (hy : cn y = Y) : FP.dcmp x y = FP.dcmp X Y := fp_cmp (cn_v hx) (cn_v hy)
/-- an int as a double is no NaN -/
theorem cn_i2d (a : Int32) : cn (FP.i2d a) = FP.i2d a := by
  apply cn_num
  intro h
  have h1 := fp_nan.mp h
  have h2 : FP.dcmp (FP.i2d a) (FP.i2d a) = some (compare a.toInt a.toInt) := FP.Core.dcmp_int (FP.Core.i2d_int a) (FP.Core.i2d_int a)
  have h3 : FP.dcmp (FP.i2d a) (FP.i2d a) = none := (FP.Core.dcmp_none _ _).mpr (Or.inl h1)
  rw [h3] at h2
  cases h2
end
section
/-! the system's world: 72 cells, each of a fixed kind, at addresses ad 0 .. ad 71; what they hold is a memory: ints I, doubles F (or, up to NaN, G), longs J, by cell and place -/
abbrev Im : Type := Nat → Nat → Int32
abbrev Dm : Type := Nat → Nat → UInt64
abbrev Jm : Type := Nat → Nat → Int64
def u2 {α : Type} (M : Nat → Nat → α) (c k : Nat) (v : α) : Nat → Nat → α := fun c' k' => if c' = c ∧ k' = k then v else M c' k'
theorem u2_eq {α : Type} (M : Nat → Nat → α) (c k : Nat) (v : α) : u2 M c k v c k = v := if_pos ⟨rfl, rfl⟩
theorem u2_ne {α : Type} {M : Nat → Nat → α} {c k c' k' : Nat} {v : α} (h : ¬ (c' = c ∧ k' = k)) : u2 M c k v c' k' = M c' k' := if_neg h
theorem u2_up {α : Type} (M : Nat → Nat → α) (c k : Nat) (v : α) : va_up M c (va_up (M c) k v) = u2 M c k v := by
  funext c' k'
  unfold va_up u2
  by_cases h : c' = c
  · subst h
    by_cases h2 : k' = k <;> simp [h2]
  · simp [h]
theorem u2_row {α : Type} (M : Nat → Nat → α) (c k : Nat) (v : α) : u2 M c k v c = va_up (M c) k v := by
  rw [← u2_up]; exact if_pos rfl
theorem va_upid {α : Type} (f : Nat → α) (k : Nat) : va_up f k (f k) = f := by
  funext j; unfold va_up; split
  · next h => rw [h]
  · rfl
abbrev eD (cy : Nat → ClassId) (n : Nat) (f : Nat → UInt64) : va_E := .inl (cy 0, n, .inr (.inr (.inr (.inl f))))
abbrev eI (cy : Nat → ClassId) (n : Nat) (i : Nat → Int32) : va_E := .inl (cy 1, n, .inl i)
abbrev eZ (cy : Nat → ClassId) (n : Nat) (i : Nat → Int32) : va_E := .inl (cy 2, n, .inl i)
abbrev eR (cy : Nat → ClassId) (n : Nat) (g : Nat → Option Nat) : va_E := .inl (cy 3, n, .inr (.inr (.inr (.inr g))))
abbrev eA (cy : Nat → ClassId) (n : Nat) (g : Nat → Option Nat) : va_E := .inl (cy 4, n, .inr (.inr (.inr (.inr g))))
abbrev eJ (cy : Nat → ClassId) (n : Nat) (j : Nat → Int64) : va_E := .inl (cy 5, n, .inr (.inl j))
abbrev fB (i : Nat → Int32) (f : Nat → UInt64) (_ : Nat → Int64) : List Value := [.int (i 0), .double (f 1), .double (f 2), .double (f 3), .double (f 4), .int (i 5), .int (i 6), .double (f 7)]
abbrev fS (ad : Nat → Nat) (i : Nat → Int32) (_ : Nat → UInt64) (_ : Nat → Int64) : List Value := [.int (i 0), .ref (ad 1), .int (i 2), .ref (ad 34), .ref (ad 41), .ref (ad 48), .ref (ad 49), .ref (ad 50)]
abbrev fF (ad : Nat → Nat) (c : Nat) (_ : Nat → Int32) (_ : Nat → UInt64) (_ : Nat → Int64) : List Value := [.ref (ad (c + 1)), .ref (ad (c + 5)), .ref (ad (c + 6))]
abbrev fC (i : Nat → Int32) (_ : Nat → UInt64) (_ : Nat → Int64) : List Value := [.int (i 0), .int (i 1), .int (i 2), .int (i 3)]
abbrev fR (ad : Nat → Nat) (i : Nat → Int32) (_ : Nat → UInt64) (_ : Nat → Int64) : List Value := [.ref (ad 51), .ref (ad 52), .int (i 2), .int (i 3)]
abbrev fM (ad : Nat → Nat) (i : Nat → Int32) (_ : Nat → UInt64) (j : Nat → Int64) : List Value := [.int (i 0), .long (j 1), .int (i 2), .ref (ad 54), .ref (ad 55), .ref (ad 56), .ref (ad 57), .ref (ad 58), .ref (ad 59), .ref (ad 60), .ref (ad 61), .ref (ad 62), .ref (ad 63), .ref (ad 64), .ref (ad 65), .ref (ad 66), .int (i 16), .int (i 17), .int (i 18), .int (i 19), .ref (ad 67), .int (i 21), .ref (ad 68), .ref (ad 69)]
def cE (cy : Nat → ClassId) (ad : Nat → Nat) (c : Nat) (i : Nat → Int32) (f : Nat → UInt64) (j : Nat → Int64) : va_E :=
  if 2 ≤ c ∧ c < 34 then .inr (0, fB i f j) else
  if c = 0 then .inr (4, fS ad i f j) else
  if c = 1 then eR cy 32 (fun k => if k < 32 then some (ad (2 + k)) else none) else
  if c = 34 ∨ c = 41 then .inr (2, fF ad c i f j) else
  if c = 35 ∨ c = 42 then eA cy 3 (fun k => if k < 3 then some (ad (c + 1 + k)) else none) else
  if (36 ≤ c ∧ c < 41) ∨ (43 ≤ c ∧ c < 48) then eD cy 3 f else
  if c = 48 ∨ c = 66 then eD cy 4 f else
  if c = 49 then .inr (1, fC i f j) else
  if c = 50 then .inr (3, fR ad i f j) else
  if c = 51 ∨ c = 68 then eI cy 16 i else
  if c = 52 ∨ c = 69 then eD cy 16 f else
  if c = 53 then .inr (5, fM ad i f j) else
  if c = 54 then eD cy 256 f else
  if c = 55 then eI cy 32 i else
  if c = 56 ∨ c = 57 ∨ c = 58 then eD cy 32 f else
  if c = 59 ∨ c = 60 then eZ cy 32 i else
  if c = 61 then eD cy 9 f else
  if c = 62 ∨ c = 64 ∨ c = 65 then eD cy 3 f else
  if c = 63 then eZ cy 3 i else
  if c = 67 then eZ cy 8192 i else
  if c = 70 then eJ cy 1 j else eD cy 1 f
section
variable {cy : Nat → ClassId} {ad : Nat → Nat} {i : Nat → Int32} {f : Nat → UInt64} {j : Nat → Int64} {c : Nat}
theorem cE_B (h : 2 ≤ c ∧ c < 34) : cE cy ad c i f j = .inr (0, fB i f j) := if_pos h
theorem cE_S : cE cy ad 0 i f j = .inr (4, fS ad i f j) := rfl
theorem cE_1 : cE cy ad 1 i f j = eR cy 32 (fun k => if k < 32 then some (ad (2 + k)) else none) := rfl
theorem cE_F (h : c = 34 ∨ c = 41) : cE cy ad c i f j = .inr (2, fF ad c i f j) := by rcases h with rfl | rfl <;> rfl
theorem cE_F1 (h : c = 34 ∨ c = 41) : cE cy ad (c + 1) i f j = eA cy 3 (fun k => if k < 3 then some (ad (c + 1 + 1 + k)) else none) := by rcases h with rfl | rfl <;> rfl
theorem cE_Fr (h : c = 34 ∨ c = 41) {k : Nat} (hk : k < 3) : cE cy ad (c + 1 + 1 + k) i f j = eD cy 3 f := by
  rcases h with rfl | rfl <;> rcases (show k = 0 ∨ k = 1 ∨ k = 2 by omega) with rfl | rfl | rfl <;> rfl
theorem cE_F5 (h : c = 34 ∨ c = 41) : cE cy ad (c + 5) i f j = eD cy 3 f := by rcases h with rfl | rfl <;> rfl
theorem cE_F6 (h : c = 34 ∨ c = 41) : cE cy ad (c + 6) i f j = eD cy 3 f := by rcases h with rfl | rfl <;> rfl
theorem cE_48 : cE cy ad 48 i f j = eD cy 4 f := rfl
theorem cE_49 : cE cy ad 49 i f j = .inr (1, fC i f j) := rfl
theorem cE_50 : cE cy ad 50 i f j = .inr (3, fR ad i f j) := rfl
theorem cE_51 : cE cy ad 51 i f j = eI cy 16 i := rfl
theorem cE_52 : cE cy ad 52 i f j = eD cy 16 f := rfl
theorem cE_M : cE cy ad 53 i f j = .inr (5, fM ad i f j) := rfl
theorem cE_54 : cE cy ad 54 i f j = eD cy 256 f := rfl
theorem cE_55 : cE cy ad 55 i f j = eI cy 32 i := rfl
theorem cE_56 : cE cy ad 56 i f j = eD cy 32 f := rfl
theorem cE_57 : cE cy ad 57 i f j = eD cy 32 f := rfl
theorem cE_58 : cE cy ad 58 i f j = eD cy 32 f := rfl
theorem cE_59 : cE cy ad 59 i f j = eZ cy 32 i := rfl
theorem cE_60 : cE cy ad 60 i f j = eZ cy 32 i := rfl
theorem cE_61 : cE cy ad 61 i f j = eD cy 9 f := rfl
theorem cE_62 : cE cy ad 62 i f j = eD cy 3 f := rfl
theorem cE_63 : cE cy ad 63 i f j = eZ cy 3 i := rfl
theorem cE_64 : cE cy ad 64 i f j = eD cy 3 f := rfl
theorem cE_65 : cE cy ad 65 i f j = eD cy 3 f := rfl
theorem cE_66 : cE cy ad 66 i f j = eD cy 4 f := rfl
theorem cE_67 : cE cy ad 67 i f j = eZ cy 8192 i := rfl
theorem cE_68 : cE cy ad 68 i f j = eI cy 16 i := rfl
theorem cE_69 : cE cy ad 69 i f j = eD cy 16 f := rfl
theorem cE_70 : cE cy ad 70 i f j = eJ cy 1 j := rfl
theorem cE_71 : cE cy ad 71 i f j = eD cy 1 f := rfl
end
def wW (cy : Nat → ClassId) (ad : Nat → Nat) (I : Im) (F : Dm) (J : Jm) : va_W := (List.range 72).map (fun c => (ad c, cE cy ad c (I c) (F c) (J c)))
section
variable {cy : Nat → ClassId} {ad : Nat → Nat} {I : Im} {F : Dm} {J : Jm}
theorem wat {c : Nat} (hc : c < 72) : (wW cy ad I F J)[c]? = some (ad c, cE cy ad c (I c) (F c) (J c)) := by
  unfold wW
  rw [List.getElem?_map, List.getElem?_range hc]
  rfl
theorem wat' {c : Nat} (hc : c < 72) {e : va_E} (he : cE cy ad c (I c) (F c) (J c) = e) : (wW cy ad I F J)[c]? = some (ad c, e) := by rw [wat hc, he]
theorem wlt {c : Nat} {q : Nat × va_E} (h : (wW cy ad I F J)[c]? = some q) : c < 72 := by
  have := (List.getElem?_eq_some_iff.mp h).1
  simpa [wW] using this
theorem wset {c : Nat} (hc : c < 72) (i : Nat → Int32) (f : Nat → UInt64) (j : Nat → Int64) : (wW cy ad I F J).set c (ad c, cE cy ad c i f j) = wW cy ad (va_up I c i) (va_up F c f) (va_up J c j) := by
  apply List.ext_getElem?
  intro k
  by_cases hk : k < 72
  · rw [wat hk]
    by_cases e : k = c
    · subst e
      rw [List.getElem?_set_self (by simp [wW, hk])]
      simp [va_up]
    · rw [List.getElem?_set_ne (Ne.symm e), wat hk]
      simp [va_up, e]
  · rw [List.getElem?_eq_none (by simp [wW]; omega), List.getElem?_eq_none (by simp [wW]; omega)]
theorem wsetI {c k : Nat} {v : Int32} (hc : c < 72) {e : va_E} (he : e = cE cy ad c (va_up (I c) k v) (F c) (J c)) : (wW cy ad I F J).set c (ad c, e) = wW cy ad (u2 I c k v) F J := by
  rw [he, wset hc, u2_up, va_upid, va_upid]
theorem wsetD {c k : Nat} {v : UInt64} (hc : c < 72) {e : va_E} (he : e = cE cy ad c (I c) (va_up (F c) k v) (J c)) : (wW cy ad I F J).set c (ad c, e) = wW cy ad I (u2 F c k v) J := by
  rw [he, wset hc, u2_up, va_upid, va_upid]
theorem wsetJ {c k : Nat} {v : Int64} (hc : c < 72) {e : va_E} (he : e = cE cy ad c (I c) (F c) (va_up (J c) k v)) : (wW cy ad I F J).set c (ad c, e) = wW cy ad I F (u2 J c k v) := by
  rw [he, wset hc, u2_up, va_upid, va_upid]
end
/-- the addresses are apart -/
def adI (ad : Nat → Nat) : Prop := ∀ c d, c < 72 → d < 72 → ad c = ad d → c = d
/-- what a method of the system may change: the world's cells, and what is new -/
def aA (ad : Nat → Nat) (sz : Nat) : Nat → Prop := fun q => (∃ c, c < 72 ∧ q = ad c) ∨ sz ≤ q
theorem aA_le {ad : Nat → Nat} {a b q : Nat} (h : a ≤ b) (g : aA ad b q) : aA ad a q := g.elim Or.inl (fun g => Or.inr (Nat.le_trans h g))
theorem wD {cy : Nat → ClassId} {ad : Nat → Nat} {I : Im} {F : Dm} {J : Jm} {sz : Nat} (h : adI ad) : va_D (aA ad sz) (wW cy ad I F J) := by
  refine ⟨fun a b p q ha hb hpq => ?_, fun k q hk => ?_⟩
  · have la := wlt ha
    have lb := wlt hb
    rw [wat la] at ha
    rw [wat lb] at hb
    cases ha
    cases hb
    exact h a b la lb hpq
  · have lk := wlt hk
    rw [wat lk] at hk
    cases hk
    exact Or.inl ⟨k, lk, rfl⟩
abbrev tyW (cy : Nat → ClassId) : List (ClassId × FieldType) := [(cy 0, .double), (cy 1, .int), (cy 2, .boolean), (cy 3, .object RX0), (cy 4, .array .double), (cy 5, .long)]
/-! the tables' words that stay while classes warm -/
def okW (w : Cond) : Bool := goodWord w || (match w with | .methodLinkNest .. | .fieldLinkNest .. | .castable .. | .declares .. => true | _ => false)
def tT : List Cond := lw_tbl.filter okW
theorem okW_at {a a' : Array Value} {s U : State} {w : Cond} (hW : s.WarmedH U.vm) (hk : okW w = true) (h : w.before a s = true) : w.before a' U = true := by
  unfold okW at hk
  rw [Bool.or_eq_true] at hk
  rcases hk with hk | hk
  · exact word_at hW (good_of_word hk) h
  · cases w with
    | methodLinkNest a i x b => exact va_Nw.use rfl (va_Nw.warmM hW (va_Nw.of rfl h))
    | fieldLinkNest a i b n d x => exact va_Nw.use rfl (va_Nw.warmF hW (va_Nw.of rfl h))
    | castable C T => exact va_Nw.use rfl (va_Nw.warmC hW (va_Nw.of rfl h))
    | declares x => exact va_Nw.use rfl (va_Nw.warmD hW (va_Nw.of rfl h))
    | _ => simp at hk
theorem tT_at {a a' : Array Value} {s U : State} (hW : s.WarmedH U.vm) (h : ∀ w ∈ tT, w.before a s = true) : ∀ w ∈ tT, w.before a' U = true :=
  fun w hw => okW_at hW (List.mem_filter.mp hw).2 (h w hw)
theorem tT_in {w : Cond} {k : Nat} (h : lw_tbl[k]? = some w) (ho : okW w = true) : w ∈ tT := List.mem_filter.mpr ⟨List.mem_of_getElem? h, ho⟩
/-- the texts of the exceptions, at their constants -/
def tStr : List (Nat × String) := [(55, "no room for a board"), (191, "no such board"), (199, "a number is not as said"), (75, "no room for a row"), (94, "broken before, or out"), (105, "no such number"), (193, "the board is not complete"), (195, "no such class"), (135, "no such part"), (161, "no such what"), (173, "no room for a reference")]
def zZ (A : Nat → Prop) (s : State) (H : Heap) : Prop := vx_Zq Bundle.tN "UNASSIGNED_STACK" Bundle.steD A s H ∧ vx_Zq Bundle.tN "SUPPRESSED_SENTINEL" Bundle.listD A s H
theorem zZ.moved {A : Nat → Prop} {u U : State} {H : Heap} (hvm : u.vm.Alike U.vm) (h : zZ A u H) : zZ A U H := ⟨vx_Zq.moved hvm h.1, vx_Zq.moved hvm h.2⟩
theorem zZ.kept {A : Nat → Prop} {U : State} {H H1 : Heap} (h : zZ A U H) (hq : ∀ a : Nat, a < H.size → ¬ A a → H1[a]? = H[a]?) : zZ A U H1 := ⟨vx_Zq.kept h.1 hq, vx_Zq.kept h.2 hq⟩
theorem zZ.narrow {A B : Nat → Prop} {U : State} {H : Heap} (h : zZ A U H) (hAB : ∀ q, B q → A q) : zZ B U H := ⟨vx_Zq.narrow h.1 hAB, vx_Zq.narrow h.2 hAB⟩
/-- the memory that a heap holds -/
def hW (D : va_G) (cy : Nat → ClassId) (ad : Nat → Nat) (I : Im) (G : Dm) (J : Jm) (H : Heap) : Prop := ∃ F : Dm, (∀ c k, cn (F c k) = G c k) ∧ va_P D vwCl (wW cy ad I F J) H
/-- .. at the entry of a method -/
def preW (D : va_G) (cy : Nat → ClassId) (ad : Nat → Nat) (sz : Nat) (I : Im) (G : Dm) (J : Jm) (U : State) : Prop :=
  U.heap.size = sz ∧ hW D cy ad I G J U.heap ∧ va_K D vwCl (tyW cy) U ∧ (∀ w ∈ tT, w.before #[] U = true) ∧ (∀ q ∈ tStr, ∃ a, vk_R RX4 q.1 q.2 a U) ∧ zZ (aA ad sz) U U.heap
/-- what a walk has at hand: the machine, the code, the words, the classes, the texts -/
def Amb (p : Program) (s : State) (m : MethodId) (args : Array Value) (c : Code) (cc : ByteArray) (nL : Nat) (own : String) (D : va_G) (cy : Nat → ClassId) (ad : Nat → Nat) : Prop :=
  p.tables.exec = Jvm.exec ∧ c.code = cc ∧ c.maxLocals = nL ∧ s.vm.findClass own = some m.cls ∧ (∀ w ∈ tT, w.before args s = true) ∧ va_K D vwCl (tyW cy) s ∧ adI ad ∧ (∀ q ∈ tStr, ∃ a, vk_R RX4 q.1 q.2 a s) ∧ zZ (aA ad s.heap.size) s s.heap
/-- where a walk stands -/
def St (D : va_G) (cy : Nat → ClassId) (ad : Nat → Nat) (H0 : Heap) (I : Im) (G : Dm) (J : Jm) (H : Heap) (locs : List Loc) : Prop := hW D cy ad I G J H ∧ va_S (aA ad H0.size) H0 H locs
theorem hs_self (s : State) : s.WarmedH s.vm := by first | exact State.WarmedH.refl s | exact State.WarmedH.rfl | exact State.warmedH_refl s | exact State.WarmedH.refl _
end
section
/-! rows over the fixed world; a walk always stands over s.setDrawn d0 -/
section
variable {p : Program} {l : Launch} {e : Env} {R : Room} {s : State} {m : MethodId} {args : Array Value} {below : List Frame} {meth : Method} {c : Code} {H : Heap} {locs : List Loc} {cells slots : Nat} {Q : State → Prop}
variable {cc : ByteArray} {nL : Nat} {own : String} {D : va_G} {cy : Nat → ClassId} {ad : Nat → Nat} {I : Im} {G : Dm} {J : Jm} {d0 : Drawn} {pc : Nat} {ls : Array Slot} {rest : List Value}
theorem amK (am : Amb p s m args c cc nL own D cy ad) : va_K D vwCl (tyW cy) (s.setDrawn d0) := va_K.moved (Vm.Alike.refl s.vm) am.2.2.2.2.2.1
theorem amT (am : Amb p s m args c cc nL own D cy ad) : ∀ w ∈ tT, w.before args (s.setDrawn d0) = true := dr_words am.2.2.2.2.1 d0
theorem w_get (am : Amb p s m args c cc nL own D cy ad) (hst : St D cy ad s.heap I G J H locs) {C : String} {T : u_T} {N ci index k cell : Nat} {V : (Nat → Int32) → (Nat → UInt64) → (Nat → Int64) → Value} {fs : (Nat → Int32) → (Nat → UInt64) → (Nat → Int64) → List Value}
    (hc : cell < 72) (hE : ∀ i f j, cE cy ad cell i f j = .inr (ci, fs i f j)) (hcl : vwCl[ci]? = some (C, T, N)) (hin : ∀ w ∈ u_ws C T N, w ∈ tT) (hk : k < N)
    (hw : Cond.fieldLink own index (T k).1 (T k).2.1 (T k).2.2.1 ∈ tT) (hv : ∀ i f j, (fs i f j)[k]? = some (V i f j)) (hdg : decode cc pc = .ok (.getfield index, 3))
    (kk : ∀ F : Dm, (∀ c k, cn (F c k) = G c k) → W p l e R (s.setDrawn d0) m args below meth c H locs cells slots Q (F0 m (pc + 3) ls (V (I cell) (F cell) (J cell) :: rest))) :
    W p l e R (s.setDrawn d0) m args below meth c H locs cells slots Q (F0 m pc ls (.ref (ad cell) :: rest)) := by
  obtain ⟨⟨F, hF, hP⟩, hS⟩ := hst
  exact va_get (ref := (T k).1) am.1 am.2.1 (amT am) hin am.2.2.2.1 (amK am) hP cell (wat' hc (hE _ _ _)) hcl k hk (amT am _ hw) (fun _ h => h) (hv _ _ _) hdg (kk F hF)
theorem w_getN (am : Amb p s m args c cc nL own D cy ad) (hst : St D cy ad s.heap I G J H locs) {C host : String} {T : u_T} {N ci index k cell : Nat} {V : (Nat → Int32) → (Nat → UInt64) → (Nat → Int64) → Value} {fs : (Nat → Int32) → (Nat → UInt64) → (Nat → Int64) → List Value}
    (hc : cell < 72) (hE : ∀ i f j, cE cy ad cell i f j = .inr (ci, fs i f j)) (hcl : vwCl[ci]? = some (C, T, N)) (hin : ∀ w ∈ u_ws C T N, w ∈ tT) (hk : k < N)
    (hw : Cond.fieldLinkNest own index (T k).1 (T k).2.1 (T k).2.2.1 host ∈ tT) (hv : ∀ i f j, (fs i f j)[k]? = some (V i f j)) (hdg : decode cc pc = .ok (.getfield index, 3))
    (kk : ∀ F : Dm, (∀ c k, cn (F c k) = G c k) → W p l e R (s.setDrawn d0) m args below meth c H locs cells slots Q (F0 m (pc + 3) ls (V (I cell) (F cell) (J cell) :: rest))) :
    W p l e R (s.setDrawn d0) m args below meth c H locs cells slots Q (F0 m pc ls (.ref (ad cell) :: rest)) := by
  obtain ⟨⟨F, hF, hP⟩, hS⟩ := hst
  exact va_getN (ref := (T k).1) am.1 am.2.1 (amT am) hin am.2.2.2.1 (amK am) hP cell (wat' hc (hE _ _ _)) hcl k hk (amT am _ hw) (fun _ h => h) (hv _ _ _) hdg (kk F hF)
theorem w_putI (am : Amb p s m args c cc nL own D cy ad) (hst : St D cy ad s.heap I G J H locs) {C : String} {T : u_T} {N ci index k cell : Nat} {ty : FieldType} {v : Int32} {fs : (Nat → Int32) → (Nat → UInt64) → (Nat → Int64) → List Value}
    (hc : cell < 72) (hE : ∀ i f j, cE cy ad cell i f j = .inr (ci, fs i f j)) (hcl : vwCl[ci]? = some (C, T, N)) (hin : ∀ w ∈ u_ws C T N, w ∈ tT) (ty0 : Nat → FieldType) (hty : ∀ k, k < N → parseFieldDescriptor (T k).2.2.1 = some (ty0 k)) (hnm : ∀ a, a < N → ∀ b, b < N → a ≠ b → (T a).2.1 ≠ (T b).2.1) (hk : k < N)
    (hw : Cond.fieldLink own index (T k).1 (T k).2.1 (T k).2.2.1 ∈ tT) (hset : ∀ i f j, (fs i f j).set k (.int v) = fs (va_up i k v) f j) (hlen : ∀ i f j, k < (fs i f j).length) (hfin : (T k).2.2.2 = false) (hd : ty0 k = ty) (hn : narrow ty (.int v) = .int v) (hfit : fits ty (.int v) = true) (hdg : decode cc pc = .ok (.putfield index, 3))
    (kk : ∀ (H1 : Heap) (locs1 : List Loc), St D cy ad s.heap (u2 I cell k v) G J H1 locs1 → W p l e R (s.setDrawn d0) m args below meth c H1 locs1 cells slots Q (F0 m (pc + 3) ls rest)) :
    W p l e R (s.setDrawn d0) m args below meth c H locs cells slots Q (F0 m pc ls (.int v :: .ref (ad cell) :: rest)) := by
  obtain ⟨⟨F, hF, hP⟩, hS⟩ := hst
  exact va_put (s := s.setDrawn d0) (ref := (T k).1) am.1 am.2.1 (amT am) hin ty0 hty hnm am.2.2.2.1 (amK am) hP (wD am.2.2.2.2.2.2.1) hS cell (wat' hc (hE _ _ _)) hcl k hk (amT am _ hw) (fun _ h => h) hfin ((hty k hk).trans (congrArg some hd)) hn hfit (hlen _ _ _) hdg
    (fun H1 locs1 hP1 _ hS1 => kk H1 locs1 ⟨⟨F, hF, by rw [hset, ← hE, wsetI hc rfl] at hP1; exact hP1⟩, hS1⟩)
theorem w_putIN (am : Amb p s m args c cc nL own D cy ad) (hst : St D cy ad s.heap I G J H locs) {C host : String} {T : u_T} {N ci index k cell : Nat} {ty : FieldType} {v : Int32} {fs : (Nat → Int32) → (Nat → UInt64) → (Nat → Int64) → List Value}
    (hc : cell < 72) (hE : ∀ i f j, cE cy ad cell i f j = .inr (ci, fs i f j)) (hcl : vwCl[ci]? = some (C, T, N)) (hin : ∀ w ∈ u_ws C T N, w ∈ tT) (ty0 : Nat → FieldType) (hty : ∀ k, k < N → parseFieldDescriptor (T k).2.2.1 = some (ty0 k)) (hnm : ∀ a, a < N → ∀ b, b < N → a ≠ b → (T a).2.1 ≠ (T b).2.1) (hk : k < N)
    (hw : Cond.fieldLinkNest own index (T k).1 (T k).2.1 (T k).2.2.1 host ∈ tT) (hset : ∀ i f j, (fs i f j).set k (.int v) = fs (va_up i k v) f j) (hlen : ∀ i f j, k < (fs i f j).length) (hfin : (T k).2.2.2 = false) (hd : ty0 k = ty) (hn : narrow ty (.int v) = .int v) (hfit : fits ty (.int v) = true) (hdg : decode cc pc = .ok (.putfield index, 3))
    (kk : ∀ (H1 : Heap) (locs1 : List Loc), St D cy ad s.heap (u2 I cell k v) G J H1 locs1 → W p l e R (s.setDrawn d0) m args below meth c H1 locs1 cells slots Q (F0 m (pc + 3) ls rest)) :
    W p l e R (s.setDrawn d0) m args below meth c H locs cells slots Q (F0 m pc ls (.int v :: .ref (ad cell) :: rest)) := by
  obtain ⟨⟨F, hF, hP⟩, hS⟩ := hst
  exact va_putN (s := s.setDrawn d0) (ref := (T k).1) am.1 am.2.1 (amT am) hin ty0 hty hnm am.2.2.2.1 (amK am) hP (wD am.2.2.2.2.2.2.1) hS cell (wat' hc (hE _ _ _)) hcl k hk (amT am _ hw) (fun _ h => h) hfin ((hty k hk).trans (congrArg some hd)) hn hfit (hlen _ _ _) hdg
    (fun H1 locs1 hP1 _ hS1 => kk H1 locs1 ⟨⟨F, hF, by rw [hset, ← hE, wsetI hc rfl] at hP1; exact hP1⟩, hS1⟩)
theorem cnu {F : Dm} (hF : ∀ c k, cn (F c k) = G c k) {cell k : Nat} {x X : UInt64} (hx : cn x = X) : ∀ a b, cn (u2 F cell k x a b) = u2 G cell k X a b := by
  intro a b
  unfold u2
  split
  · exact hx
  · exact hF a b
theorem w_putD (am : Amb p s m args c cc nL own D cy ad) (hst : St D cy ad s.heap I G J H locs) {C : String} {T : u_T} {N ci index k cell : Nat} {v X : UInt64} {fs : (Nat → Int32) → (Nat → UInt64) → (Nat → Int64) → List Value} (hx : cn v = X)
    (hc : cell < 72) (hE : ∀ i f j, cE cy ad cell i f j = .inr (ci, fs i f j)) (hcl : vwCl[ci]? = some (C, T, N)) (hin : ∀ w ∈ u_ws C T N, w ∈ tT) (ty0 : Nat → FieldType) (hty : ∀ k, k < N → parseFieldDescriptor (T k).2.2.1 = some (ty0 k)) (hnm : ∀ a, a < N → ∀ b, b < N → a ≠ b → (T a).2.1 ≠ (T b).2.1) (hk : k < N)
    (hw : Cond.fieldLink own index (T k).1 (T k).2.1 (T k).2.2.1 ∈ tT) (hset : ∀ i f j, (fs i f j).set k (.double v) = fs i (va_up f k v) j) (hlen : ∀ i f j, k < (fs i f j).length) (hfin : (T k).2.2.2 = false) (hd : ty0 k = .double) (hdg : decode cc pc = .ok (.putfield index, 3))
    (kk : ∀ (H1 : Heap) (locs1 : List Loc), St D cy ad s.heap I (u2 G cell k X) J H1 locs1 → W p l e R (s.setDrawn d0) m args below meth c H1 locs1 cells slots Q (F0 m (pc + 3) ls rest)) :
    W p l e R (s.setDrawn d0) m args below meth c H locs cells slots Q (F0 m pc ls (.double v :: .ref (ad cell) :: rest)) := by
  obtain ⟨⟨F, hF, hP⟩, hS⟩ := hst
  exact va_put (s := s.setDrawn d0) (ref := (T k).1) (ty := .double) am.1 am.2.1 (amT am) hin ty0 hty hnm am.2.2.2.1 (amK am) hP (wD am.2.2.2.2.2.2.1) hS cell (wat' hc (hE _ _ _)) hcl k hk (amT am _ hw) (fun _ h => h) hfin ((hty k hk).trans (congrArg some hd)) rfl rfl (hlen _ _ _) hdg
    (fun H1 locs1 hP1 _ hS1 => kk H1 locs1 ⟨⟨u2 F cell k v, cnu hF hx, by rw [hset, ← hE, wsetD hc rfl] at hP1; exact hP1⟩, hS1⟩)
theorem w_putDN (am : Amb p s m args c cc nL own D cy ad) (hst : St D cy ad s.heap I G J H locs) {C host : String} {T : u_T} {N ci index k cell : Nat} {v X : UInt64} {fs : (Nat → Int32) → (Nat → UInt64) → (Nat → Int64) → List Value} (hx : cn v = X)
    (hc : cell < 72) (hE : ∀ i f j, cE cy ad cell i f j = .inr (ci, fs i f j)) (hcl : vwCl[ci]? = some (C, T, N)) (hin : ∀ w ∈ u_ws C T N, w ∈ tT) (ty0 : Nat → FieldType) (hty : ∀ k, k < N → parseFieldDescriptor (T k).2.2.1 = some (ty0 k)) (hnm : ∀ a, a < N → ∀ b, b < N → a ≠ b → (T a).2.1 ≠ (T b).2.1) (hk : k < N)
    (hw : Cond.fieldLinkNest own index (T k).1 (T k).2.1 (T k).2.2.1 host ∈ tT) (hset : ∀ i f j, (fs i f j).set k (.double v) = fs i (va_up f k v) j) (hlen : ∀ i f j, k < (fs i f j).length) (hfin : (T k).2.2.2 = false) (hd : ty0 k = .double) (hdg : decode cc pc = .ok (.putfield index, 3))
    (kk : ∀ (H1 : Heap) (locs1 : List Loc), St D cy ad s.heap I (u2 G cell k X) J H1 locs1 → W p l e R (s.setDrawn d0) m args below meth c H1 locs1 cells slots Q (F0 m (pc + 3) ls rest)) :
    W p l e R (s.setDrawn d0) m args below meth c H locs cells slots Q (F0 m pc ls (.double v :: .ref (ad cell) :: rest)) := by
  obtain ⟨⟨F, hF, hP⟩, hS⟩ := hst
  exact va_putN (s := s.setDrawn d0) (ref := (T k).1) (ty := .double) am.1 am.2.1 (amT am) hin ty0 hty hnm am.2.2.2.1 (amK am) hP (wD am.2.2.2.2.2.2.1) hS cell (wat' hc (hE _ _ _)) hcl k hk (amT am _ hw) (fun _ h => h) hfin ((hty k hk).trans (congrArg some hd)) rfl rfl (hlen _ _ _) hdg
    (fun H1 locs1 hP1 _ hS1 => kk H1 locs1 ⟨⟨u2 F cell k v, cnu hF hx, by rw [hset, ← hE, wsetD hc rfl] at hP1; exact hP1⟩, hS1⟩)
/-! arrays: cell's array has N places, the index is n -/
theorem w_dald (am : Amb p s m args c cc nL own D cy ad) (hst : St D cy ad s.heap I G J H locs) {cell N n : Nat} {x : Int32} (hc : cell < 72) (hE : ∀ i f j, cE cy ad cell i f j = eD cy N f) (hn : x.toNatClampNeg = n) (hi : vp_in x N) (hdg : decode cc pc = .ok (.daload, 1))
    (kk : ∀ v : UInt64, cn v = G cell n → W p l e R (s.setDrawn d0) m args below meth c H locs cells slots Q (F0 m (pc + 1) ls (.double v :: rest))) :
    W p l e R (s.setDrawn d0) m args below meth c H locs cells slots Q (F0 m pc ls (.int x :: .ref (ad cell) :: rest)) := by
  obtain ⟨⟨F, hF, hP⟩, hS⟩ := hst
  exact va_dald am.1 am.2.1 (amK am) hP cell 0 (wat' hc (hE _ _ _)) rfl hi hdg (by rw [hn]; exact kk _ (hF cell n))
theorem w_iald (am : Amb p s m args c cc nL own D cy ad) (hst : St D cy ad s.heap I G J H locs) {cell N n : Nat} {x : Int32} (hc : cell < 72) (hE : ∀ i f j, cE cy ad cell i f j = eI cy N i) (hn : x.toNatClampNeg = n) (hi : vp_in x N) (hdg : decode cc pc = .ok (.iaload, 1))
    (kk : W p l e R (s.setDrawn d0) m args below meth c H locs cells slots Q (F0 m (pc + 1) ls (.int (I cell n) :: rest))) :
    W p l e R (s.setDrawn d0) m args below meth c H locs cells slots Q (F0 m pc ls (.int x :: .ref (ad cell) :: rest)) := by
  obtain ⟨⟨F, hF, hP⟩, hS⟩ := hst
  exact va_iald am.1 am.2.1 (amK am) hP cell 1 (wat' hc (hE _ _ _)) rfl hi hdg (by rw [hn]; exact kk)
theorem w_zald (am : Amb p s m args c cc nL own D cy ad) (hst : St D cy ad s.heap I G J H locs) {cell N n : Nat} {x : Int32} (hc : cell < 72) (hE : ∀ i f j, cE cy ad cell i f j = eZ cy N i) (hn : x.toNatClampNeg = n) (hi : vp_in x N) (hdg : decode cc pc = .ok (.baload, 1))
    (kk : W p l e R (s.setDrawn d0) m args below meth c H locs cells slots Q (F0 m (pc + 1) ls (.int (I cell n) :: rest))) :
    W p l e R (s.setDrawn d0) m args below meth c H locs cells slots Q (F0 m pc ls (.int x :: .ref (ad cell) :: rest)) := by
  obtain ⟨⟨F, hF, hP⟩, hS⟩ := hst
  exact va_zald am.1 am.2.1 (amK am) hP cell 2 (wat' hc (hE _ _ _)) rfl hi hdg (by rw [hn]; exact kk)
theorem w_lald (am : Amb p s m args c cc nL own D cy ad) (hst : St D cy ad s.heap I G J H locs) {cell N n : Nat} {x : Int32} (hc : cell < 72) (hE : ∀ i f j, cE cy ad cell i f j = eJ cy N j) (hn : x.toNatClampNeg = n) (hi : vp_in x N) (hdg : decode cc pc = .ok (.laload, 1))
    (kk : W p l e R (s.setDrawn d0) m args below meth c H locs cells slots Q (F0 m (pc + 1) ls (.long (J cell n) :: rest))) :
    W p l e R (s.setDrawn d0) m args below meth c H locs cells slots Q (F0 m pc ls (.int x :: .ref (ad cell) :: rest)) := by
  obtain ⟨⟨F, hF, hP⟩, hS⟩ := hst
  exact va_lald am.1 am.2.1 (amK am) hP cell 5 (wat' hc (hE _ _ _)) rfl hi hdg (by rw [hn]; exact kk)
theorem w_alen (am : Amb p s m args c cc nL own D cy ad) (hst : St D cy ad s.heap I G J H locs) {cell t0 : Nat} {x : vp_A} {ty : FieldType} {v : Int32} (hc : cell < 72) (cA : ClassId) (hE : ∀ F : Dm, cE cy ad cell (I cell) (F cell) (J cell) = .inl (cA, x)) (ht : (tyW cy)[t0]? = some (cA, ty)) (hv : Int32.ofNat x.1 = v) (hdg : decode cc pc = .ok (.arraylength, 1))
    (kk : W p l e R (s.setDrawn d0) m args below meth c H locs cells slots Q (F0 m (pc + 1) ls (.int v :: rest))) :
    W p l e R (s.setDrawn d0) m args below meth c H locs cells slots Q (F0 m pc ls (.ref (ad cell) :: rest)) := by
  obtain ⟨⟨F, hF, hP⟩, hS⟩ := hst
  exact va_alen am.1 am.2.1 (amK am) hP cell t0 (wat' hc (hE F)) ht hv hdg kk
theorem w_dast (am : Amb p s m args c cc nL own D cy ad) (hst : St D cy ad s.heap I G J H locs) {cell N n : Nat} {x : Int32} {v X : UInt64} (hx : cn v = X) (hc : cell < 72) (hE : ∀ i f j, cE cy ad cell i f j = eD cy N f) (hn : x.toNatClampNeg = n) (hi : vp_in x N) (hdg : decode cc pc = .ok (.dastore, 1))
    (kk : ∀ (H1 : Heap) (locs1 : List Loc), St D cy ad s.heap I (u2 G cell n X) J H1 locs1 → W p l e R (s.setDrawn d0) m args below meth c H1 locs1 cells slots Q (F0 m (pc + 1) ls rest)) :
    W p l e R (s.setDrawn d0) m args below meth c H locs cells slots Q (F0 m pc ls (.double v :: .int x :: .ref (ad cell) :: rest)) := by
  obtain ⟨⟨F, hF, hP⟩, hS⟩ := hst
  subst hn
  exact va_dast (s := s.setDrawn d0) am.1 am.2.1 (amK am) hP (wD am.2.2.2.2.2.2.1) hS cell 0 (wat' hc (hE _ _ _)) rfl hi hdg
    (fun H1 locs1 hP1 _ hS1 => kk H1 locs1 ⟨⟨u2 F cell x.toNatClampNeg v, cnu hF hx, by have hP2 : va_P D vwCl ((wW cy ad I F J).set cell (ad cell, eD cy N (va_up (F cell) x.toNatClampNeg v))) H1 := hP1; rw [wsetD hc (hE _ _ _).symm] at hP2; exact hP2⟩, hS1⟩)
theorem w_iast (am : Amb p s m args c cc nL own D cy ad) (hst : St D cy ad s.heap I G J H locs) {cell N n : Nat} {x : Int32} {v : Int32} (hc : cell < 72) (hE : ∀ i f j, cE cy ad cell i f j = eI cy N i) (hn : x.toNatClampNeg = n) (hi : vp_in x N) (hdg : decode cc pc = .ok (.iastore, 1))
    (kk : ∀ (H1 : Heap) (locs1 : List Loc), St D cy ad s.heap (u2 I cell n v) G J H1 locs1 → W p l e R (s.setDrawn d0) m args below meth c H1 locs1 cells slots Q (F0 m (pc + 1) ls rest)) :
    W p l e R (s.setDrawn d0) m args below meth c H locs cells slots Q (F0 m pc ls (.int v :: .int x :: .ref (ad cell) :: rest)) := by
  obtain ⟨⟨F, hF, hP⟩, hS⟩ := hst
  subst hn
  exact va_iast (s := s.setDrawn d0) am.1 am.2.1 (amK am) hP (wD am.2.2.2.2.2.2.1) hS cell 1 (wat' hc (hE _ _ _)) rfl hi hdg
    (fun H1 locs1 hP1 _ hS1 => kk H1 locs1 ⟨⟨F, hF, by have hP2 : va_P D vwCl ((wW cy ad I F J).set cell (ad cell, eI cy N (va_up (I cell) x.toNatClampNeg v))) H1 := hP1; rw [wsetI hc (hE _ _ _).symm] at hP2; exact hP2⟩, hS1⟩)
theorem w_zast (am : Amb p s m args c cc nL own D cy ad) (hst : St D cy ad s.heap I G J H locs) {cell N n : Nat} {x : Int32} {v : Int32} (hz : vp_nar .boolean v = v) (hc : cell < 72) (hE : ∀ i f j, cE cy ad cell i f j = eZ cy N i) (hn : x.toNatClampNeg = n) (hi : vp_in x N) (hdg : decode cc pc = .ok (.bastore, 1))
    (kk : ∀ (H1 : Heap) (locs1 : List Loc), St D cy ad s.heap (u2 I cell n v) G J H1 locs1 → W p l e R (s.setDrawn d0) m args below meth c H1 locs1 cells slots Q (F0 m (pc + 1) ls rest)) :
    W p l e R (s.setDrawn d0) m args below meth c H locs cells slots Q (F0 m pc ls (.int v :: .int x :: .ref (ad cell) :: rest)) := by
  obtain ⟨⟨F, hF, hP⟩, hS⟩ := hst
  subst hn
  exact va_zast (s := s.setDrawn d0) am.1 am.2.1 (amK am) hP (wD am.2.2.2.2.2.2.1) hS cell 2 (wat' hc (hE _ _ _)) rfl hi hdg
    (fun H1 locs1 hP1 _ hS1 => kk H1 locs1 ⟨⟨F, hF, by have hP2 : va_P D vwCl ((wW cy ad I F J).set cell (ad cell, eZ cy N (va_up (I cell) x.toNatClampNeg v))) H1 := (by rw [hz] at hP1; exact hP1); rw [wsetI hc (hE _ _ _).symm] at hP2; exact hP2⟩, hS1⟩)
theorem w_last (am : Amb p s m args c cc nL own D cy ad) (hst : St D cy ad s.heap I G J H locs) {cell N n : Nat} {x : Int32} {v : Int64} (hc : cell < 72) (hE : ∀ i f j, cE cy ad cell i f j = eJ cy N j) (hn : x.toNatClampNeg = n) (hi : vp_in x N) (hdg : decode cc pc = .ok (.lastore, 1))
    (kk : ∀ (H1 : Heap) (locs1 : List Loc), St D cy ad s.heap I G (u2 J cell n v) H1 locs1 → W p l e R (s.setDrawn d0) m args below meth c H1 locs1 cells slots Q (F0 m (pc + 1) ls rest)) :
    W p l e R (s.setDrawn d0) m args below meth c H locs cells slots Q (F0 m pc ls (.long v :: .int x :: .ref (ad cell) :: rest)) := by
  obtain ⟨⟨F, hF, hP⟩, hS⟩ := hst
  subst hn
  exact va_last (s := s.setDrawn d0) am.1 am.2.1 (amK am) hP (wD am.2.2.2.2.2.2.1) hS cell 5 (wat' hc (hE _ _ _)) rfl hi hdg
    (fun H1 locs1 hP1 _ hS1 => kk H1 locs1 ⟨⟨F, hF, by have hP2 : va_P D vwCl ((wW cy ad I F J).set cell (ad cell, eJ cy N (va_up (J cell) x.toNatClampNeg v))) H1 := hP1; rw [wsetJ hc (hE _ _ _).symm] at hP2; exact hP2⟩, hS1⟩)
/-- a board out of the boards -/
theorem w_aldR (am : Amb p s m args c cc nL own D cy ad) (hst : St D cy ad s.heap I G J H locs) {n : Nat} {x : Int32} (hn : x.toNatClampNeg = n) (hi : vp_in x 32) (hdg : decode cc pc = .ok (.aaload, 1))
    (kk : W p l e R (s.setDrawn d0) m args below meth c H locs cells slots Q (F0 m (pc + 1) ls (.ref (ad (2 + n)) :: rest))) :
    W p l e R (s.setDrawn d0) m args below meth c H locs cells slots Q (F0 m pc ls (.int x :: .ref (ad 1) :: rest)) := by
  obtain ⟨⟨F, hF, hP⟩, hS⟩ := hst
  have hlt : x.toNatClampNeg < 32 := Nat.not_le.mp fun q => hi (Or.inr q)
  refine va_aldq am.1 am.2.1 (amK am) hP 1 3 (wat' (by decide) cE_1) rfl hi hdg ?_
  rw [if_pos hlt, hn]
  exact kk
/-- a row of a fit's products -/
theorem w_aldA (am : Amb p s m args c cc nL own D cy ad) (hst : St D cy ad s.heap I G J H locs) {b n : Nat} {x : Int32} (hb : b = 34 ∨ b = 41) (hn : x.toNatClampNeg = n) (hi : vp_in x 3) (hdg : decode cc pc = .ok (.aaload, 1))
    (kk : W p l e R (s.setDrawn d0) m args below meth c H locs cells slots Q (F0 m (pc + 1) ls (.ref (ad (b + 1 + 1 + n)) :: rest))) :
    W p l e R (s.setDrawn d0) m args below meth c H locs cells slots Q (F0 m pc ls (.int x :: .ref (ad (b + 1)) :: rest)) := by
  obtain ⟨⟨F, hF, hP⟩, hS⟩ := hst
  have hlt : x.toNatClampNeg < 3 := Nat.not_le.mp fun q => hi (Or.inr q)
  have h1 : (wW cy ad I F J)[b + 1]? = some (ad (b + 1), eA cy 3 (fun k => if k < 3 then some (ad (b + 1 + 1 + k)) else none)) := wat' (by omega) (cE_F1 hb)
  have hg : va_rf (if x.toNatClampNeg < 3 then some (ad (b + 1 + 1 + x.toNatClampNeg)) else none) = .ref (ad (b + 1 + 1 + n)) := by rw [if_pos hlt, hn]; rfl
  exact W.aald (v := .ref (ad (b + 1 + 1 + n))) (ty := .array .double) am.1 am.2.1 (hP (b + 1) _ h1) (((amK am).2 4 _ rfl).1 3 (fun j => va_rf (if j < 3 then some (ad (b + 1 + 1 + j)) else none))) rfl (fun q => by cases q) (by show ¬ (x < 0 ∨ (arrV _ _ _).slots.size ≤ _); rw [arrV_size]; exact hi) (by show (arrV _ _ _).slots[_]? = _; rw [arrV_read _ _ hlt]; exact congrArg some hg) rfl rfl hdg kk
/-! doubles -/
theorem w_dcmp (hx : p.tables.exec = Jvm.exec) (hb : c.code = cc) {x y X Y : UInt64} {op : CmpOp} (h1 : cn x = X) (h2 : cn y = Y) (hdg : decode cc pc = .ok (.dcmp op, 1))
    (kk : W p l e R (s.setDrawn d0) m args below meth c H locs cells slots Q (F0 m (pc + 1) ls (.int (Op.cmpValue (FP.dcmp X Y) op) :: rest))) :
    W p l e R (s.setDrawn d0) m args below meth c H locs cells slots Q (F0 m pc ls (.double y :: .double x :: rest)) := by
  refine lv_dcmp hx hb hdg ?_
  rw [cn_cmp h1 h2]
  exact kk
section
variable (hd : s.drawn.sameBut d0 lw_cs) (hx : p.tables.exec = Jvm.exec) (hb : c.code = cc)
theorem w_dadd (hd : s.drawn.sameBut d0 lw_cs) (hx : p.tables.exec = Jvm.exec) (hb : c.code = cc) {x y X Y : UInt64} (h1 : cn x = X) (h2 : cn y = Y) (hdg : decode cc pc = .ok (.dadd, 1))
    (kk : ∀ (r : UInt64) (d1 : Drawn), cn r = Ad X Y → s.drawn.sameBut d1 lw_cs → W p l e R (s.setDrawn d1) m args below meth c H locs cells slots Q (F0 m (pc + 1) ls (.double r :: rest))) :
    W p l e R (s.setDrawn d0) m args below meth c H locs cells slots Q (F0 m pc ls (.double y :: .double x :: rest)) :=
  lv_dadd_any hd lw_bits hx hb hdg (fun r d1 hal hd1 => kk r d1 (cn_add hal h1 h2) hd1)
theorem w_dsub (hd : s.drawn.sameBut d0 lw_cs) (hx : p.tables.exec = Jvm.exec) (hb : c.code = cc) {x y X Y : UInt64} (h1 : cn x = X) (h2 : cn y = Y) (hdg : decode cc pc = .ok (.dsub, 1))
    (kk : ∀ (r : UInt64) (d1 : Drawn), cn r = Sb X Y → s.drawn.sameBut d1 lw_cs → W p l e R (s.setDrawn d1) m args below meth c H locs cells slots Q (F0 m (pc + 1) ls (.double r :: rest))) :
    W p l e R (s.setDrawn d0) m args below meth c H locs cells slots Q (F0 m pc ls (.double y :: .double x :: rest)) :=
  lv_dsub_any hd lw_bits hx hb hdg (fun r d1 hal hd1 => kk r d1 (cn_sub hal h1 h2) hd1)
theorem w_dmul (hd : s.drawn.sameBut d0 lw_cs) (hx : p.tables.exec = Jvm.exec) (hb : c.code = cc) {x y X Y : UInt64} (h1 : cn x = X) (h2 : cn y = Y) (hdg : decode cc pc = .ok (.dmul, 1))
    (kk : ∀ (r : UInt64) (d1 : Drawn), cn r = Mu X Y → s.drawn.sameBut d1 lw_cs → W p l e R (s.setDrawn d1) m args below meth c H locs cells slots Q (F0 m (pc + 1) ls (.double r :: rest))) :
    W p l e R (s.setDrawn d0) m args below meth c H locs cells slots Q (F0 m pc ls (.double y :: .double x :: rest)) :=
  lv_dmul_any hd lw_bits hx hb hdg (fun r d1 hal hd1 => kk r d1 (cn_mul hal h1 h2) hd1)
theorem w_ddiv (hd : s.drawn.sameBut d0 lw_cs) (hx : p.tables.exec = Jvm.exec) (hb : c.code = cc) {x y X Y : UInt64} (h1 : cn x = X) (h2 : cn y = Y) (hdg : decode cc pc = .ok (.ddiv, 1))
    (kk : ∀ (r : UInt64) (d1 : Drawn), cn r = Dv X Y → s.drawn.sameBut d1 lw_cs → W p l e R (s.setDrawn d1) m args below meth c H locs cells slots Q (F0 m (pc + 1) ls (.double r :: rest))) :
    W p l e R (s.setDrawn d0) m args below meth c H locs cells slots Q (F0 m pc ls (.double y :: .double x :: rest)) :=
  lv_ddiv_any hd lw_bits hx hb hdg (fun r d1 hal hd1 => kk r d1 (cn_div hal h1 h2) hd1)
end
/-- an int as a double -/
theorem w_i2d (hx : p.tables.exec = Jvm.exec) (hb : c.code = cc) {x : Int32} (hdg : decode cc pc = .ok (.i2d, 1))
    (kk : ∀ v : UInt64, cn v = FP.i2d x → W p l e R (s.setDrawn d0) m args below meth c H locs cells slots Q (F0 m (pc + 1) ls (.double v :: rest))) :
    W p l e R (s.setDrawn d0) m args below meth c H locs cells slots Q (F0 m pc ls (.int x :: rest)) :=
  lv_i2d hx hb hdg (kk _ (cn_i2d x))
end
end
section
/-! contracts over the fixed world, their starts and ends, and calls by them -/
theorem inT0 : ∀ w ∈ u_ws RX0 TX0 8, w ∈ tT := by decide +kernel
theorem inT1 : ∀ w ∈ u_ws RX1 TX1 4, w ∈ tT := by decide +kernel
theorem inT2 : ∀ w ∈ u_ws RX2 TX2 3, w ∈ tT := by decide +kernel
theorem inT3 : ∀ w ∈ u_ws RX3 TX3 4, w ∈ tT := by decide +kernel
theorem inT4 : ∀ w ∈ u_ws RX4 TX4 8, w ∈ tT := by decide +kernel
theorem inT5 : ∀ w ∈ u_ws RX5 TX5 24, w ∈ tT := by decide +kernel
abbrev rmK (fr mc ms lo : Nat) : Room := { frames := fr, cells := mc, slots := ms, locals := lo }
abbrev QcT : Type := Array Value → State → Outcome → State → Prop
/-- what a method answers, and the memory behind it -/
abbrev qI (D : va_G) (cy ad : Nat → Nat) (r : Int32) (I : Im) (G : Dm) (J : Jm) (sz : Nat) : QcT := va_Qi (fun x (_ : Unit) => x = r) (fun _ t => hW D cy ad I G J t.heap) (aA ad sz)
abbrev qL (D : va_G) (cy ad : Nat → Nat) (r : Int64) (I : Im) (G : Dm) (J : Jm) (sz : Nat) : QcT := va_Ql (fun x (_ : Unit) => x = r) (fun _ t => hW D cy ad I G J t.heap) (aA ad sz)
abbrev qD (D : va_G) (cy ad : Nat → Nat) (r : UInt64) (I : Im) (G : Dm) (J : Jm) (sz : Nat) : QcT := va_Qd (fun x (_ : Unit) => cn x = r) (fun _ t => hW D cy ad I G J t.heap) (aA ad sz)
abbrev qV (D : va_G) (cy ad : Nat → Nat) (I : Im) (G : Dm) (J : Jm) (sz : Nat) : QcT := va_Qv (fun (_ : Unit) => True) (fun _ t => hW D cy ad I G J t.heap) (aA ad sz)
abbrev qR (D : va_G) (cy ad : Nat → Nat) (k : Nat) (I : Im) (G : Dm) (J : Jm) (sz : Nat) : QcT := va_Qr (fun (_ : Unit) => True) (fun _ a t => a = ad k ∧ hW D cy ad I G J t.heap) (aA ad sz)
/-- .. and what it throws -/
abbrev qX (D : va_G) (cy ad : Nat → Nat) (E : String) (I : Im) (G : Dm) (J : Jm) (sz : Nat) : String → State → State → Prop := vx_X (fun (_ : Unit) => True) (fun E' _ t => E' = E ∧ hW D cy ad I G J t.heap) (aA ad sz)
abbrev kM (l : Launch) (y : MethodName) (w : Cond) (rm : Room) (D : va_G) (cy ad : Nat → Nat) (av : List Value) (I : Im) (G : Dm) (J : Jm) (Qc : Nat → QcT) : Prop :=
  ∀ sz, Met l y [w] rm (va_Pc av (preW D cy ad sz I G J)) (Qc sz) rm.cells rm.slots (aA ad sz)
abbrev kD (l : Launch) (y : MethodName) (w : Cond) (rm : Room) (D : va_G) (cy ad : Nat → Nat) (av : List Value) (I : Im) (G : Dm) (J : Jm) (Qc : Nat → QcT) : Prop :=
  ∀ sz, MetD lw_cs l y [w] rm (va_Pc av (preW D cy ad sz I G J)) (Qc sz) rm.cells rm.slots (aA ad sz)
abbrev kX (l : Launch) (y : MethodName) (w : Cond) (rm : Room) (D : va_G) (cy ad : Nat → Nat) (av : List Value) (I : Im) (G : Dm) (J : Jm) (E : String) : Prop :=
  ∀ sz, vx_Met l y [w] rm (va_Pc av (preW D cy ad sz I G J)) (fun _ _ _ _ => False) (qX D cy ad E I G J sz) 1 6 (aA ad sz)
section
variable {l : Launch} {y : MethodName} {D : va_G} {cy ad : Nat → Nat} {av : List Value} {I : Im} {G : Dm} {J : Jm} {Qc : Nat → QcT} {cc : ByteArray} {nL : Nat} {ret : Option FieldType} {rm : Room} {E : String} {hh : List (Nat × Nat × Nat × Nat)}
theorem start_M (hadI : adI ad) (hy : plainName y.cls = true) (hn : (lg_sl av).length ≤ nL)
    (body : ∀ (p : Program) (e : Env) (s : State) (m : MethodId) (below : List Frame) (meth : Method) (c : Code), Amb p s m av.toArray c cc nL y.cls D cy ad → p.tables.exec = Jvm.exec → c.code = cc → meth.sig.returnType = ret → meth.locks = false → St D cy ad s.heap I G J s.heap [] → ∀ ls, lv_has ls nL (lv_args 0 av) →
      W p l e rm (s.setDrawn s.drawn) m av.toArray below meth c s.heap [] 0 0 (MQ below (Qc s.heap.size) av.toArray s rm.cells rm.slots (aA ad s.heap.size)) (F0 m 0 ls [])) :
    kM l y (.code y cc nL ret) rm D cy ad av I G J Qc := by
  intro sz
  refine Met.ofW (cc := cc) (maxL := nL) (ret := ret) hy rfl ?_
  intro p e s m args below meth c s₁ B hml hv
  obtain ⟨rfl, hsz, hmem, hK, hT, hStr, hZ⟩ := hv
  subst hsz
  have hl := lv_entry av (n := nL) hn
  rw [lg_entry_eq]
  exact body p e s m below meth c ⟨B.exec, B.bytes, hml, findClass_of_methodNamed B.named, tT_at (State.WarmedH.refl s) hT, hK, hadI, hStr, hZ⟩ B.exec B.bytes B.returns B.notSynchronized ⟨hmem, va_S.rf⟩ _ hl
theorem start_D (hadI : adI ad) (hy : plainName y.cls = true) (hn : (lg_sl av).length ≤ nL)
    (body : ∀ (p : Program) (e : Env) (s : State) (m : MethodId) (below : List Frame) (meth : Method) (c : Code), Amb p s m av.toArray c cc nL y.cls D cy ad → p.tables.exec = Jvm.exec → c.code = cc → meth.sig.returnType = ret → meth.locks = false → St D cy ad s.heap I G J s.heap [] → ∀ ls, lv_has ls nL (lv_args 0 av) → ∀ d0, s.drawn.sameBut d0 lw_cs →
      W p l e rm (s.setDrawn d0) m av.toArray below meth c s.heap [] 0 0 (MQD lw_cs below (Qc s.heap.size) av.toArray s rm.cells rm.slots (aA ad s.heap.size)) (F0 m 0 ls [])) :
    kD l y (.code y cc nL ret) rm D cy ad av I G J Qc := by
  intro sz
  refine MetD.ofW (cc := cc) (maxL := nL) (ret := ret) hy rfl ?_
  intro p e s m args below meth c s₁ B hml hv hd0
  obtain ⟨rfl, hsz, hmem, hK, hT, hStr, hZ⟩ := hv
  subst hsz
  have hl := lv_entry av (n := nL) hn
  rw [lg_entry_eq]
  exact body p e s m below meth c ⟨B.exec, B.bytes, hml, findClass_of_methodNamed B.named, tT_at (State.WarmedH.refl s) hT, hK, hadI, hStr, hZ⟩ B.exec B.bytes B.returns B.notSynchronized ⟨hmem, va_S.rf⟩ _ hl _ hd0
theorem start_X (hadI : adI ad) (hy : plainName y.cls = true) (hn : (lg_sl av).length ≤ nL)
    (body : ∀ (p : Program) (e : Env) (s : State) (m : MethodId) (below : List Frame) (meth : Method) (c : Code), Amb p s m av.toArray c cc nL y.cls D cy ad → p.tables.exec = Jvm.exec → c.code = cc → (∀ x ∈ c.exceptionTable.toList, False) → meth.locks = false → St D cy ad s.heap I G J s.heap [] → ∀ ls, lv_has ls nL (lv_args 0 av) →
      W p l e rm (s.setDrawn s.drawn) m av.toArray below meth c s.heap [] 0 0 (vx_MQ below (fun _ _ _ _ => False) (qX D cy ad E I G J s.heap.size) av.toArray s 1 6 (aA ad s.heap.size)) (F0 m 0 ls [])) :
    kX l y (.code y cc nL ret) rm D cy ad av I G J E := by
  intro sz
  refine vx_ofW (cc := cc) (maxL := nL) (ret := ret) hy rfl ?_
  intro p e s m args below meth c s₁ B hml hout hv
  obtain ⟨rfl, hsz, hmem, hK, hT, hStr, hZ⟩ := hv
  subst hsz
  have hl := lv_entry av (n := nL) hn
  rw [lg_entry_eq]
  exact body p e s m below meth c ⟨B.exec, B.bytes, hml, findClass_of_methodNamed B.named, tT_at (State.WarmedH.refl s) hT, hK, hadI, hStr, hZ⟩ B.exec B.bytes hout B.notSynchronized ⟨hmem, va_S.rf⟩ _ hl
end
/-! ends -/
theorem hW_at {D : va_G} {cy ad : Nat → Nat} {I : Im} {G : Dm} {J : Jm} {t : State} {H : Heap} (h : hW D cy ad I G J H) (ht : t.heap = H) : hW D cy ad I G J t.heap := by rw [ht]; exact h
section
variable {p : Program} {l : Launch} {e : Env} {R : Room} {s : State} {m : MethodId} {args : Array Value} {below : List Frame} {meth : Method} {c : Code} {H : Heap} {locs : List Loc} {cells slots : Nat} {Q : State → Prop}
variable {cc : ByteArray} {nL : Nat} {own : String} {D : va_G} {cy : Nat → ClassId} {ad : Nat → Nat} {I : Im} {G : Dm} {J : Jm} {d0 : Drawn} {pc : Nat} {ls : Array Slot} {rest : List Value}
theorem e_i (hx : p.tables.exec = Jvm.exec) (hb : c.code = cc) {ty : FieldType} (hr : meth.sig.returnType = some ty) (hlk : meth.locks = false) (hst : St D cy ad s.heap I G J H locs) {r v : Int32} (hn : narrow ty (.int v) = .int v) (hv : v = r) (hdg : decode cc pc = .ok (.ireturn, 1)) :
    W p l e R (s.setDrawn s.drawn) m args below meth c H locs cells slots (MQ below (qI D cy ad r I G J s.heap.size) args s cells slots (aA ad s.heap.size)) (F0 m pc ls [.int v]) :=
  W.zret (s := s) hx hb hr hn (fun t ht _ => ⟨⟨v, (), rfl, hv, hW_at hst.1 ht⟩, hst.2.F ht⟩) hst.2.2.2 hdg hlk
theorem e_l (hx : p.tables.exec = Jvm.exec) (hb : c.code = cc) (hr : meth.sig.returnType = some .long) (hlk : meth.locks = false) (hst : St D cy ad s.heap I G J H locs) {r v : Int64} (hv : v = r) (hdg : decode cc pc = .ok (.lreturn, 1)) :
    W p l e R (s.setDrawn s.drawn) m args below meth c H locs cells slots (MQ below (qL D cy ad r I G J s.heap.size) args s cells slots (aA ad s.heap.size)) (F0 m pc ls [.long v]) :=
  W.lret (s := s) hx hb hr (fun t ht _ => ⟨⟨v, (), rfl, hv, hW_at hst.1 ht⟩, hst.2.F ht⟩) hst.2.2.2 hdg hlk
theorem e_d (hx : p.tables.exec = Jvm.exec) (hb : c.code = cc) (hr : meth.sig.returnType = some .double) (hlk : meth.locks = false) (hst : St D cy ad s.heap I G J H locs) {r v : UInt64} (hv : cn v = r) (hdg : decode cc pc = .ok (.dreturn, 1)) :
    W p l e R (s.setDrawn s.drawn) m args below meth c H locs cells slots (MQ below (qD D cy ad r I G J s.heap.size) args s cells slots (aA ad s.heap.size)) (F0 m pc ls [.double v]) :=
  W.dret (s := s) hx hb hr (fun t ht _ => ⟨⟨v, (), rfl, hv, hW_at hst.1 ht⟩, hst.2.F ht⟩) hst.2.2.2 hdg hlk
theorem e_v (hx : p.tables.exec = Jvm.exec) (hb : c.code = cc) (hr : meth.sig.returnType = none) (hlk : meth.locks = false) (hst : St D cy ad s.heap I G J H locs) (hdg : decode cc pc = .ok (.return_, 1)) :
    W p l e R (s.setDrawn s.drawn) m args below meth c H locs cells slots (MQ below (qV D cy ad I G J s.heap.size) args s cells slots (aA ad s.heap.size)) (F0 m pc ls []) :=
  W.vret (s := s) hx hb hr (fun t ht _ => ⟨⟨(), rfl, trivial, hW_at hst.1 ht⟩, hst.2.F ht⟩) hst.2.2.2 hdg hlk
theorem e_r (hx : p.tables.exec = Jvm.exec) (hb : c.code = cc) {C : String} (hr : meth.sig.returnType = some (.object C)) (hlk : meth.locks = false) (hst : St D cy ad s.heap I G J H locs) {k : Nat} (hdg : decode cc pc = .ok (.areturn, 1)) :
    W p l e R (s.setDrawn s.drawn) m args below meth c H locs cells slots (MQ below (qR D cy ad k I G J s.heap.size) args s cells slots (aA ad s.heap.size)) (F0 m pc ls [.ref (ad k)]) :=
  W.aret (s := s) hx hb hr (Or.inl ⟨_, rfl⟩) (Or.inr ⟨_, rfl⟩) (fun t ht _ => ⟨⟨(), ad k, rfl, trivial, rfl, hW_at hst.1 ht⟩, hst.2.F ht⟩) hst.2.2.2 hdg hlk
theorem e_iD (hd : s.drawn.sameBut d0 lw_cs) (hx : p.tables.exec = Jvm.exec) (hb : c.code = cc) {ty : FieldType} (hr : meth.sig.returnType = some ty) (hlk : meth.locks = false) (hst : St D cy ad s.heap I G J H locs) {r v : Int32} (hn : narrow ty (.int v) = .int v) (hv : v = r) (hdg : decode cc pc = .ok (.ireturn, 1)) :
    W p l e R (s.setDrawn d0) m args below meth c H locs cells slots (MQD lw_cs below (qI D cy ad r I G J s.heap.size) args s cells slots (aA ad s.heap.size)) (F0 m pc ls [.int v]) :=
  W.endD hd (W.zret (s := s.setDrawn d0) hx hb hr hn (fun t ht _ => ⟨⟨v, (), rfl, hv, hW_at hst.1 ht⟩, hst.2.F (s := s.setDrawn d0) ht⟩) hst.2.2.2 hdg hlk)
theorem e_dD (hd : s.drawn.sameBut d0 lw_cs) (hx : p.tables.exec = Jvm.exec) (hb : c.code = cc) (hr : meth.sig.returnType = some .double) (hlk : meth.locks = false) (hst : St D cy ad s.heap I G J H locs) {r v : UInt64} (hv : cn v = r) (hdg : decode cc pc = .ok (.dreturn, 1)) :
    W p l e R (s.setDrawn d0) m args below meth c H locs cells slots (MQD lw_cs below (qD D cy ad r I G J s.heap.size) args s cells slots (aA ad s.heap.size)) (F0 m pc ls [.double v]) :=
  W.endD hd (W.dret (s := s.setDrawn d0) hx hb hr (fun t ht _ => ⟨⟨v, (), rfl, hv, hW_at hst.1 ht⟩, hst.2.F (s := s.setDrawn d0) ht⟩) hst.2.2.2 hdg hlk)
theorem e_vD (hd : s.drawn.sameBut d0 lw_cs) (hx : p.tables.exec = Jvm.exec) (hb : c.code = cc) (hr : meth.sig.returnType = none) (hlk : meth.locks = false) (hst : St D cy ad s.heap I G J H locs) (hdg : decode cc pc = .ok (.return_, 1)) :
    W p l e R (s.setDrawn d0) m args below meth c H locs cells slots (MQD lw_cs below (qV D cy ad I G J s.heap.size) args s cells slots (aA ad s.heap.size)) (F0 m pc ls []) :=
  W.endD hd (W.vret (s := s.setDrawn d0) hx hb hr (fun t ht _ => ⟨⟨(), rfl, trivial, hW_at hst.1 ht⟩, hst.2.F (s := s.setDrawn d0) ht⟩) hst.2.2.2 hdg hlk)
end
/-! calls: the words of a call, and the runs -/
def cwK (w : Cond) (own : String) (index : Nat) (y : MethodName) (n : Nat) : Prop :=
  w ∈ tT ∧ Cond.methodLink own index y ∈ tT ∧ Cond.initialized y.cls ∈ tT ∧ (y.cls ≠ "java/lang/invoke/MethodHandle" ∧ y.cls ≠ "java/lang/invoke/VarHandle") ∧ (parseMethodDescriptor y.desc).map (fun d => d.parameters.length) = some n
def cwN (w : Cond) (own : String) (index : Nat) (y : MethodName) (host : String) (n : Nat) : Prop :=
  w ∈ tT ∧ Cond.methodLinkNest own index y host ∈ tT ∧ Cond.initialized y.cls ∈ tT ∧ (y.cls ≠ "java/lang/invoke/MethodHandle" ∧ y.cls ≠ "java/lang/invoke/VarHandle") ∧ (parseMethodDescriptor y.desc).map (fun d => d.parameters.length) = some n
theorem fb_preW {D : va_G} {cy ad : Nat → Nat} {sz : Nat} {I : Im} {G : Dm} {J : Jm} {av : List Value} : FrameBlind (va_Pc av (preW D cy ad sz I G J)) := by
  intro a U g mk h
  obtain ⟨h1, h2, h3, h4, h5, h6, h7⟩ := h
  have hW : U.WarmedH (U.calling g mk a).vm := State.WarmedH.refl U
  exact ⟨h1, h2, h3, va_K.moved hW.alike h4, tT_at hW h5, fun q hq => (h6 q hq).elim fun b hb => ⟨b, vk_R.warm hW hb⟩, h7.moved hW.alike⟩
section
variable {p : Program} {l : Launch} {e : Env} {R : Room} {s : State} {m : MethodId} {args : Array Value} {below : List Frame} {meth : Method} {c : Code} {H : Heap} {locs : List Loc} {cells slots : Nat} {Q : State → Prop}
variable {cc : ByteArray} {nL : Nat} {own : String} {D : va_G} {cy : Nat → ClassId} {ad : Nat → Nat} {I : Im} {G : Dm} {J : Jm} {d0 : Drawn} {pc : Nat} {ls : Array Slot} {rest : List Value}
theorem preW_of (am : Amb p s m args c cc nL own D cy ad) (hst : St D cy ad s.heap I G J H locs) {U : State} (hU : U.heap = H) (hW : (s.setDrawn d0).WarmedH U.vm) : preW D cy ad H.size I G J U := by
  obtain ⟨hx, hb, hml, hown, hts, hK, hadI, hStr, hZ⟩ := am
  have hW' : s.WarmedH U.vm := hW
  refine ⟨by rw [hU], by rw [hU]; exact hst.1, va_K.moved hW'.alike hK, tT_at hW' hts, fun q hq => (hStr q hq).elim fun b hb => ⟨b, vk_R.warm hW' hb⟩, ?_⟩
  rw [hU]
  exact ((hZ.kept hst.2.2.1).narrow (fun q h => aA_le hst.2.1 h)).moved hW'.alike
theorem fixK (am : Amb p s m args c cc nL own D cy ad) : CallFix p m c cc nL (s.setDrawn d0) args tT own := ⟨am.1, am.2.1, am.2.2.1, am.2.2.2.1, amT am⟩
theorem wsK {w : Cond} (am : Amb p s m args c cc nL own D cy ad) (hw : w ∈ tT) : ∀ w' ∈ [w], ∀ (a' : Array Value) (U : State), (s.setDrawn d0).WarmedH U.vm → w'.before a' U = true := by
  intro w' h a' U hW
  rw [List.mem_singleton.mp h]
  exact okW_at hW (List.mem_filter.mp hw).2 (amT am w hw)
theorem recvK (am : Amb p s m args c cc nL own D cy ad) (hst : St D cy ad s.heap I G J H locs) {cell ci : Nat} {C : String} {T : u_T} {N : Nat} (hc : cell < 72) {fs : (Nat → Int32) → (Nat → UInt64) → (Nat → Int64) → List Value} (hE : ∀ i f j, cE cy ad cell i f j = .inr (ci, fs i f j)) (hcl : vwCl[ci]? = some (C, T, N)) :
    ∃ cellB : Cell, H[ad cell]? = some cellB ∧ cellB.vm.isStatics = false ∧ (s.setDrawn d0).vm.findClass C = some cellB.cls := by
  obtain ⟨⟨F, hF, hP⟩, hS⟩ := hst
  exact va_recv (amK (d0 := d0) am) hP hcl (wat' hc (hE _ _ _))
theorem lenK {y : MethodName} {n : Nat} (h : (parseMethodDescriptor y.desc).map (fun d => d.parameters.length) = some n) : ∀ sig, parseMethodDescriptor y.desc = some sig → n = sig.parameters.length := by
  intro sig hs
  rw [hs] at h
  exact (Option.some.inj h).symm
variable {y : MethodName} {bytes : ByteArray} {maxL n index cell ci : Nat} {ret : Option FieldType} {rm : Room} {Qc : Nat → QcT} {C host : String} {T : u_T} {N : Nat} {As : List Value} {fs : (Nat → Int32) → (Nat → UInt64) → (Nat → Int64) → List Value} {st0 : List Value} {I' : Im} {G' : Dm} {J' : Jm} {E : String} {hh : List (Nat × Nat × Nat × Nat)}
theorem callBK (am : Amb p s m args c cc nL own D cy ad) (kw : cwK (.code y bytes maxL ret) own index y n) (hR : rm.frames + 1 ≤ R.frames ∧ 8 + (maxL + 11) + rm.locals ≤ R.locals) : CallB R (s.setDrawn d0) args own index y bytes maxL ret [.code y bytes maxL ret] rm rm.cells rm.slots n :=
  ⟨rfl, rfl, hR.1, hR.2, wsK am kw.1, List.mem_cons_self, amT am _ kw.1, amT am _ kw.2.2.1, kw.2.2.2.1, lenK kw.2.2.2.2, amT am _ kw.2.1⟩
theorem callNK (am : Amb p s m args c cc nL own D cy ad) (kw : cwN (.code y bytes maxL ret) own index y host n) (hR : rm.frames + 1 ≤ R.frames ∧ 8 + (maxL + 11) + rm.locals ≤ R.locals) : va_CN R (s.setDrawn d0) args own index y host bytes maxL ret [.code y bytes maxL ret] rm rm.cells rm.slots n :=
  ⟨⟨rfl, rfl, hR.1, hR.2, wsK am kw.1, List.mem_cons_self⟩, amT am _ kw.1, amT am _ kw.2.2.1, kw.2.2.2.1, lenK kw.2.2.2.2, amT am _ kw.2.1⟩
end
end
section
/-! a static method with a table of its own that may draw: its call and its start (these follow the kit's sisters: Back.of_freeD, back_of_D, callS_D, va_runS_D, MetD.ofW) -/
section
variable {cs : List Choice} {l : Launch} {R : Room} {p : Program} {e : Env} {below : List Frame} {s : State} {sargs : Array Value} {y : MethodName} {len W : Nat}
theorem tw_free {hh : List (Nat × Nat × Nat × Nat)} {Pre : Pt → Array Value → Prop} {Post : Pt → Array Value → Option Value → Pt → Prop} {S : Spec} {P : Array Value → State → Prop}
    {Q : Array Value → State → Outcome → State → Prop} {bytes : ByteArray} {maxL : Nat} {ret : Option FieldType}
    {E : Array Value → State → Outcome → State → List Loc → Nat → Nat → Prop}
    (hM : MetFree l y S P (fun _ _ _ _ _ => True) (fun a st o t => ∃ d : Drawn, st.drawn.sameBut d cs ∧ Q a (st.setDrawn d) o t))
    (hframes : S.room.frames + 1 ≤ R.frames) (hlocals : W + (maxL + 11) + S.room.locals ≤ R.locals)
    (hpre : ∀ m meth c (A : Pt) a, Stand p l e R s m sargs below meth c A.U A.locs A.cells A.slots → Pre A a → S.pre.before a A.U = true ∧ (Cond.codeWith y bytes maxL ret hh).before a A.U = true ∧ (Cond.initialized y.cls).before a A.U = true ∧ A.cells + S.room.cells ≤ R.cells ∧ A.slots + S.room.slots ≤ R.slots)
    (hP : ∀ m meth c (A : Pt) a (g : JFrame) mk, Stand p l e R s m sargs below meth c A.U A.locs A.cells A.slots → Pre A a → P a (A.U.calling g mk a))
    (hQ : ∀ a first o t, Q a first o t → ∃ L k n, FrameEnd first o t L k n ∧ E a first o t L k n)
    (hpost : ∀ (A : Pt) a (g : JFrame) mk v t L k n, Q a (A.U.calling g mk a) (.returned v) t → FrameEnd (A.U.calling g mk a) (.returned v) t L k n → E a (A.U.calling g mk a) (.returned v) t L k n →
      Post A a v ⟨(({ A.U with heap := t.heap, slotsUsed := t.slotsUsed } : State).setVm t.vm), A.locs ++ L, A.cells + k, A.slots + n⟩) :
    BackD cs l R p e below s sargs y len W Pre Post := by
  intro m meth c A g ig mk a X hg hsize hdg hW hn hp
  obtain ⟨h1, h2, h3, h4, h5⟩ := hpre m meth c A a X hp
  have hP0 : P a (A.U.calling g mk a) := hP m meth c A a g mk X hp
  obtain ⟨U, Ls, c0, s0⟩ := A
  dsimp only [Pt.U, Pt.locs, Pt.cells, Pt.slots] at h1 h2 h3 h4 h5 X hn hP0 ⊢
  obtain ⟨m9, methY, cY, hn9, hmY, hcY, -, hlY, -⟩ := Cond.codeWith_spec h2
  cases hn.symm.trans hn9
  obtain ⟨kY, hkY, -⟩ := className_of_methodNamed hn
  have hinitY : kY.init = .initialized := Cond.initialized_spec (findClass_of_methodNamed hn) hkY h3
  have h : At U g.method c below := by rw [hg]; exact X.here
  have happ : S.appliesLoose y e.platform (U.calling g mk a) = true :=
    Spec.appliesLoose_calling (g := g) h hdg hn hkY hinitY
      (X.room_calling (g := g) (R' := S.room) hsize hmY hcY hframes (by rw [hlY]; omega) h4 h5) h1
  obtain ⟨mid, hmid⟩ := h.above
  have hfr : (U.setTop g).frames = (.java g :: mid) ++ below := by rw [State.frames_setTop' g h.top, hmid]; rfl
  obtain ⟨o, s₂, hsteps, -, hend, hq⟩ := Steps.callFree hM p X.admits X.cas X.clock (acts := []) hfr happ hP0 trivial
  have hq' : ∃ d : Drawn, (U.calling g mk a).drawn.sameBut d cs ∧ Q a ((U.calling g mk a).setDrawn d) o s₂ := hq
  rw [State.frames_setTop' g h.top] at hend
  obtain ⟨d, hd, hqd⟩ := hq'
  have hcdr : (U.calling g mk a).drawn = s.drawn := by
    rw [State.calling_eq h.top]
    exact X.drawn_eq
  rw [hcdr] at hd
  have h' : At (U.setDrawn d) g.method c below := h.setDrawn d
  have X' : Stand p l e R (s.setDrawn d) m sargs below meth c (U.setDrawn d) Ls c0 s0 := X.drew d
  have hcd : (U.calling g mk a).setDrawn d = (U.setDrawn d).calling g mk a := by
    rw [State.calling_eq h.top, State.calling_eq h'.top]
    rfl
  rw [hcd] at hqd
  obtain ⟨L, k, n, hfe, hE⟩ := hQ _ _ _ _ hqd
  obtain ⟨⟨v, rfl⟩, hW₂, e2, q2, q3, q4, q5, q6⟩ := id hfe
  have e3 : s₂ = ({ ((U.setDrawn d).calling g mk a).setFrames s₂.frames with heap := s₂.heap, slotsUsed := s₂.slotsUsed } : State).setVm s₂.vm := by
    have : s₂ = ({ s₂ with vm := ((U.setDrawn d).calling g mk a).vm } : State).setVm s₂.vm := rfl
    rw [e2] at this
    exact this
  obtain ⟨c₂, i₂, len₂, hc₂, hd₂, hf₂⟩ := hend
  have hW' : (U.setDrawn d).WarmedH s₂.vm := hW₂
  have hcc : c₂ = c := by
    have h1 : s₂.code? g.method = (U.setDrawn d).code? g.method := by
      rw [State.code?_eq, State.code?_eq, hW'.alike.method?]
    exact Option.some.inj (hc₂.symm.trans (h1.trans h'.code))
  subst hcc
  have hlen : len₂ = len := by rw [hdg] at hd₂; cases hd₂; rfl
  subst hlen
  obtain ⟨g₀, hg0⟩ := Option.isSome_iff_exists.mp h.top
  obtain ⟨r, hr⟩ := State.topJava?_eq_some.mp hg0
  have hrV : (U.setDrawn d).frames = .java g₀ :: r := hr
  have hs₂ : s₂ = (({ U.setDrawn d with heap := s₂.heap, slotsUsed := s₂.slotsUsed } : State).setVm s₂.vm).setTop { g with pc := g.pc + len₂, stack := v.toList ++ g.stack } := by
    have hr' : (({ U.setDrawn d with heap := s₂.heap, slotsUsed := s₂.slotsUsed } : State).setVm s₂.vm).frames = .java g₀ :: r := hr
    refine e3.trans ?_
    rw [hf₂, State.calling_eq h'.top, State.setFrames_setFrames, State.setTop_of_frames _ hr', hr]
    rfl
  have hsame : (U.setDrawn d).sameButNew ({ U.setDrawn d with heap := s₂.heap, slotsUsed := s₂.slotsUsed } : State) L k n := by
    refine ⟨?_, q2, q3, q4, q5, q6⟩
    obtain ⟨t, ht, -⟩ := State.frames_cons hrV
    show ({ U.setDrawn d with heap := s₂.heap, slotsUsed := s₂.slotsUsed } : State) = { (U.setDrawn d).setFrames (U.setDrawn d).frames with heap := s₂.heap, slotsUsed := s₂.slotsUsed }
    rw [State.setFrames_self ht]
  subst hg
  refine ⟨v, ⟨(({ U.setDrawn d with heap := s₂.heap, slotsUsed := s₂.slotsUsed } : State).setVm s₂.vm), Ls ++ L, c0 + k, s0 + n⟩, d, hd,
    ⟨X'.admits, X'.cas, X'.clock, X'.frames, X'.room, X'.hears, X'.method, X'.code, (X'.here.setHeapUsed s₂.heap s₂.slotsUsed).setVm hW'.alike, X'.tail, State.WarmedH.trans X'.warmed hW', X'.limits, X'.bytes, X'.same.trans (hsame.setVm (s.setDrawn d).vm)⟩,
    hpost ⟨U.setDrawn d, Ls, c0, s0⟩ a g mk v s₂ L k n hqd hfe hE, ?_⟩
  show Steps p.tables e below _ ((({ U.setDrawn d with heap := s₂.heap, slotsUsed := s₂.slotsUsed } : State).setVm s₂.vm).setTop { g with pc := g.pc + len₂, stack := v.toList ++ g.stack })
  rw [← hs₂]
  exact hsteps
theorem tw_back {hh : List (Nat × Nat × Nat × Nat)} {ws : List Cond} {rm : Room} {Pc : Array Value → State → Prop} {Qc : Array Value → State → Outcome → State → Prop} {mc ms : Nat} {free : Addr → Prop} {bytes : ByteArray} {maxL : Nat} {ret : Option FieldType}
    (hM : MetD cs l y ws rm Pc Qc mc ms free) (hblind : FrameBlind Pc) (hrc : rm.cells = mc) (hrs : rm.slots = ms)
    (hframes : rm.frames + 1 ≤ R.frames) (hlocals : W + (maxL + 11) + rm.locals ≤ R.locals)
    (hws : ∀ w ∈ ws, ∀ a' U, s.WarmedH U.vm → w.before a' U = true) (hcode : Cond.codeWith y bytes maxL ret hh ∈ ws) (hinit : ∀ a' U, s.WarmedH U.vm → (Cond.initialized y.cls).before a' U = true) :
    BackD cs l R p e below s sargs y len W (PreOf R mc ms Pc) (PostOf Qc mc ms free) := by
  refine tw_free (hh := hh) (S := headSpec ws rm) (P := Pc) (Q := fun a st o t => Qc a st o t ∧ ∃ L, FrameEnd st o t L mc ms ∧ ∀ q ∈ L, free q.base) (bytes := bytes) (maxL := maxL) (ret := ret)
    (E := fun a st o t L k n => k = mc ∧ n = ms ∧ ∀ q ∈ L, free q.base) hM hframes hlocals ?_ ?_ ?_ ?_
  · intro m meth c A a X hp
    exact ⟨atoms_intro fun w hw => hws w hw _ _ X.warmed, hws _ hcode _ _ X.warmed, hinit _ _ X.warmed, by rw [show (headSpec ws rm).room.cells = mc from hrc]; exact hp.1, by rw [show (headSpec ws rm).room.slots = ms from hrs]; exact hp.2.1⟩
  · intro m meth c A a g mk X hp
    exact hblind _ _ _ _ hp.2.2
  · intro a st o t ⟨hq, L, hF, hL⟩
    exact ⟨L, mc, ms, hF, rfl, rfl, hL⟩
  · intro A a g mk v t L k n hq hF ⟨e1, e2, hL⟩
    subst e1; subst e2
    exact ⟨g, mk, t, L, rfl, rfl, hq.1, rfl, hL, rfl, rfl⟩
end
section
variable {cs : List Choice} {p : Program} {l : Launch} {e : Env} {R : Room} {s : State} {m : MethodId} {args : Array Value} {below : List Frame} {meth : Method} {c : Code} {T : State} {locs : List Loc} {cells slots : Nat}
theorem tw_callS {hh : List (Nat × Nat × Nat × Nat)} (X : Stand p l e R s m args below meth c T locs cells slots) (hexec : p.tables.exec = Jvm.exec) {own : String} {index : Nat} {y : MethodName} {bytes : ByteArray} {maxL : Nat} {ret : Option FieldType}
    (hown : s.vm.findClass own = some m.cls) (hlink : (Cond.methodLink own index y).before args s = true) (hstat : (Cond.static y).before args s = true) (hinit : (Cond.initialized y.cls).before args s = true)
    (hcode : (Cond.codeWith y bytes maxL ret hh).before args s = true) (hy : y.cls ≠ "java/lang/invoke/MethodHandle" ∧ y.cls ≠ "java/lang/invoke/VarHandle")
    {W : Nat} {Pre : Pt → Array Value → Prop} {Post : Pt → Array Value → Option Value → Pt → Prop} (hK : BackD cs l R p e below s args y 3 W Pre Post)
    {g : JFrame} (hg : g.method = m) (hsize : g.locals.size = c.maxLocals) {argsL rest : List Value} (hlen : ∀ sig, parseMethodDescriptor y.desc = some sig → argsL.length = sig.parameters.length)
    (hstack : g.stack = argsL.reverse ++ rest) (hW : 2 * g.monitorRoom + (rest.map fun v => v.category).sum ≤ W) (hdg : decode c.code g.pc = .ok (.invokestatic index, 3))
    (hpre : ∀ vm₁, s.WarmedH vm₁ → Pre ⟨T.setVm vm₁, locs, cells, slots⟩ argsL.toArray) :
    ∃ (v : Option Value) (vm₁ : Vm) (B : Pt) (d' : Drawn), s.drawn.sameBut d' cs ∧ s.WarmedH vm₁ ∧ Stand p l e R (s.setDrawn d') m args below meth c B.U B.locs B.cells B.slots ∧ Post ⟨(T.setVm vm₁).setDrawn d', locs, cells, slots⟩ argsL.toArray v B ∧
      ∀ target, Steps p.tables e below (B.U.setTop { g with pc := g.pc + 3, stack := v.toList ++ rest }) target → Steps p.tables e below (T.setTop g) target := by
  obtain ⟨mk, methM, cM, hnamed, hmethM, -, -, -, -, -, -, hsigM⟩ := Cond.codeWith_spec hcode
  have hstatic : methM.isStatic = true := Cond.static_spec hnamed hmethM hstat
  obtain ⟨kP, hkP, -⟩ := className_of_methodNamed hnamed
  have hinitP : kP.init = .initialized := Cond.initialized_spec (findClass_of_methodNamed hnamed) hkP hinit
  obtain ⟨vm₁, X₁, hstep₁⟩ := X.invokestatic hexec hown hlink hnamed hmethM hstatic hkP hinitP hy (g := g) hg (argsL := argsL) (rest := rest) (hlen _ hsigM) hstack hdg
  obtain ⟨v, B, d', hd', X', hpost, hsteps⟩ := hK m meth c ⟨T.setVm vm₁, locs, cells, slots⟩ { g with stack := rest } (.invokestatic index) mk argsL.toArray X₁ hg hsize hdg hW (X₁.named hnamed) (hpre vm₁ X₁.warmed)
  exact ⟨v, vm₁, B, d', hd', X₁.warmed, X', hpost, fun target h => hstep₁ _ fun acts => by rw [doInvoke_state]; exact hsteps.trans h⟩
theorem tw_runS {y : MethodName} {bytes cc : ByteArray} {maxL nL mc ms n index : Nat} {ret : Option FieldType} {hh : List (Nat × Nat × Nat × Nat)} {ws : List Cond} {rm : Room} {Pc : Array Value → State → Prop} {Qc : Array Value → State → Outcome → State → Prop} {free : Addr → Prop} {Ts : List Cond} {own : String} {As rest : List Value} {g : JFrame} {H : Heap}
    (S : CallFix p m c cc nL s args Ts own) (hM : MetD cs l y ws rm Pc Qc mc ms free) (cw : vx_CSW R s args own index y bytes maxL ret hh ws rm mc ms n) (hp : PreS s H Pc As)
    (hg : g.method = m) (hn : As.length = n) (hsize : g.locals.size = nL) (hstack : g.stack = As.reverse ++ rest) (hW : 2 * g.monitorRoom + (rest.map fun v => v.category).sum ≤ 8) (hdg : decode cc g.pc = .ok (.invokestatic index, 3)) (hf : cells + mc ≤ R.cells ∧ slots + ms ≤ R.slots) :
    va_RunD cs p l e R s m args below meth c H locs cells slots mc ms g rest (Qc As.toArray) (free) := by
  obtain ⟨⟨hrc, hrs, hfr, hlo, hws, hcw⟩, hcode, hini, hy, hlen, hl, hstt⟩ := cw
  have hK : BackD cs l R p e below s args y 3 8 (PreOf R mc ms Pc) (PostOf Qc mc ms free) := tw_back (hh := hh) (bytes := bytes) (maxL := maxL) (ret := ret) hM hp.1 hrc hrs hfr hlo hws hcw (fun a' U hW => word_at hW (Or.inl (by first | rfl | simp [Cond.onTables, Cond.keeps, Cond.steady])) hini)
  obtain ⟨hx, hb, hml, ho, -⟩ := S
  intro T hT X
  obtain ⟨v, vm₁, ⟨U', l2, c2, s2⟩, d', hd', hW₁, X', ⟨g', mk, t, L, e1, e2, hq, h1, hL, h2, h3⟩, st⟩ := tw_callS (hh := hh) X hx (bytes := bytes) (maxL := maxL) (ret := ret) ho hl hstt hini hcode hy hK hg (hsize.trans hml.symm) (argsL := As) (rest := rest) (fun sig h => hn.trans (hlen sig h)) hstack hW (by rw [hb]; exact hdg)
    (fun vm₁ hW₁ => ⟨hf.1, hf.2, hp.2 (T.setVm vm₁) hT hW₁⟩)
  dsimp only [Pt.U, Pt.locs, Pt.cells, Pt.slots] at X' e1 e2 h1 h2 h3 st
  subst h1; subst h2; subst h3
  exact ⟨v, ((T.setVm vm₁).setDrawn d').calling g' mk As.toArray, t, U', L, d', hd', hT, X', hL, e1, e2, hq, st⟩
end
theorem tw_ofW {hh : List (Nat × Nat × Nat × Nat)} {cs : List Choice} {l : Launch} {y : MethodName} {ws ws' : List Cond} {rm : Room} {Pc : Array Value → State → Prop} {Qc : Array Value → State → Outcome → State → Prop} {mc ms : Nat} {free : Addr → Prop} {cc : ByteArray} {maxL : Nat} {ret : Option FieldType}
    (hy : plainName y.cls = true) (hw : ws = Cond.codeWith y cc maxL ret hh :: ws')
    (body : ∀ p e s m args below meth c s₁, BodyLoose p l y (headSpec ws rm) cc maxL ret e s m args below meth c s₁ → c.maxLocals = maxL → Pc args s → s.drawn.sameBut s.drawn cs →
      W p l e (headSpec ws rm).room (s.setDrawn s.drawn) m args below meth c s.heap [] 0 0 (MQD cs below Qc args s mc ms free) (entryFrame m args maxL)) : MetD cs l y ws rm Pc Qc mc ms free := by
  refine MetFree.of_bodyS (code := cc) (maxLocals := maxL) (ret := ret) hy ?_ ?_
  · intro args s m h hn
    obtain ⟨m9, meth, c, hn9, h1, h2, h3, h4, -, h5, h6, -⟩ := Cond.codeWith_spec (atoms_spec (ws := ws) h _ (by rw [hw]; exact List.mem_cons_self))
    cases hn.symm.trans hn9
    exact ⟨meth, c, h1, h2, h3, h4, h5, h6⟩
  · intro p e s m args below meth c s₁ B hml hP _
    have hh0 : s₁.heap = s.heap := by rw [B.state]; rfl
    have X0 : Stand p l e (headSpec ws rm).room (s.setDrawn s.drawn) m args below meth c s₁ [] 0 0 := Stand.of_body B
    obtain ⟨t, a1, d, hd, o, b1, b2, b3, b4⟩ := body p e s m args below meth c s₁ B hml hP (Drawn.sameBut.refl _ _) s₁ hh0 X0
    exact ⟨t, o, a1, b1, b2, d, hd, b3, b4⟩
/-! runs of calls over the fixed world -/
section
variable {p : Program} {l : Launch} {e : Env} {R : Room} {s : State} {m : MethodId} {args : Array Value} {below : List Frame} {meth : Method} {c : Code} {H : Heap} {locs : List Loc} {cells slots : Nat} {Q : State → Prop}
variable {cc : ByteArray} {nL : Nat} {own : String} {D : va_G} {cy : Nat → ClassId} {ad : Nat → Nat} {I : Im} {G : Dm} {J : Jm} {d0 : Drawn} {pc : Nat} {ls : Array Slot} {rest : List Value}
variable {y : MethodName} {bytes : ByteArray} {maxL n index cell ci : Nat} {ret : Option FieldType} {rm : Room} {Qc : Nat → QcT} {C host : String} {T : u_T} {N : Nat} {As : List Value} {fs : (Nat → Int32) → (Nat → UInt64) → (Nat → Int64) → List Value} {st0 : List Value} {I' : Im} {G' : Dm} {J' : Jm} {E : String} {hh : List (Nat × Nat × Nat × Nat)}
theorem preS_K (am : Amb p s m args c cc nL own D cy ad) (hst : St D cy ad s.heap I G J H locs) : PreS (s.setDrawn d0) H (va_Pc As (preW D cy ad H.size I G J)) As :=
  ⟨fb_preW, fun U hU hW => ⟨rfl, preW_of am hst hU hW⟩⟩
theorem preV_K (am : Amb p s m args c cc nL own D cy ad) (hst : St D cy ad s.heap I G J H locs) (hc : cell < 72) (hE : ∀ i f j, cE cy ad cell i f j = .inr (ci, fs i f j)) (hcl : vwCl[ci]? = some (C, T, N)) : PreV (s.setDrawn d0) H C (ad cell) (va_Pc (.ref (ad cell) :: As) (preW D cy ad H.size I G J)) As :=
  ⟨fb_preW, recvK am hst hc hE hcl, fun U hU hW => ⟨rfl, preW_of am hst hU hW⟩⟩
/-- a method of this class or a public one -/
theorem r_V (am : Amb p s m args c cc nL own D cy ad) (hst : St D cy ad s.heap I G J H locs) {lvv : List (Nat × Value)} (hl : lv_has ls nL lvv) (hM : kM l y (.code y bytes maxL ret) rm D cy ad (.ref (ad cell) :: As) I G J Qc) (kw : cwK (.code y bytes maxL ret) own index y n) (ki : Cond.instanceMethod y ∈ tT) (ks : Cond.selects C y y ∈ tT) (hR : rm.frames + 1 ≤ R.frames ∧ 8 + (maxL + 11) + rm.locals ≤ R.locals)
    (hc : cell < 72) (hE : ∀ i f j, cE cy ad cell i f j = .inr (ci, fs i f j)) (hcl : vwCl[ci]? = some (C, T, N)) (hn : As.length = n) (hstack : st0 = As.reverse ++ .ref (ad cell) :: rest) (hW : (rest.map fun v => v.category).sum ≤ 8) (hdg : decode cc pc = .ok (.invokevirtual index, 3)) (hf : cells + rm.cells ≤ R.cells ∧ slots + rm.slots ≤ R.slots) :
    va_Run p l e R (s.setDrawn d0) m args below meth c H locs cells slots rm.cells rm.slots (F0 m pc ls st0) rest (Qc H.size (Value.ref (ad cell) :: As).toArray) (aA ad H.size) :=
  va_runV (fixK am) (hM H.size) ⟨callBK am kw hR, amT am _ ki, amT am _ ks⟩ (preV_K am hst hc hE hcl) rfl hn hl.1 hstack (lv_room hW) hdg hf
theorem r_VD (am : Amb p s m args c cc nL own D cy ad) (hst : St D cy ad s.heap I G J H locs) {lvv : List (Nat × Value)} (hl : lv_has ls nL lvv) (hM : kD l y (.code y bytes maxL ret) rm D cy ad (.ref (ad cell) :: As) I G J Qc) (kw : cwK (.code y bytes maxL ret) own index y n) (ki : Cond.instanceMethod y ∈ tT) (ks : Cond.selects C y y ∈ tT) (hR : rm.frames + 1 ≤ R.frames ∧ 8 + (maxL + 11) + rm.locals ≤ R.locals)
    (hc : cell < 72) (hE : ∀ i f j, cE cy ad cell i f j = .inr (ci, fs i f j)) (hcl : vwCl[ci]? = some (C, T, N)) (hn : As.length = n) (hstack : st0 = As.reverse ++ .ref (ad cell) :: rest) (hW : (rest.map fun v => v.category).sum ≤ 8) (hdg : decode cc pc = .ok (.invokevirtual index, 3)) (hf : cells + rm.cells ≤ R.cells ∧ slots + rm.slots ≤ R.slots) :
    va_RunD lw_cs p l e R (s.setDrawn d0) m args below meth c H locs cells slots rm.cells rm.slots (F0 m pc ls st0) rest (Qc H.size (Value.ref (ad cell) :: As).toArray) (aA ad H.size) :=
  va_runV_D (fixK am) (hM H.size) ⟨callBK am kw hR, amT am _ ki, amT am _ ks⟩ (preV_K am hst hc hE hcl) rfl hn hl.1 hstack (lv_room hW) hdg hf
theorem r_VX (am : Amb p s m args c cc nL own D cy ad) (hst : St D cy ad s.heap I G J H locs) {lvv : List (Nat × Value)} (hl : lv_has ls nL lvv) (hM : kX l y (.code y bytes maxL ret) rm D cy ad (.ref (ad cell) :: As) I G J E) (kw : cwK (.code y bytes maxL ret) own index y n) (ki : Cond.instanceMethod y ∈ tT) (ks : Cond.selects C y y ∈ tT) (hm : rm.cells = 1 ∧ rm.slots = 6) (hR : rm.frames + 1 ≤ R.frames ∧ 8 + (maxL + 11) + rm.locals ≤ R.locals)
    (hc : cell < 72) (hE : ∀ i f j, cE cy ad cell i f j = .inr (ci, fs i f j)) (hcl : vwCl[ci]? = some (C, T, N)) (hn : As.length = n) (hstack : st0 = As.reverse ++ .ref (ad cell) :: rest) (hW : (rest.map fun v => v.category).sum ≤ 8) (hdg : decode cc pc = .ok (.invokevirtual index, 3)) (hf : cells + 1 ≤ R.cells ∧ slots + 6 ≤ R.slots) :
    vx_Run p l e R (s.setDrawn d0) m args below meth c H locs cells slots 1 6 (F0 m pc ls st0) rest (fun _ _ _ => False) (qX D cy ad E I G J H.size) (aA ad H.size) :=
  vx_runV (Qc := fun _ _ _ _ => False) (fixK am) (hM H.size) ⟨by have h := callBK (d0 := d0) am kw hR; rw [hm.1, hm.2] at h; exact h, amT am _ ki, amT am _ ks⟩ (preV_K am hst hc hE hcl) rfl hn hl.1 hstack (lv_room hW) hdg hf
/-- a nest mate's -/
theorem r_N (am : Amb p s m args c cc nL own D cy ad) (hst : St D cy ad s.heap I G J H locs) {lvv : List (Nat × Value)} (hl : lv_has ls nL lvv) (hM : kM l y (.code y bytes maxL ret) rm D cy ad (.ref (ad cell) :: As) I G J Qc) (kw : cwN (.code y bytes maxL ret) own index y host n) (ki : Cond.instanceMethod y ∈ tT) (ks : Cond.selects C y y ∈ tT) (hR : rm.frames + 1 ≤ R.frames ∧ 8 + (maxL + 11) + rm.locals ≤ R.locals)
    (hc : cell < 72) (hE : ∀ i f j, cE cy ad cell i f j = .inr (ci, fs i f j)) (hcl : vwCl[ci]? = some (C, T, N)) (hn : As.length = n) (hstack : st0 = As.reverse ++ .ref (ad cell) :: rest) (hW : (rest.map fun v => v.category).sum ≤ 8) (hdg : decode cc pc = .ok (.invokevirtual index, 3)) (hf : cells + rm.cells ≤ R.cells ∧ slots + rm.slots ≤ R.slots) :
    va_Run p l e R (s.setDrawn d0) m args below meth c H locs cells slots rm.cells rm.slots (F0 m pc ls st0) rest (Qc H.size (Value.ref (ad cell) :: As).toArray) (aA ad H.size) :=
  va_runVN (fixK am) (hM H.size) ⟨callNK am kw hR, amT am _ ki, amT am _ ks⟩ (preV_K am hst hc hE hcl) rfl hn hl.1 hstack (lv_room hW) hdg hf
theorem r_ND (am : Amb p s m args c cc nL own D cy ad) (hst : St D cy ad s.heap I G J H locs) {lvv : List (Nat × Value)} (hl : lv_has ls nL lvv) (hM : kD l y (.code y bytes maxL ret) rm D cy ad (.ref (ad cell) :: As) I G J Qc) (kw : cwN (.code y bytes maxL ret) own index y host n) (ki : Cond.instanceMethod y ∈ tT) (ks : Cond.selects C y y ∈ tT) (hR : rm.frames + 1 ≤ R.frames ∧ 8 + (maxL + 11) + rm.locals ≤ R.locals)
    (hc : cell < 72) (hE : ∀ i f j, cE cy ad cell i f j = .inr (ci, fs i f j)) (hcl : vwCl[ci]? = some (C, T, N)) (hn : As.length = n) (hstack : st0 = As.reverse ++ .ref (ad cell) :: rest) (hW : (rest.map fun v => v.category).sum ≤ 8) (hdg : decode cc pc = .ok (.invokevirtual index, 3)) (hf : cells + rm.cells ≤ R.cells ∧ slots + rm.slots ≤ R.slots) :
    va_RunD lw_cs p l e R (s.setDrawn d0) m args below meth c H locs cells slots rm.cells rm.slots (F0 m pc ls st0) rest (Qc H.size (Value.ref (ad cell) :: As).toArray) (aA ad H.size) :=
  va_runVN_D (fixK am) (hM H.size) ⟨callNK am kw hR, amT am _ ki, amT am _ ks⟩ (preV_K am hst hc hE hcl) rfl hn hl.1 hstack (lv_room hW) hdg hf
/-- a static one -/
theorem r_S (am : Amb p s m args c cc nL own D cy ad) (hst : St D cy ad s.heap I G J H locs) {lvv : List (Nat × Value)} (hl : lv_has ls nL lvv) (hM : kM l y (.code y bytes maxL ret) rm D cy ad As I G J Qc) (kw : cwK (.code y bytes maxL ret) own index y n) (ki : Cond.static y ∈ tT) (hR : rm.frames + 1 ≤ R.frames ∧ 8 + (maxL + 11) + rm.locals ≤ R.locals)
    (hn : As.length = n) (hstack : st0 = As.reverse ++ rest) (hW : (rest.map fun v => v.category).sum ≤ 8) (hdg : decode cc pc = .ok (.invokestatic index, 3)) (hf : cells + rm.cells ≤ R.cells ∧ slots + rm.slots ≤ R.slots) :
    va_Run p l e R (s.setDrawn d0) m args below meth c H locs cells slots rm.cells rm.slots (F0 m pc ls st0) rest (Qc H.size As.toArray) (aA ad H.size) :=
  va_runS (fixK am) (hM H.size) ⟨callBK am kw hR, amT am _ ki⟩ (preS_K am hst) rfl hn hl.1 hstack (lv_room hW) hdg hf
theorem r_SX (am : Amb p s m args c cc nL own D cy ad) (hst : St D cy ad s.heap I G J H locs) {lvv : List (Nat × Value)} (hl : lv_has ls nL lvv) (hM : kX l y (.code y bytes maxL ret) rm D cy ad As I G J E) (kw : cwK (.code y bytes maxL ret) own index y n) (ki : Cond.static y ∈ tT) (hm : rm.cells = 1 ∧ rm.slots = 6) (hR : rm.frames + 1 ≤ R.frames ∧ 8 + (maxL + 11) + rm.locals ≤ R.locals)
    (hn : As.length = n) (hstack : st0 = As.reverse ++ rest) (hW : (rest.map fun v => v.category).sum ≤ 8) (hdg : decode cc pc = .ok (.invokestatic index, 3)) (hf : cells + 1 ≤ R.cells ∧ slots + 6 ≤ R.slots) :
    vx_Run p l e R (s.setDrawn d0) m args below meth c H locs cells slots 1 6 (F0 m pc ls st0) rest (fun _ _ _ => False) (qX D cy ad E I G J H.size) (aA ad H.size) :=
  vx_runS (Qc := fun _ _ _ _ => False) (fixK am) (hM H.size) ⟨by have h := callBK (d0 := d0) am kw hR; rw [hm.1, hm.2] at h; exact h, amT am _ ki⟩ (preS_K am hst) rfl hn hl.1 hstack (lv_room hW) hdg hf
/-- a static one with a table -/
theorem cswK (am : Amb p s m args c cc nL own D cy ad) (kw : cwK (.codeWith y bytes maxL ret hh) own index y n) (ki : Cond.static y ∈ tT) (hR : rm.frames + 1 ≤ R.frames ∧ 8 + (maxL + 11) + rm.locals ≤ R.locals) : vx_CSW R (s.setDrawn d0) args own index y bytes maxL ret hh [.codeWith y bytes maxL ret hh] rm rm.cells rm.slots n :=
  ⟨⟨rfl, rfl, hR.1, hR.2, wsK am kw.1, List.mem_cons_self⟩, amT am _ kw.1, amT am _ kw.2.2.1, kw.2.2.2.1, lenK kw.2.2.2.2, amT am _ kw.2.1, amT am _ ki⟩
theorem r_W (am : Amb p s m args c cc nL own D cy ad) (hst : St D cy ad s.heap I G J H locs) {lvv : List (Nat × Value)} (hl : lv_has ls nL lvv) (hM : kM l y (.codeWith y bytes maxL ret hh) rm D cy ad As I G J Qc) (kw : cwK (.codeWith y bytes maxL ret hh) own index y n) (ki : Cond.static y ∈ tT) (hR : rm.frames + 1 ≤ R.frames ∧ 8 + (maxL + 11) + rm.locals ≤ R.locals)
    (hn : As.length = n) (hstack : st0 = As.reverse ++ rest) (hW : (rest.map fun v => v.category).sum ≤ 8) (hdg : decode cc pc = .ok (.invokestatic index, 3)) (hf : cells + rm.cells ≤ R.cells ∧ slots + rm.slots ≤ R.slots) :
    va_Run p l e R (s.setDrawn d0) m args below meth c H locs cells slots rm.cells rm.slots (F0 m pc ls st0) rest (Qc H.size As.toArray) (aA ad H.size) :=
  vx_runSW (fixK am) (hM H.size) (cswK am kw ki hR) (preS_K am hst) rfl hn hl.1 hstack (lv_room hW) hdg hf
theorem r_WD (am : Amb p s m args c cc nL own D cy ad) (hst : St D cy ad s.heap I G J H locs) {lvv : List (Nat × Value)} (hl : lv_has ls nL lvv) (hM : kD l y (.codeWith y bytes maxL ret hh) rm D cy ad As I G J Qc) (kw : cwK (.codeWith y bytes maxL ret hh) own index y n) (ki : Cond.static y ∈ tT) (hR : rm.frames + 1 ≤ R.frames ∧ 8 + (maxL + 11) + rm.locals ≤ R.locals)
    (hn : As.length = n) (hstack : st0 = As.reverse ++ rest) (hW : (rest.map fun v => v.category).sum ≤ 8) (hdg : decode cc pc = .ok (.invokestatic index, 3)) (hf : cells + rm.cells ≤ R.cells ∧ slots + rm.slots ≤ R.slots) :
    va_RunD lw_cs p l e R (s.setDrawn d0) m args below meth c H locs cells slots rm.cells rm.slots (F0 m pc ls st0) rest (Qc H.size As.toArray) (aA ad H.size) :=
  tw_runS (fixK am) (hM H.size) (cswK am kw ki hR) (preS_K am hst) rfl hn hl.1 hstack (lv_room hW) hdg hf
end
end
section
/-! behind a call: the memory is the callee's -/
section
variable {p : Program} {l : Launch} {e : Env} {R : Room} {s : State} {m : MethodId} {args : Array Value} {below : List Frame} {meth : Method} {c : Code} {H : Heap} {locs : List Loc} {cells slots mc ms : Nat} {Q : State → Prop}
variable {cc : ByteArray} {nL : Nat} {own : String} {D : va_G} {cy : Nat → ClassId} {ad : Nat → Nat} {I : Im} {G : Dm} {J : Jm} {d0 : Drawn} {pc : Nat} {ls : Array Slot} {rest st0 : List Value} {a : Array Value} {I' : Im} {G' : Dm} {J' : Jm} {E : String}
theorem c_i (hst : St D cy ad s.heap I G J H locs) {r : Int32} (hr : va_Run p l e R (s.setDrawn d0) m args below meth c H locs cells slots mc ms (F0 m pc ls st0) rest (qI D cy ad r I' G' J' H.size a) (aA ad H.size))
    (kk : ∀ (H1 : Heap) (locs1 : List Loc), St D cy ad s.heap I' G' J' H1 locs1 → W p l e R (s.setDrawn d0) m args below meth c H1 locs1 (cells + mc) (slots + ms) Q (F0 m (pc + 3) ls (.int r :: rest))) :
    W p l e R (s.setDrawn d0) m args below meth c H locs cells slots Q (F0 m pc ls st0) :=
  va_calli hr hst.2 (fun q _ h => aA_le hst.2.1 h) (fun q h => aA_le hst.2.1 h) (fun x _ t H1 locs1 ht _ hw hB _ _ hS => by subst hw; subst ht; exact kk _ locs1 ⟨hB, hS⟩)
theorem c_l (hst : St D cy ad s.heap I G J H locs) {r : Int64} (hr : va_Run p l e R (s.setDrawn d0) m args below meth c H locs cells slots mc ms (F0 m pc ls st0) rest (qL D cy ad r I' G' J' H.size a) (aA ad H.size))
    (kk : ∀ (H1 : Heap) (locs1 : List Loc), St D cy ad s.heap I' G' J' H1 locs1 → W p l e R (s.setDrawn d0) m args below meth c H1 locs1 (cells + mc) (slots + ms) Q (F0 m (pc + 3) ls (.long r :: rest))) :
    W p l e R (s.setDrawn d0) m args below meth c H locs cells slots Q (F0 m pc ls st0) :=
  va_calll hr hst.2 (fun q _ h => aA_le hst.2.1 h) (fun q h => aA_le hst.2.1 h) (fun x _ t H1 locs1 ht _ hw hB _ _ hS => by subst hw; subst ht; exact kk _ locs1 ⟨hB, hS⟩)
theorem c_v (hst : St D cy ad s.heap I G J H locs) (hr : va_Run p l e R (s.setDrawn d0) m args below meth c H locs cells slots mc ms (F0 m pc ls st0) rest (qV D cy ad I' G' J' H.size a) (aA ad H.size))
    (kk : ∀ (H1 : Heap) (locs1 : List Loc), St D cy ad s.heap I' G' J' H1 locs1 → W p l e R (s.setDrawn d0) m args below meth c H1 locs1 (cells + mc) (slots + ms) Q (F0 m (pc + 3) ls rest)) :
    W p l e R (s.setDrawn d0) m args below meth c H locs cells slots Q (F0 m pc ls st0) :=
  va_callv hr hst.2 (fun q _ h => aA_le hst.2.1 h) (fun q h => aA_le hst.2.1 h) (fun _ t H1 locs1 ht _ hw hB _ _ hS => by subst ht; exact kk _ locs1 ⟨hB, hS⟩)
theorem c_r (hst : St D cy ad s.heap I G J H locs) {k : Nat} (hr : va_Run p l e R (s.setDrawn d0) m args below meth c H locs cells slots mc ms (F0 m pc ls st0) rest (qR D cy ad k I' G' J' H.size a) (aA ad H.size))
    (kk : ∀ (H1 : Heap) (locs1 : List Loc), St D cy ad s.heap I' G' J' H1 locs1 → W p l e R (s.setDrawn d0) m args below meth c H1 locs1 (cells + mc) (slots + ms) Q (F0 m (pc + 3) ls (.ref (ad k) :: rest))) :
    W p l e R (s.setDrawn d0) m args below meth c H locs cells slots Q (F0 m pc ls st0) :=
  va_callr hr hst.2 (fun q _ h => aA_le hst.2.1 h) (fun q h => aA_le hst.2.1 h) (fun _ ra t H1 locs1 ht _ hw hB _ _ hS => by obtain ⟨e1, hB⟩ := hB; subst e1; subst ht; exact kk _ locs1 ⟨hB, hS⟩)
theorem c_d (hst : St D cy ad s.heap I G J H locs) {r : UInt64} (hr : va_Run p l e R (s.setDrawn d0) m args below meth c H locs cells slots mc ms (F0 m pc ls st0) rest (qD D cy ad r I' G' J' H.size a) (aA ad H.size))
    (kk : ∀ (v : UInt64) (H1 : Heap) (locs1 : List Loc), cn v = r → St D cy ad s.heap I' G' J' H1 locs1 → W p l e R (s.setDrawn d0) m args below meth c H1 locs1 (cells + mc) (slots + ms) Q (F0 m (pc + 3) ls (.double v :: rest))) :
    W p l e R (s.setDrawn d0) m args below meth c H locs cells slots Q (F0 m pc ls st0) :=
  va_calld hr hst.2 (fun q _ h => aA_le hst.2.1 h) (fun q h => aA_le hst.2.1 h) (fun x _ t H1 locs1 ht _ hw hB _ _ hS => by subst ht; exact kk x _ locs1 hw ⟨hB, hS⟩)
/-! .. of callees that may draw -/
theorem c_iD (hd : s.drawn.sameBut d0 lw_cs) (hst : St D cy ad s.heap I G J H locs) {r : Int32} (hr : va_RunD lw_cs p l e R (s.setDrawn d0) m args below meth c H locs cells slots mc ms (F0 m pc ls st0) rest (qI D cy ad r I' G' J' H.size a) (aA ad H.size))
    (kk : ∀ (d1 : Drawn) (H1 : Heap) (locs1 : List Loc), s.drawn.sameBut d1 lw_cs → St D cy ad s.heap I' G' J' H1 locs1 → W p l e R (s.setDrawn d1) m args below meth c H1 locs1 (cells + mc) (slots + ms) Q (F0 m (pc + 3) ls (.int r :: rest))) :
    W p l e R (s.setDrawn d0) m args below meth c H locs cells slots Q (F0 m pc ls st0) :=
  va_calliD hd hr hst.2 (fun q _ h => aA_le hst.2.1 h) (fun q h => aA_le hst.2.1 h) (fun x _ t H1 locs1 ht _ hw hB _ _ hS d1 hd1 => by subst hw; subst ht; exact kk d1 _ locs1 hd1 ⟨hB, hS⟩)
theorem c_dD (hd : s.drawn.sameBut d0 lw_cs) (hst : St D cy ad s.heap I G J H locs) {r : UInt64} (hr : va_RunD lw_cs p l e R (s.setDrawn d0) m args below meth c H locs cells slots mc ms (F0 m pc ls st0) rest (qD D cy ad r I' G' J' H.size a) (aA ad H.size))
    (kk : ∀ (v : UInt64) (d1 : Drawn) (H1 : Heap) (locs1 : List Loc), cn v = r → s.drawn.sameBut d1 lw_cs → St D cy ad s.heap I' G' J' H1 locs1 → W p l e R (s.setDrawn d1) m args below meth c H1 locs1 (cells + mc) (slots + ms) Q (F0 m (pc + 3) ls (.double v :: rest))) :
    W p l e R (s.setDrawn d0) m args below meth c H locs cells slots Q (F0 m pc ls st0) :=
  va_calldD hd hr hst.2 (fun q _ h => aA_le hst.2.1 h) (fun q h => aA_le hst.2.1 h) (fun x _ t H1 locs1 ht _ hw hB _ _ hS d1 hd1 => by subst ht; exact kk x d1 _ locs1 hw hd1 ⟨hB, hS⟩)
theorem c_vD (hd : s.drawn.sameBut d0 lw_cs) (hst : St D cy ad s.heap I G J H locs) (hr : va_RunD lw_cs p l e R (s.setDrawn d0) m args below meth c H locs cells slots mc ms (F0 m pc ls st0) rest (qV D cy ad I' G' J' H.size a) (aA ad H.size))
    (kk : ∀ (d1 : Drawn) (H1 : Heap) (locs1 : List Loc), s.drawn.sameBut d1 lw_cs → St D cy ad s.heap I' G' J' H1 locs1 → W p l e R (s.setDrawn d1) m args below meth c H1 locs1 (cells + mc) (slots + ms) Q (F0 m (pc + 3) ls rest)) :
    W p l e R (s.setDrawn d0) m args below meth c H locs cells slots Q (F0 m pc ls st0) :=
  va_callvD hd hr hst.2 (fun q _ h => aA_le hst.2.1 h) (fun q h => aA_le hst.2.1 h) (fun _ t H1 locs1 ht _ hw hB _ _ hS d1 hd1 => by subst ht; exact kk d1 _ locs1 hd1 ⟨hB, hS⟩)
/-! what a callee throws goes on to the caller -/
theorem x_keep {st₀ t T' : State} {L : List Loc} (h0 : st₀.heap = H) (hst : St D cy ad s.heap I G J H locs) (hL : ∀ q ∈ L, aA ad H.size q.base) (hF : va_F (aA ad H.size) st₀ t) (e1 : T'.heap = t.heap) : va_S (aA ad s.heap.size) s.heap T'.heap (locs ++ L) :=
  (vx_keep h0 e1 hst.2 (fun q _ h => aA_le hst.2.1 h) (fun q h => aA_le hst.2.1 h) hL hF).2.2
theorem x_run {Q : State → Prop} (hst : St D cy ad s.heap I G J H locs) (hr : vx_Run p l e R (s.setDrawn d0) m args below meth c H locs cells slots 1 6 (F0 m pc ls st0) rest (fun _ _ _ => False) (qX D cy ad E I' G' J' H.size) (aA ad H.size))
    (kx : ∀ (ce : Cell) (q9 : Addr) (H1 : Heap) (locs1 : List Loc), St D cy ad s.heap I' G' J' H1 locs1 → H1[q9]? = some ce → ce.vm = .none → s.vm.findClass E = some ce.cls → vx_W p l e R (s.setDrawn d0) m args below meth c H1 locs1 (cells + 1) (slots + 6) Q (F0 m pc ls rest) q9) :
    W p l e R (s.setDrawn d0) m args below meth c H locs cells slots Q (F0 m pc ls st0) := by
  intro T hT X
  rcases hr T hT X with ⟨v, st₀, t, T', L, -, -, -, -, -, h, -⟩ | ⟨q, st₀, t, T', L, E', ce, h0, X', hL, e1, e2, ⟨u, -, ⟨hE, hB⟩, hF⟩, hq, hv, hcl, hst2⟩
  · exact h.elim
  · subst hE
    have hs := x_keep h0 hst hL hF e1
    obtain ⟨t2, a1, b1⟩ := kx ce q T'.heap (locs ++ L) ⟨hW_at hB e1, hs⟩ (by rw [e1]; exact hq) hv hcl T' rfl X'
    exact ⟨t2, hst2.trans a1, b1⟩
theorem x_out (hst : St D cy ad s.heap I G J H locs) (hout : ∀ x ∈ c.exceptionTable.toList, False) (hlk : meth.locks = false) {ce : Cell} {q9 : Addr} (hq : H[q9]? = some ce) (hv : ce.vm = .none) (hcl : s.vm.findClass E = some ce.cls) (hc : cells ≤ 1) (hs : slots ≤ 6) :
    vx_W p l e R (s.setDrawn s.drawn) m args below meth c H locs cells slots (vx_MQ below (fun _ _ _ _ => False) (qX D cy ad E I G J s.heap.size) args s 1 6 (aA ad s.heap.size)) (F0 m pc ls rest) q9 :=
  vx_out (s := s) (fun x hx => (hout x hx).elim) hlk hq hv hcl (fun t ht _ => ⟨(), trivial, ⟨rfl, hW_at hst.1 ht⟩, hst.2.F ht⟩) hst.2.2.2 hc hs
/-- a call that throws, in a body without a table: the body throws -/
theorem x_call (hst : St D cy ad s.heap I G J H locs) (hout : ∀ x ∈ c.exceptionTable.toList, False) (hlk : meth.locks = false) (hc : cells + 1 ≤ 1) (hs : slots + 6 ≤ 6)
    (hr : vx_Run p l e R (s.setDrawn s.drawn) m args below meth c H locs cells slots 1 6 (F0 m pc ls st0) rest (fun _ _ _ => False) (qX D cy ad E I' G' J' H.size) (aA ad H.size)) :
    W p l e R (s.setDrawn s.drawn) m args below meth c H locs cells slots (vx_MQ below (fun _ _ _ _ => False) (qX D cy ad E I' G' J' s.heap.size) args s 1 6 (aA ad s.heap.size)) (F0 m pc ls st0) :=
  x_run hst hr (fun ce q9 H1 locs1 h1 hq hv hcl => x_out h1 hout hlk hq hv hcl hc hs)
/-- throw new E("text"), in a body without a table -/
theorem x_throw (hl : l.stackTraces = false) (am : Amb p s m args c cc nL RX4 D cy ad) (hst : St D cy ad s.heap I G J H locs) (hout : ∀ x ∈ c.exceptionTable.toList, False) (hlk : meth.locks = false) {lvv : List (Nat × Value)} (hlv : lv_has ls nL lvv) {text : String} {ik is ic : Nat}
    (hw : ∀ w ∈ Cond.classLink RX4 ik E :: Cond.initialized E :: vx_atS RX4 ic E ["java/lang/RuntimeException", "java/lang/Exception"], w ∈ tT) (hg : ∀ w ∈ Cond.classLink RX4 ik E :: Cond.initialized E :: vx_atS RX4 ic E ["java/lang/RuntimeException", "java/lang/Exception"], vx_ot w = true) (hcls : Bundle.fit E = true) (hstr : (is, text) ∈ tStr)
    (d0 : decode cc pc = .ok (.new ik, 3)) (d3 : decode cc (pc + 3) = .ok (.dup, 1)) (d4 : decode cc (pc + 4) = .ok (.ldc is, 2)) (d6 : decode cc (pc + 6) = .ok (.invokespecial ic, 3)) (d9 : decode cc (pc + 9) = .ok (.athrow, 1))
    (hR : 5 < R.frames) (hRl : (rest.map fun v => v.category).sum + 82 ≤ R.locals) (hRc : cells + 1 ≤ R.cells) (hRs : slots + 6 ≤ R.slots) (hc : cells + 1 ≤ 1) (hs : slots + 6 ≤ 6) :
    W p l e R (s.setDrawn s.drawn) m args below meth c H locs cells slots (vx_MQ below (fun _ _ _ _ => False) (qX D cy ad E I G J s.heap.size) args s 1 6 (aA ad s.heap.size)) (F0 m pc ls rest) := by
  obtain ⟨hx, hb, hml, hown, hts, hK, hadI, hStr, hZ⟩ := am
  obtain ⟨sa, hsa⟩ := hStr _ hstr
  obtain ⟨⟨F, hF, hP⟩, hS⟩ := hst
  have hmem : ∀ k, k < 72 → ad k < H.size := fun k hk => (hP k _ (wat hk)).lt
  exact vx_throwS (s := s) hx hb hl hown hcls (by decide) (hts _ (hw _ List.mem_cons_self)) (hts _ (hw _ (List.mem_cons_of_mem _ List.mem_cons_self))) hsa (fun w h => hts _ (hw _ (List.mem_cons_of_mem _ (List.mem_cons_of_mem _ h)))) hg hZ.1 hZ.2 hS (hlv.1.trans hml.symm) d0 d3 d4 d6 d9 (fun x hx => (hout x hx).elim) hR hRl hRc hRs hlk
    (fun t _ hsz hk => ⟨(), trivial, ⟨rfl, ⟨F, hF, hP.kept (fun k q hq => hk _ ((hP k q hq).lt))⟩⟩, ⟨Nat.le_trans hS.1 hsz, fun q h1 h2 => (hk q (Nat.lt_of_lt_of_le h1 hS.1)).trans (hS.2.1 q h1 h2)⟩⟩) hS.2.2 hc hs
end
end
section
/-! the words that the walks use, each by its place in the tables; small rows -/
theorem vinL {x : Int32} {n : Nat} (h : ¬ (x < 0 ∨ n ≤ x.toNatClampNeg)) : vp_in x n := h
theorem cn_k0 : cn FP.dconst0 = 0 := by decide +kernel
theorem cn_k4607182418800017408 : cn FP.dconst1 = 4607182418800017408 := by decide +kernel
def Ng (x : UInt64) : UInt64 := cn (FP.dneg x)
theorem cn_neg {x X : UInt64} (h : cn x = X) : cn (FP.dneg x) = Ng X := by
  unfold Ng
  by_cases hx : isNaN64 x = true
  · have h1 : isNaN64 (FP.dneg x) = true := by
      rw [fp_nan, ← FP.Core.dIsNaN_iff]
      have h2 := FP.dneg_nan x
      have h3 : FP.dIsNaN x = true := FP.Core.dIsNaN_iff x |>.mpr (fp_nan.mp hx)
      exact h2.trans h3
    have hX : isNaN64 X = true := by rw [← h, cn_isn]; exact hx
    have h4 : isNaN64 (FP.dneg X) = true := by
      rw [fp_nan, ← FP.Core.dIsNaN_iff]
      have h2 := FP.dneg_nan X
      have h3 : FP.dIsNaN X = true := FP.Core.dIsNaN_iff X |>.mpr (fp_nan.mp hX)
      exact h2.trans h3
    rw [cn_nan h1, cn_nan h4]
  · rw [cn_num hx] at h
    rw [h]
def zB (b : Bool) : Int32 := if b then 1 else 0
theorem zB_nar (b : Bool) : narrow .boolean (.int (zB b)) = .int (zB b) := by cases b <;> rfl
theorem zB_fit (b : Bool) : vp_nar .boolean (zB b) = zB b := by cases b <;> rfl
theorem zB_0 {b : Bool} : zB b = 0 ↔ b = false := by cases b <;> simp [zB]
theorem zB_n0 {b : Bool} : ¬ zB b = 0 ↔ b = true := by cases b <;> simp [zB]
theorem zB_t : zB true = 1 := rfl
theorem zB_f : zB false = 0 := rfl
section
variable {p : Program} {l : Launch} {e : Env} {R : Room} {s : State} {m : MethodId} {args : Array Value} {below : List Frame} {meth : Method} {c : Code} {H : Heap} {locs : List Loc} {cells slots : Nat} {Q : State → Prop}
variable {cc : ByteArray} {nL : Nat} {own : String} {D : va_G} {cy : Nat → ClassId} {ad : Nat → Nat} {I : Im} {G : Dm} {J : Jm} {d0 : Drawn} {pc : Nat} {ls : Array Slot} {rest : List Value}
variable {C : String} {T : u_T} {N ci index k cell b : Nat} {fs : (Nat → Int32) → (Nat → UInt64) → (Nat → Int64) → List Value}
theorem w_dneg (hx : p.tables.exec = Jvm.exec) (hb : c.code = cc) {x X : UInt64} (h : cn x = X) (hdg : decode cc pc = .ok (.dneg, 1))
    (kk : ∀ v : UInt64, cn v = Ng X → W p l e R (s.setDrawn d0) m args below meth c H locs cells slots Q (F0 m (pc + 1) ls (.double v :: rest))) :
    W p l e R (s.setDrawn d0) m args below meth c H locs cells slots Q (F0 m pc ls (.double x :: rest)) :=
  lv_dneg hx hb hdg (kk _ (cn_neg h))
theorem w_getI (am : Amb p s m args c cc nL own D cy ad) (hst : St D cy ad s.heap I G J H locs) (hc : cell < 72) (hE : ∀ i f j, cE cy ad cell i f j = .inr (ci, fs i f j)) (hcl : vwCl[ci]? = some (C, T, N)) (hin : ∀ w ∈ u_ws C T N, w ∈ tT) (hk : k < N) (hv : ∀ i f j, (fs i f j)[k]? = some (.int (i k))) (hw : Cond.fieldLink own index (T k).1 (T k).2.1 (T k).2.2.1 ∈ tT) (hdg : decode cc pc = .ok (.getfield index, 3))
    (kk : W p l e R (s.setDrawn d0) m args below meth c H locs cells slots Q (F0 m (pc + 3) ls (.int (I cell k) :: rest))) : W p l e R (s.setDrawn d0) m args below meth c H locs cells slots Q (F0 m pc ls (.ref (ad cell) :: rest)) :=
  w_get am hst (V := fun i f j => .int (i k)) hc hE hcl hin hk hw hv hdg (fun _ _ => kk)
theorem w_getD (am : Amb p s m args c cc nL own D cy ad) (hst : St D cy ad s.heap I G J H locs) (hc : cell < 72) (hE : ∀ i f j, cE cy ad cell i f j = .inr (ci, fs i f j)) (hcl : vwCl[ci]? = some (C, T, N)) (hin : ∀ w ∈ u_ws C T N, w ∈ tT) (hk : k < N) (hv : ∀ i f j, (fs i f j)[k]? = some (.double (f k))) (hw : Cond.fieldLink own index (T k).1 (T k).2.1 (T k).2.2.1 ∈ tT) (hdg : decode cc pc = .ok (.getfield index, 3))
    (kk : ∀ x : UInt64, cn x = G cell k → W p l e R (s.setDrawn d0) m args below meth c H locs cells slots Q (F0 m (pc + 3) ls (.double x :: rest))) : W p l e R (s.setDrawn d0) m args below meth c H locs cells slots Q (F0 m pc ls (.ref (ad cell) :: rest)) :=
  w_get am hst (V := fun i f j => .double (f k)) hc hE hcl hin hk hw hv hdg (fun F hF => kk _ (hF cell k))
theorem w_getJ (am : Amb p s m args c cc nL own D cy ad) (hst : St D cy ad s.heap I G J H locs) (hc : cell < 72) (hE : ∀ i f j, cE cy ad cell i f j = .inr (ci, fs i f j)) (hcl : vwCl[ci]? = some (C, T, N)) (hin : ∀ w ∈ u_ws C T N, w ∈ tT) (hk : k < N) (hv : ∀ i f j, (fs i f j)[k]? = some (.long (j k))) (hw : Cond.fieldLink own index (T k).1 (T k).2.1 (T k).2.2.1 ∈ tT) (hdg : decode cc pc = .ok (.getfield index, 3))
    (kk : W p l e R (s.setDrawn d0) m args below meth c H locs cells slots Q (F0 m (pc + 3) ls (.long (J cell k) :: rest))) : W p l e R (s.setDrawn d0) m args below meth c H locs cells slots Q (F0 m pc ls (.ref (ad cell) :: rest)) :=
  w_get am hst (V := fun i f j => .long (j k)) hc hE hcl hin hk hw hv hdg (fun _ _ => kk)
theorem w_getR (am : Amb p s m args c cc nL own D cy ad) (hst : St D cy ad s.heap I G J H locs) (hc : cell < 72) (hE : ∀ i f j, cE cy ad cell i f j = .inr (ci, fs i f j)) (hcl : vwCl[ci]? = some (C, T, N)) (hin : ∀ w ∈ u_ws C T N, w ∈ tT) (hk : k < N) (hv : ∀ i f j, (fs i f j)[k]? = some (.ref b)) (hw : Cond.fieldLink own index (T k).1 (T k).2.1 (T k).2.2.1 ∈ tT) (hdg : decode cc pc = .ok (.getfield index, 3))
    (kk : W p l e R (s.setDrawn d0) m args below meth c H locs cells slots Q (F0 m (pc + 3) ls (.ref b :: rest))) : W p l e R (s.setDrawn d0) m args below meth c H locs cells slots Q (F0 m pc ls (.ref (ad cell) :: rest)) :=
  w_get am hst (V := fun i f j => .ref b) hc hE hcl hin hk hw hv hdg (fun _ _ => kk)
theorem w_getIN (am : Amb p s m args c cc nL own D cy ad) (hst : St D cy ad s.heap I G J H locs) {host : String} (hc : cell < 72) (hE : ∀ i f j, cE cy ad cell i f j = .inr (ci, fs i f j)) (hcl : vwCl[ci]? = some (C, T, N)) (hin : ∀ w ∈ u_ws C T N, w ∈ tT) (hk : k < N) (hv : ∀ i f j, (fs i f j)[k]? = some (.int (i k))) (hw : Cond.fieldLinkNest own index (T k).1 (T k).2.1 (T k).2.2.1 host ∈ tT) (hdg : decode cc pc = .ok (.getfield index, 3))
    (kk : W p l e R (s.setDrawn d0) m args below meth c H locs cells slots Q (F0 m (pc + 3) ls (.int (I cell k) :: rest))) : W p l e R (s.setDrawn d0) m args below meth c H locs cells slots Q (F0 m pc ls (.ref (ad cell) :: rest)) :=
  w_getN am hst (V := fun i f j => .int (i k)) hc hE hcl hin hk hw hv hdg (fun _ _ => kk)
theorem w_getDN (am : Amb p s m args c cc nL own D cy ad) (hst : St D cy ad s.heap I G J H locs) {host : String} (hc : cell < 72) (hE : ∀ i f j, cE cy ad cell i f j = .inr (ci, fs i f j)) (hcl : vwCl[ci]? = some (C, T, N)) (hin : ∀ w ∈ u_ws C T N, w ∈ tT) (hk : k < N) (hv : ∀ i f j, (fs i f j)[k]? = some (.double (f k))) (hw : Cond.fieldLinkNest own index (T k).1 (T k).2.1 (T k).2.2.1 host ∈ tT) (hdg : decode cc pc = .ok (.getfield index, 3))
    (kk : ∀ x : UInt64, cn x = G cell k → W p l e R (s.setDrawn d0) m args below meth c H locs cells slots Q (F0 m (pc + 3) ls (.double x :: rest))) : W p l e R (s.setDrawn d0) m args below meth c H locs cells slots Q (F0 m pc ls (.ref (ad cell) :: rest)) :=
  w_getN am hst (V := fun i f j => .double (f k)) hc hE hcl hin hk hw hv hdg (fun F hF => kk _ (hF cell k))
theorem w_getJN (am : Amb p s m args c cc nL own D cy ad) (hst : St D cy ad s.heap I G J H locs) {host : String} (hc : cell < 72) (hE : ∀ i f j, cE cy ad cell i f j = .inr (ci, fs i f j)) (hcl : vwCl[ci]? = some (C, T, N)) (hin : ∀ w ∈ u_ws C T N, w ∈ tT) (hk : k < N) (hv : ∀ i f j, (fs i f j)[k]? = some (.long (j k))) (hw : Cond.fieldLinkNest own index (T k).1 (T k).2.1 (T k).2.2.1 host ∈ tT) (hdg : decode cc pc = .ok (.getfield index, 3))
    (kk : W p l e R (s.setDrawn d0) m args below meth c H locs cells slots Q (F0 m (pc + 3) ls (.long (J cell k) :: rest))) : W p l e R (s.setDrawn d0) m args below meth c H locs cells slots Q (F0 m pc ls (.ref (ad cell) :: rest)) :=
  w_getN am hst (V := fun i f j => .long (j k)) hc hE hcl hin hk hw hv hdg (fun _ _ => kk)
theorem w_getRN (am : Amb p s m args c cc nL own D cy ad) (hst : St D cy ad s.heap I G J H locs) {host : String} (hc : cell < 72) (hE : ∀ i f j, cE cy ad cell i f j = .inr (ci, fs i f j)) (hcl : vwCl[ci]? = some (C, T, N)) (hin : ∀ w ∈ u_ws C T N, w ∈ tT) (hk : k < N) (hv : ∀ i f j, (fs i f j)[k]? = some (.ref b)) (hw : Cond.fieldLinkNest own index (T k).1 (T k).2.1 (T k).2.2.1 host ∈ tT) (hdg : decode cc pc = .ok (.getfield index, 3))
    (kk : W p l e R (s.setDrawn d0) m args below meth c H locs cells slots Q (F0 m (pc + 3) ls (.ref b :: rest))) : W p l e R (s.setDrawn d0) m args below meth c H locs cells slots Q (F0 m pc ls (.ref (ad cell) :: rest)) :=
  w_getN am hst (V := fun i f j => .ref b) hc hE hcl hin hk hw hv hdg (fun _ _ => kk)
end
theorem wRX4_34 : Cond.constantDouble RX4 34 (4625196817309499392) ∈ tT := tT_in (k := 110) (by decide +kernel) rfl
theorem wRX0_32 : Cond.constantDouble RX0 32 (4611686018427387904) ∈ tT := tT_in (k := 207) (by decide +kernel) rfl
theorem wRX2_59 : Cond.constantDouble RX2 59 (4517110426252607488) ∈ tT := tT_in (k := 216) (by decide +kernel) rfl
theorem wRJ6_265 : Cond.constant RJ6 265 (1431655765) ∈ tT := tT_in (k := 236) (by decide +kernel) rfl
theorem wRJ6_266 : Cond.constant RJ6 266 (858993459) ∈ tT := tT_in (k := 237) (by decide +kernel) rfl
theorem wRJ6_267 : Cond.constant RJ6 267 (252645135) ∈ tT := tT_in (k := 238) (by decide +kernel) rfl
theorem wRX4_129 : Cond.constantDouble RX4 129 (4616189618054758400) ∈ tT := tT_in (k := 449) (by decide +kernel) rfl
theorem wRX4_183 : Cond.constantLong RX4 183 (-7046029254386353131) ∈ tT := tT_in (k := 543) (by decide +kernel) rfl
theorem wRX4_185 : Cond.constantLong RX4 185 (-4658895280553007687) ∈ tT := tT_in (k := 544) (by decide +kernel) rfl
theorem wRX4_187 : Cond.constantLong RX4 187 (-7723592293110705685) ∈ tT := tT_in (k := 545) (by decide +kernel) rfl
theorem wRX4_189 : Cond.constantDouble RX4 189 (4674736413210574848) ∈ tT := tT_in (k := 546) (by decide +kernel) rfl
theorem wRX5_48 : Cond.constantDouble RX5 48 (4625196817309499392) ∈ tT := tT_in (k := 553) (by decide +kernel) rfl
theorem wRX5_83 : Cond.constantDouble RX5 83 (4652007308841189376) ∈ tT := tT_in (k := 644) (by decide +kernel) rfl
theorem wRX5_89 : Cond.constantDouble RX5 89 (4636737291354636288) ∈ tT := tT_in (k := 652) (by decide +kernel) rfl
theorem wRX5_91 : Cond.constantDouble RX5 91 (4621819117588971520) ∈ tT := tT_in (k := 653) (by decide +kernel) rfl
theorem wRX5_93 : Cond.constantDouble RX5 93 (4611686018427387904) ∈ tT := tT_in (k := 682) (by decide +kernel) rfl
theorem wRX5_106 : Cond.constantDouble RX5 106 (4517110426252607488) ∈ tT := tT_in (k := 683) (by decide +kernel) rfl
theorem wRX5_116 : Cond.constantDouble RX5 116 (4616189618054758400) ∈ tT := tT_in (k := 708) (by decide +kernel) rfl
theorem wRX5_131 : Cond.constantDouble RX5 131 (13875379345695965184) ∈ tT := tT_in (k := 736) (by decide +kernel) rfl
theorem wRX5_133 : Cond.constantLong RX5 133 (-7046029254386353131) ∈ tT := tT_in (k := 745) (by decide +kernel) rfl
theorem wRX5_135 : Cond.constantLong RX5 135 (-4658895280553007687) ∈ tT := tT_in (k := 746) (by decide +kernel) rfl
theorem wRX5_137 : Cond.constantLong RX5 137 (-7723592293110705685) ∈ tT := tT_in (k := 747) (by decide +kernel) rfl
theorem wRX5_139 : Cond.constantDouble RX5 139 (4674736413210574848) ∈ tT := tT_in (k := 748) (by decide +kernel) rfl
theorem wRL_95 : Cond.constantDouble RL 95 (4593671619917905920) ∈ tT := tT_in (k := 749) (by decide +kernel) rfl
theorem cn_k13875379345695965184 : cn 13875379345695965184 = 13875379345695965184 := by decide +kernel
theorem cn_k4517110426252607488 : cn 4517110426252607488 = 4517110426252607488 := by decide +kernel
theorem cn_k4593671619917905920 : cn 4593671619917905920 = 4593671619917905920 := by decide +kernel
theorem cn_k4611686018427387904 : cn 4611686018427387904 = 4611686018427387904 := by decide +kernel
theorem cn_k4616189618054758400 : cn 4616189618054758400 = 4616189618054758400 := by decide +kernel
theorem cn_k4621819117588971520 : cn 4621819117588971520 = 4621819117588971520 := by decide +kernel
theorem cn_k4625196817309499392 : cn 4625196817309499392 = 4625196817309499392 := by decide +kernel
theorem cn_k4636737291354636288 : cn 4636737291354636288 = 4636737291354636288 := by decide +kernel
theorem cn_k4652007308841189376 : cn 4652007308841189376 = 4652007308841189376 := by decide +kernel
theorem cn_k4674736413210574848 : cn 4674736413210574848 = 4674736413210574848 := by decide +kernel
theorem fRX4_7 : Cond.fieldLink RX4 7 (TX4 0).1 (TX4 0).2.1 (TX4 0).2.2.1 ∈ tT := tT_in (k := 150) (by decide +kernel) rfl
theorem fRX4_15 : Cond.fieldLink RX4 15 (TX4 1).1 (TX4 1).2.1 (TX4 1).2.2.1 ∈ tT := tT_in (k := 151) (by decide +kernel) rfl
theorem fRX4_23 : Cond.fieldLink RX4 23 (TX4 3).1 (TX4 3).2.1 (TX4 3).2.2.1 ∈ tT := tT_in (k := 153) (by decide +kernel) rfl
theorem fRX4_27 : Cond.fieldLink RX4 27 (TX4 4).1 (TX4 4).2.1 (TX4 4).2.2.1 ∈ tT := tT_in (k := 154) (by decide +kernel) rfl
theorem fRX4_30 : Cond.fieldLink RX4 30 (TX4 5).1 (TX4 5).2.1 (TX4 5).2.2.1 ∈ tT := tT_in (k := 155) (by decide +kernel) rfl
theorem fRX4_39 : Cond.fieldLink RX4 39 (TX4 6).1 (TX4 6).2.1 (TX4 6).2.2.1 ∈ tT := tT_in (k := 156) (by decide +kernel) rfl
theorem fRX4_46 : Cond.fieldLink RX4 46 (TX4 7).1 (TX4 7).2.1 (TX4 7).2.2.1 ∈ tT := tT_in (k := 157) (by decide +kernel) rfl
theorem fRX4_50 : Cond.fieldLink RX4 50 (TX4 2).1 (TX4 2).2.1 (TX4 2).2.2.1 ∈ tT := tT_in (k := 152) (by decide +kernel) rfl
theorem fRX4_72 : Cond.fieldLinkNest RX4 72 (TX0 0).1 (TX0 0).2.1 (TX0 0).2.2.1 "StrengthRows" ∈ tT := tT_in (k := 60) (by decide +kernel) rfl
theorem fRX4_77 : Cond.fieldLinkNest RX4 77 (TX0 1).1 (TX0 1).2.1 (TX0 1).2.2.1 "StrengthRows" ∈ tT := tT_in (k := 61) (by decide +kernel) rfl
theorem fRX4_81 : Cond.fieldLinkNest RX4 81 (TX0 2).1 (TX0 2).2.1 (TX0 2).2.2.1 "StrengthRows" ∈ tT := tT_in (k := 64) (by decide +kernel) rfl
theorem fRX4_84 : Cond.fieldLinkNest RX4 84 (TX0 3).1 (TX0 3).2.1 (TX0 3).2.2.1 "StrengthRows" ∈ tT := tT_in (k := 65) (by decide +kernel) rfl
theorem fRX4_87 : Cond.fieldLinkNest RX4 87 (TX0 5).1 (TX0 5).2.1 (TX0 5).2.2.1 "StrengthRows" ∈ tT := tT_in (k := 70) (by decide +kernel) rfl
theorem fRX4_91 : Cond.fieldLinkNest RX4 91 (TX0 6).1 (TX0 6).2.1 (TX0 6).2.2.1 "StrengthRows" ∈ tT := tT_in (k := 71) (by decide +kernel) rfl
theorem fRX4_96 : Cond.fieldLinkNest RX4 96 (TX0 4).1 (TX0 4).2.1 (TX0 4).2.2.1 "StrengthRows" ∈ tT := tT_in (k := 68) (by decide +kernel) rfl
theorem fRX4_108 : Cond.fieldLinkNest RX4 108 (TX2 2).1 (TX2 2).2.1 (TX2 2).2.2.1 "StrengthRows" ∈ tT := tT_in (k := 101) (by decide +kernel) rfl
theorem fRX4_202 : Cond.fieldLinkNest RX4 202 (TX0 7).1 (TX0 7).2.1 (TX0 7).2.2.1 "StrengthRows" ∈ tT := tT_in (k := 72) (by decide +kernel) rfl
theorem fRX0_7 : Cond.fieldLink RX0 7 (TX0 0).1 (TX0 0).2.1 (TX0 0).2.2.1 ∈ tT := tT_in (k := 59) (by decide +kernel) rfl
theorem fRX0_13 : Cond.fieldLink RX0 13 (TX0 2).1 (TX0 2).2.1 (TX0 2).2.2.1 ∈ tT := tT_in (k := 63) (by decide +kernel) rfl
theorem fRX0_21 : Cond.fieldLink RX0 21 (TX0 5).1 (TX0 5).2.1 (TX0 5).2.2.1 ∈ tT := tT_in (k := 69) (by decide +kernel) rfl
theorem fRX0_25 : Cond.fieldLink RX0 25 (TX0 1).1 (TX0 1).2.1 (TX0 1).2.2.1 ∈ tT := tT_in (k := 62) (by decide +kernel) rfl
theorem fRX0_34 : Cond.fieldLink RX0 34 (TX0 3).1 (TX0 3).2.1 (TX0 3).2.2.1 ∈ tT := tT_in (k := 66) (by decide +kernel) rfl
theorem fRX1_9 : Cond.fieldLink RX1 9 (TX1 0).1 (TX1 0).2.1 (TX1 0).2.2.1 ∈ tT := tT_in (k := 117) (by decide +kernel) rfl
theorem fRX1_15 : Cond.fieldLink RX1 15 (TX1 1).1 (TX1 1).2.1 (TX1 1).2.2.1 ∈ tT := tT_in (k := 118) (by decide +kernel) rfl
theorem fRX1_18 : Cond.fieldLink RX1 18 (TX1 2).1 (TX1 2).2.1 (TX1 2).2.2.1 ∈ tT := tT_in (k := 119) (by decide +kernel) rfl
theorem fRX1_21 : Cond.fieldLink RX1 21 (TX1 3).1 (TX1 3).2.1 (TX1 3).2.2.1 ∈ tT := tT_in (k := 120) (by decide +kernel) rfl
theorem fRX2_11 : Cond.fieldLink RX2 11 (TX2 0).1 (TX2 0).2.1 (TX2 0).2.2.1 ∈ tT := tT_in (k := 98) (by decide +kernel) rfl
theorem fRX2_16 : Cond.fieldLink RX2 16 (TX2 1).1 (TX2 1).2.1 (TX2 1).2.2.1 ∈ tT := tT_in (k := 99) (by decide +kernel) rfl
theorem fRX2_20 : Cond.fieldLink RX2 20 (TX2 2).1 (TX2 2).2.1 (TX2 2).2.2.1 ∈ tT := tT_in (k := 100) (by decide +kernel) rfl
theorem fRX2_47 : Cond.fieldLinkNest RX2 47 (TX0 4).1 (TX0 4).2.1 (TX0 4).2.2.1 "StrengthRows" ∈ tT := tT_in (k := 67) (by decide +kernel) rfl
theorem fRX3_9 : Cond.fieldLink RX3 9 (TX3 0).1 (TX3 0).2.1 (TX3 0).2.2.1 ∈ tT := tT_in (k := 136) (by decide +kernel) rfl
theorem fRX3_15 : Cond.fieldLink RX3 15 (TX3 1).1 (TX3 1).2.1 (TX3 1).2.2.1 ∈ tT := tT_in (k := 137) (by decide +kernel) rfl
theorem fRX3_19 : Cond.fieldLink RX3 19 (TX3 3).1 (TX3 3).2.1 (TX3 3).2.2.1 ∈ tT := tT_in (k := 139) (by decide +kernel) rfl
theorem fRX3_23 : Cond.fieldLink RX3 23 (TX3 2).1 (TX3 2).2.1 (TX3 2).2.2.1 ∈ tT := tT_in (k := 138) (by decide +kernel) rfl
theorem fRX5_7 : Cond.fieldLink RX5 7 (TX5 3).1 (TX5 3).2.1 (TX5 3).2.2.1 ∈ tT := tT_in (k := 557) (by decide +kernel) rfl
theorem fRX5_13 : Cond.fieldLink RX5 13 (TX5 4).1 (TX5 4).2.1 (TX5 4).2.2.1 ∈ tT := tT_in (k := 558) (by decide +kernel) rfl
theorem fRX5_17 : Cond.fieldLink RX5 17 (TX5 5).1 (TX5 5).2.1 (TX5 5).2.2.1 ∈ tT := tT_in (k := 559) (by decide +kernel) rfl
theorem fRX5_20 : Cond.fieldLink RX5 20 (TX5 6).1 (TX5 6).2.1 (TX5 6).2.2.1 ∈ tT := tT_in (k := 560) (by decide +kernel) rfl
theorem fRX5_23 : Cond.fieldLink RX5 23 (TX5 7).1 (TX5 7).2.1 (TX5 7).2.2.1 ∈ tT := tT_in (k := 561) (by decide +kernel) rfl
theorem fRX5_26 : Cond.fieldLink RX5 26 (TX5 8).1 (TX5 8).2.1 (TX5 8).2.2.1 ∈ tT := tT_in (k := 562) (by decide +kernel) rfl
theorem fRX5_30 : Cond.fieldLink RX5 30 (TX5 9).1 (TX5 9).2.1 (TX5 9).2.2.1 ∈ tT := tT_in (k := 563) (by decide +kernel) rfl
theorem fRX5_33 : Cond.fieldLink RX5 33 (TX5 10).1 (TX5 10).2.1 (TX5 10).2.2.1 ∈ tT := tT_in (k := 564) (by decide +kernel) rfl
theorem fRX5_36 : Cond.fieldLink RX5 36 (TX5 11).1 (TX5 11).2.1 (TX5 11).2.2.1 ∈ tT := tT_in (k := 565) (by decide +kernel) rfl
theorem fRX5_39 : Cond.fieldLink RX5 39 (TX5 12).1 (TX5 12).2.1 (TX5 12).2.2.1 ∈ tT := tT_in (k := 566) (by decide +kernel) rfl
theorem fRX5_42 : Cond.fieldLink RX5 42 (TX5 13).1 (TX5 13).2.1 (TX5 13).2.2.1 ∈ tT := tT_in (k := 567) (by decide +kernel) rfl
theorem fRX5_45 : Cond.fieldLink RX5 45 (TX5 14).1 (TX5 14).2.1 (TX5 14).2.2.1 ∈ tT := tT_in (k := 568) (by decide +kernel) rfl
theorem fRX5_50 : Cond.fieldLink RX5 50 (TX5 15).1 (TX5 15).2.1 (TX5 15).2.2.1 ∈ tT := tT_in (k := 569) (by decide +kernel) rfl
theorem fRX5_53 : Cond.fieldLink RX5 53 (TX5 16).1 (TX5 16).2.1 (TX5 16).2.2.1 ∈ tT := tT_in (k := 570) (by decide +kernel) rfl
theorem fRX5_57 : Cond.fieldLink RX5 57 (TX5 17).1 (TX5 17).2.1 (TX5 17).2.2.1 ∈ tT := tT_in (k := 571) (by decide +kernel) rfl
theorem fRX5_60 : Cond.fieldLink RX5 60 (TX5 20).1 (TX5 20).2.1 (TX5 20).2.2.1 ∈ tT := tT_in (k := 574) (by decide +kernel) rfl
theorem fRX5_63 : Cond.fieldLink RX5 63 (TX5 22).1 (TX5 22).2.1 (TX5 22).2.2.1 ∈ tT := tT_in (k := 576) (by decide +kernel) rfl
theorem fRX5_66 : Cond.fieldLink RX5 66 (TX5 23).1 (TX5 23).2.1 (TX5 23).2.2.1 ∈ tT := tT_in (k := 577) (by decide +kernel) rfl
theorem fRX5_69 : Cond.fieldLink RX5 69 (TX5 1).1 (TX5 1).2.1 (TX5 1).2.2.1 ∈ tT := tT_in (k := 555) (by decide +kernel) rfl
theorem fRX5_73 : Cond.fieldLink RX5 73 (TX5 0).1 (TX5 0).2.1 (TX5 0).2.2.1 ∈ tT := tT_in (k := 554) (by decide +kernel) rfl
theorem fRX5_76 : Cond.fieldLink RX5 76 (TX5 2).1 (TX5 2).2.1 (TX5 2).2.2.1 ∈ tT := tT_in (k := 556) (by decide +kernel) rfl
theorem fRX5_122 : Cond.fieldLink RX5 122 (TX5 19).1 (TX5 19).2.1 (TX5 19).2.2.1 ∈ tT := tT_in (k := 573) (by decide +kernel) rfl
theorem fRX5_125 : Cond.fieldLink RX5 125 (TX5 18).1 (TX5 18).2.1 (TX5 18).2.2.1 ∈ tT := tT_in (k := 572) (by decide +kernel) rfl
theorem fRX5_128 : Cond.fieldLink RX5 128 (TX5 21).1 (TX5 21).2.1 (TX5 21).2.2.1 ∈ tT := tT_in (k := 575) (by decide +kernel) rfl
theorem kRX4_19 : cwN (.code yX0_init cX0_init 1 none) RX4 19 yX0_init "StrengthRows" 0 := ⟨tT_in (k := 57) (by decide +kernel) rfl, tT_in (k := 55) (by decide +kernel) rfl, tT_in (k := 32) (by decide +kernel) rfl, ⟨by decide +kernel, by decide +kernel⟩, by decide +kernel⟩
theorem imX0_init : Cond.instanceMethod yX0_init ∈ tT := tT_in (k := 56) (by decide +kernel) rfl
theorem kRX4_22 : cwN (.code yX2_init cX2_init 1 none) RX4 22 yX2_init "StrengthRows" 0 := ⟨tT_in (k := 94) (by decide +kernel) rfl, tT_in (k := 92) (by decide +kernel) rfl, tT_in (k := 33) (by decide +kernel) rfl, ⟨by decide +kernel, by decide +kernel⟩, by decide +kernel⟩
theorem imX2_init : Cond.instanceMethod yX2_init ∈ tT := tT_in (k := 93) (by decide +kernel) rfl
theorem kRX4_38 : cwN (.code yX1_init cX1_init 1 none) RX4 38 yX1_init "StrengthRows" 0 := ⟨tT_in (k := 115) (by decide +kernel) rfl, tT_in (k := 113) (by decide +kernel) rfl, tT_in (k := 34) (by decide +kernel) rfl, ⟨by decide +kernel, by decide +kernel⟩, by decide +kernel⟩
theorem imX1_init : Cond.instanceMethod yX1_init ∈ tT := tT_in (k := 114) (by decide +kernel) rfl
theorem kRX4_45 : cwN (.code yX3_init cX3_init 1 none) RX4 45 yX3_init "StrengthRows" 0 := ⟨tT_in (k := 134) (by decide +kernel) rfl, tT_in (k := 132) (by decide +kernel) rfl, tT_in (k := 35) (by decide +kernel) rfl, ⟨by decide +kernel, by decide +kernel⟩, by decide +kernel⟩
theorem imX3_init : Cond.instanceMethod yX3_init ∈ tT := tT_in (k := 133) (by decide +kernel) rfl
theorem kRX4_60 : cwK (.code yX4_boardAt cX4_boardAt 2 (some (.object "StrengthRows$Board"))) RX4 60 yX4_boardAt 1 := ⟨tT_in (k := 330) (by decide +kernel) rfl, tT_in (k := 327) (by decide +kernel) rfl, tT_in (k := 31) (by decide +kernel) rfl, ⟨by decide +kernel, by decide +kernel⟩, by decide +kernel⟩
theorem imX4_boardAt : Cond.instanceMethod yX4_boardAt ∈ tT := tT_in (k := 329) (by decide +kernel) rfl
theorem slX4_boardAt : Cond.selects RX4 yX4_boardAt yX4_boardAt ∈ tT := tT_in (k := 13) (by decide +kernel) rfl
theorem kRX4_64 : cwK (.code yX4_isWithin cX4_isWithin 4 (some .boolean)) RX4 64 yX4_isWithin 3 := ⟨tT_in (k := 349) (by decide +kernel) rfl, tT_in (k := 347) (by decide +kernel) rfl, tT_in (k := 31) (by decide +kernel) rfl, ⟨by decide +kernel, by decide +kernel⟩, by decide +kernel⟩
theorem smX4_isWithin : Cond.static yX4_isWithin ∈ tT := tT_in (k := 348) (by decide +kernel) rfl
theorem kRX4_68 : cwK (.code yX4_need cX4_need 1 none) RX4 68 yX4_need 1 := ⟨tT_in (k := 352) (by decide +kernel) rfl, tT_in (k := 350) (by decide +kernel) rfl, tT_in (k := 31) (by decide +kernel) rfl, ⟨by decide +kernel, by decide +kernel⟩, by decide +kernel⟩
theorem smX4_need : Cond.static yX4_need ∈ tT := tT_in (k := 351) (by decide +kernel) rfl
theorem kRX4_99 : cwN (.code yX2_reckon cX2_reckon 7 (some .int)) RX4 99 yX2_reckon "StrengthRows" 2 := ⟨tT_in (k := 182) (by decide +kernel) rfl, tT_in (k := 179) (by decide +kernel) rfl, tT_in (k := 33) (by decide +kernel) rfl, ⟨by decide +kernel, by decide +kernel⟩, by decide +kernel⟩
theorem imX2_reckon : Cond.instanceMethod yX2_reckon ∈ tT := tT_in (k := 181) (by decide +kernel) rfl
theorem slX2_reckon : Cond.selects RX2 yX2_reckon yX2_reckon ∈ tT := tT_in (k := 0) (by decide +kernel) rfl
theorem kRX4_111 : cwK (.code yX4_completeBoardAt cX4_completeBoardAt 3 (some (.object "StrengthRows$Board"))) RX4 111 yX4_completeBoardAt 1 := ⟨tT_in (k := 410) (by decide +kernel) rfl, tT_in (k := 407) (by decide +kernel) rfl, tT_in (k := 31) (by decide +kernel) rfl, ⟨by decide +kernel, by decide +kernel⟩, by decide +kernel⟩
theorem imX4_completeBoardAt : Cond.instanceMethod yX4_completeBoardAt ∈ tT := tT_in (k := 409) (by decide +kernel) rfl
theorem slX4_completeBoardAt : Cond.selects RX4 yX4_completeBoardAt yX4_completeBoardAt ∈ tT := tT_in (k := 14) (by decide +kernel) rfl
theorem kRX4_114 : cwN (.code yX2_foretell cX2_foretell 2 (some .double)) RX4 114 yX2_foretell "StrengthRows" 1 := ⟨tT_in (k := 416) (by decide +kernel) rfl, tT_in (k := 413) (by decide +kernel) rfl, tT_in (k := 33) (by decide +kernel) rfl, ⟨by decide +kernel, by decide +kernel⟩, by decide +kernel⟩
theorem imX2_foretell : Cond.instanceMethod yX2_foretell ∈ tT := tT_in (k := 415) (by decide +kernel) rfl
theorem slX2_foretell : Cond.selects RX2 yX2_foretell yX2_foretell ∈ tT := tT_in (k := 15) (by decide +kernel) rfl
theorem kRX4_118 : cwK (.code yX4_checkClass cX4_checkClass 1 none) RX4 118 yX4_checkClass 1 := ⟨tT_in (k := 433) (by decide +kernel) rfl, tT_in (k := 431) (by decide +kernel) rfl, tT_in (k := 31) (by decide +kernel) rfl, ⟨by decide +kernel, by decide +kernel⟩, by decide +kernel⟩
theorem smX4_checkClass : Cond.static yX4_checkClass ∈ tT := tT_in (k := 432) (by decide +kernel) rfl
theorem kRX4_122 : cwK (.code yX4_isShare cX4_isShare 3 (some .boolean)) RX4 122 yX4_isShare 3 := ⟨tT_in (k := 444) (by decide +kernel) rfl, tT_in (k := 442) (by decide +kernel) rfl, tT_in (k := 31) (by decide +kernel) rfl, ⟨by decide +kernel, by decide +kernel⟩, by decide +kernel⟩
theorem smX4_isShare : Cond.static yX4_isShare ∈ tT := tT_in (k := 443) (by decide +kernel) rfl
theorem kRX4_126 : cwK (.code yX4_keepForetold cX4_keepForetold 5 none) RX4 126 yX4_keepForetold 0 := ⟨tT_in (k := 448) (by decide +kernel) rfl, tT_in (k := 445) (by decide +kernel) rfl, tT_in (k := 31) (by decide +kernel) rfl, ⟨by decide +kernel, by decide +kernel⟩, by decide +kernel⟩
theorem imX4_keepForetold : Cond.instanceMethod yX4_keepForetold ∈ tT := tT_in (k := 447) (by decide +kernel) rfl
theorem slX4_keepForetold : Cond.selects RX4 yX4_keepForetold yX4_keepForetold ∈ tT := tT_in (k := 16) (by decide +kernel) rfl
theorem kRX4_131 : cwK (.code yX4_isEnough cX4_isEnough 13 (some .boolean)) RX4 131 yX4_isEnough 4 := ⟨tT_in (k := 453) (by decide +kernel) rfl, tT_in (k := 450) (by decide +kernel) rfl, tT_in (k := 31) (by decide +kernel) rfl, ⟨by decide +kernel, by decide +kernel⟩, by decide +kernel⟩
theorem imX4_isEnough : Cond.instanceMethod yX4_isEnough ∈ tT := tT_in (k := 452) (by decide +kernel) rfl
theorem slX4_isEnough : Cond.selects RX4 yX4_isEnough yX4_isEnough ∈ tT := tT_in (k := 17) (by decide +kernel) rfl
theorem kRX4_137 : cwK (.code yX4_waysOfFew cX4_waysOfFew 9 (some .long)) RX4 137 yX4_waysOfFew 4 := ⟨tT_in (k := 465) (by decide +kernel) rfl, tT_in (k := 463) (by decide +kernel) rfl, tT_in (k := 31) (by decide +kernel) rfl, ⟨by decide +kernel, by decide +kernel⟩, by decide +kernel⟩
theorem smX4_waysOfFew : Cond.static yX4_waysOfFew ∈ tT := tT_in (k := 464) (by decide +kernel) rfl
theorem kRX4_141 : cwK (.code yX4_power cX4_power 5 (some .long)) RX4 141 yX4_power 2 := ⟨tT_in (k := 468) (by decide +kernel) rfl, tT_in (k := 466) (by decide +kernel) rfl, tT_in (k := 31) (by decide +kernel) rfl, ⟨by decide +kernel, by decide +kernel⟩, by decide +kernel⟩
theorem smX4_power : Cond.static yX4_power ∈ tT := tT_in (k := 467) (by decide +kernel) rfl
theorem kRX4_145 : cwK (.code yX4_commonDivisor cX4_commonDivisor 11 (some .long)) RX4 145 yX4_commonDivisor 2 := ⟨tT_in (k := 471) (by decide +kernel) rfl, tT_in (k := 469) (by decide +kernel) rfl, tT_in (k := 31) (by decide +kernel) rfl, ⟨by decide +kernel, by decide +kernel⟩, by decide +kernel⟩
theorem smX4_commonDivisor : Cond.static yX4_commonDivisor ∈ tT := tT_in (k := 470) (by decide +kernel) rfl
theorem kRX4_149 : cwN (.code yX1_begin cX1_begin 3 none) RX4 149 yX1_begin "StrengthRows" 2 := ⟨tT_in (k := 482) (by decide +kernel) rfl, tT_in (k := 479) (by decide +kernel) rfl, tT_in (k := 34) (by decide +kernel) rfl, ⟨by decide +kernel, by decide +kernel⟩, by decide +kernel⟩
theorem imX1_begin : Cond.instanceMethod yX1_begin ∈ tT := tT_in (k := 481) (by decide +kernel) rfl
theorem slX1_begin : Cond.selects RX1 yX1_begin yX1_begin ∈ tT := tT_in (k := 18) (by decide +kernel) rfl
theorem kRX4_153 : cwN (.code yX1_actsAt cX1_actsAt 2 (some .boolean)) RX4 153 yX1_actsAt "StrengthRows" 1 := ⟨tT_in (k := 232) (by decide +kernel) rfl, tT_in (k := 229) (by decide +kernel) rfl, tT_in (k := 34) (by decide +kernel) rfl, ⟨by decide +kernel, by decide +kernel⟩, by decide +kernel⟩
theorem imX1_actsAt : Cond.instanceMethod yX1_actsAt ∈ tT := tT_in (k := 231) (by decide +kernel) rfl
theorem slX1_actsAt : Cond.selects RX1 yX1_actsAt yX1_actsAt ∈ tT := tT_in (k := 11) (by decide +kernel) rfl
theorem kRX4_157 : cwN (.code yX0_isComplete cX0_isComplete 1 (some .boolean)) RX4 157 yX0_isComplete "StrengthRows" 0 := ⟨tT_in (k := 194) (by decide +kernel) rfl, tT_in (k := 411) (by decide +kernel) rfl, tT_in (k := 32) (by decide +kernel) rfl, ⟨by decide +kernel, by decide +kernel⟩, by decide +kernel⟩
theorem imX0_isComplete : Cond.instanceMethod yX0_isComplete ∈ tT := tT_in (k := 193) (by decide +kernel) rfl
theorem slX0_isComplete : Cond.selects RX0 yX0_isComplete yX0_isComplete ∈ tT := tT_in (k := 3) (by decide +kernel) rfl
theorem kRX4_163 : cwK (.code yX4_isDay cX4_isDay 1 (some .boolean)) RX4 163 yX4_isDay 1 := ⟨tT_in (k := 507) (by decide +kernel) rfl, tT_in (k := 505) (by decide +kernel) rfl, tT_in (k := 31) (by decide +kernel) rfl, ⟨by decide +kernel, by decide +kernel⟩, by decide +kernel⟩
theorem smX4_isDay : Cond.static yX4_isDay ∈ tT := tT_in (k := 506) (by decide +kernel) rfl
theorem kRX4_167 : cwN (.code yX3_isBehindLast cX3_isBehindLast 2 (some .boolean)) RX4 167 yX3_isBehindLast "StrengthRows" 1 := ⟨tT_in (k := 511) (by decide +kernel) rfl, tT_in (k := 508) (by decide +kernel) rfl, tT_in (k := 35) (by decide +kernel) rfl, ⟨by decide +kernel, by decide +kernel⟩, by decide +kernel⟩
theorem imX3_isBehindLast : Cond.instanceMethod yX3_isBehindLast ∈ tT := tT_in (k := 510) (by decide +kernel) rfl
theorem slX3_isBehindLast : Cond.selects RX3 yX3_isBehindLast yX3_isBehindLast ∈ tT := tT_in (k := 19) (by decide +kernel) rfl
theorem kRX4_170 : cwN (.code yX3_isFull cX3_isFull 1 (some .boolean)) RX4 170 yX3_isFull "StrengthRows" 0 := ⟨tT_in (k := 515) (by decide +kernel) rfl, tT_in (k := 512) (by decide +kernel) rfl, tT_in (k := 35) (by decide +kernel) rfl, ⟨by decide +kernel, by decide +kernel⟩, by decide +kernel⟩
theorem imX3_isFull : Cond.instanceMethod yX3_isFull ∈ tT := tT_in (k := 514) (by decide +kernel) rfl
theorem slX3_isFull : Cond.selects RX3 yX3_isFull yX3_isFull ∈ tT := tT_in (k := 20) (by decide +kernel) rfl
theorem kRX4_175 : cwN (.code yX3_append cX3_append 4 (some .int)) RX4 175 yX3_append "StrengthRows" 2 := ⟨tT_in (k := 520) (by decide +kernel) rfl, tT_in (k := 517) (by decide +kernel) rfl, tT_in (k := 35) (by decide +kernel) rfl, ⟨by decide +kernel, by decide +kernel⟩, by decide +kernel⟩
theorem imX3_append : Cond.instanceMethod yX3_append ∈ tT := tT_in (k := 519) (by decide +kernel) rfl
theorem slX3_append : Cond.selects RX3 yX3_append yX3_append ∈ tT := tT_in (k := 21) (by decide +kernel) rfl
theorem kRX4_179 : cwN (.code yX3_valueAt cX3_valueAt 5 (some .double)) RX4 179 yX3_valueAt "StrengthRows" 1 := ⟨tT_in (k := 531) (by decide +kernel) rfl, tT_in (k := 528) (by decide +kernel) rfl, tT_in (k := 35) (by decide +kernel) rfl, ⟨by decide +kernel, by decide +kernel⟩, by decide +kernel⟩
theorem imX3_valueAt : Cond.instanceMethod yX3_valueAt ∈ tT := tT_in (k := 530) (by decide +kernel) rfl
theorem slX3_valueAt : Cond.selects RX3 yX3_valueAt yX3_valueAt ∈ tT := tT_in (k := 22) (by decide +kernel) rfl
theorem kRX4_205 : cwN (.code yX0_isFitted cX0_isFitted 1 (some .boolean)) RX4 205 yX0_isFitted "StrengthRows" 0 := ⟨tT_in (k := 190) (by decide +kernel) rfl, tT_in (k := 454) (by decide +kernel) rfl, tT_in (k := 32) (by decide +kernel) rfl, ⟨by decide +kernel, by decide +kernel⟩, by decide +kernel⟩
theorem imX0_isFitted : Cond.instanceMethod yX0_isFitted ∈ tT := tT_in (k := 189) (by decide +kernel) rfl
theorem slX0_isFitted : Cond.selects RX0 yX0_isFitted yX0_isFitted ∈ tT := tT_in (k := 2) (by decide +kernel) rfl
theorem kRX0_17 : cwK (.code yX0_isComplete cX0_isComplete 1 (some .boolean)) RX0 17 yX0_isComplete 0 := ⟨tT_in (k := 194) (by decide +kernel) rfl, tT_in (k := 191) (by decide +kernel) rfl, tT_in (k := 32) (by decide +kernel) rfl, ⟨by decide +kernel, by decide +kernel⟩, by decide +kernel⟩
theorem kRX0_28 : cwK (.code yX0_mean cX0_mean 1 (some .double)) RX0 28 yX0_mean 0 := ⟨tT_in (k := 206) (by decide +kernel) rfl, tT_in (k := 203) (by decide +kernel) rfl, tT_in (k := 32) (by decide +kernel) rfl, ⟨by decide +kernel, by decide +kernel⟩, by decide +kernel⟩
theorem imX0_mean : Cond.instanceMethod yX0_mean ∈ tT := tT_in (k := 205) (by decide +kernel) rfl
theorem slX0_mean : Cond.selects RX0 yX0_mean yX0_mean ∈ tT := tT_in (k := 6) (by decide +kernel) rfl
theorem kRX1_24 : cwK (.code yJ6_bitCount_0f7a4 cJ6_bitCount_0f7a4 1 (some .int)) RX1 24 yJ6_bitCount_0f7a4 1 := ⟨tT_in (k := 235) (by decide +kernel) rfl, tT_in (k := 233) (by decide +kernel) rfl, tT_in (k := 43) (by decide +kernel) rfl, ⟨by decide +kernel, by decide +kernel⟩, by decide +kernel⟩
theorem smJ6_bitCount_0f7a4 : Cond.static yJ6_bitCount_0f7a4 ∈ tT := tT_in (k := 234) (by decide +kernel) rfl
theorem kRX2_23 : cwK (.code yX2_clear cX2_clear 3 none) RX2 23 yX2_clear 0 := ⟨tT_in (k := 186) (by decide +kernel) rfl, tT_in (k := 183) (by decide +kernel) rfl, tT_in (k := 33) (by decide +kernel) rfl, ⟨by decide +kernel, by decide +kernel⟩, by decide +kernel⟩
theorem imX2_clear : Cond.instanceMethod yX2_clear ∈ tT := tT_in (k := 185) (by decide +kernel) rfl
theorem slX2_clear : Cond.selects RX2 yX2_clear yX2_clear ∈ tT := tT_in (k := 1) (by decide +kernel) rfl
theorem kRX2_26 : cwN (.code yX0_isFitted cX0_isFitted 1 (some .boolean)) RX2 26 yX0_isFitted "StrengthRows" 0 := ⟨tT_in (k := 190) (by decide +kernel) rfl, tT_in (k := 187) (by decide +kernel) rfl, tT_in (k := 32) (by decide +kernel) rfl, ⟨by decide +kernel, by decide +kernel⟩, by decide +kernel⟩
theorem kRX2_32 : cwK (.code yX2_add cX2_add 4 none) RX2 32 yX2_add 1 := ⟨tT_in (k := 198) (by decide +kernel) rfl, tT_in (k := 195) (by decide +kernel) rfl, tT_in (k := 33) (by decide +kernel) rfl, ⟨by decide +kernel, by decide +kernel⟩, by decide +kernel⟩
theorem imX2_add : Cond.instanceMethod yX2_add ∈ tT := tT_in (k := 197) (by decide +kernel) rfl
theorem slX2_add : Cond.selects RX2 yX2_add yX2_add ∈ tT := tT_in (k := 4) (by decide +kernel) rfl
theorem kRX2_36 : cwK (.code yX2_eliminate cX2_eliminate 4 (some .int)) RX2 36 yX2_eliminate 0 := ⟨tT_in (k := 211) (by decide +kernel) rfl, tT_in (k := 208) (by decide +kernel) rfl, tT_in (k := 33) (by decide +kernel) rfl, ⟨by decide +kernel, by decide +kernel⟩, by decide +kernel⟩
theorem imX2_eliminate : Cond.instanceMethod yX2_eliminate ∈ tT := tT_in (k := 210) (by decide +kernel) rfl
theorem slX2_eliminate : Cond.selects RX2 yX2_eliminate yX2_eliminate ∈ tT := tT_in (k := 7) (by decide +kernel) rfl
theorem kRX2_40 : cwK (.code yX2_substitute cX2_substitute 5 none) RX2 40 yX2_substitute 0 := ⟨tT_in (k := 224) (by decide +kernel) rfl, tT_in (k := 221) (by decide +kernel) rfl, tT_in (k := 33) (by decide +kernel) rfl, ⟨by decide +kernel, by decide +kernel⟩, by decide +kernel⟩
theorem imX2_substitute : Cond.instanceMethod yX2_substitute ∈ tT := tT_in (k := 223) (by decide +kernel) rfl
theorem slX2_substitute : Cond.selects RX2 yX2_substitute yX2_substitute ∈ tT := tT_in (k := 10) (by decide +kernel) rfl
theorem kRX2_43 : cwN (.code yX0_term cX0_term 2 (some .double)) RX2 43 yX0_term "StrengthRows" 1 := ⟨tT_in (k := 202) (by decide +kernel) rfl, tT_in (k := 199) (by decide +kernel) rfl, tT_in (k := 32) (by decide +kernel) rfl, ⟨by decide +kernel, by decide +kernel⟩, by decide +kernel⟩
theorem imX0_term : Cond.instanceMethod yX0_term ∈ tT := tT_in (k := 201) (by decide +kernel) rfl
theorem slX0_term : Cond.selects RX0 yX0_term yX0_term ∈ tT := tT_in (k := 5) (by decide +kernel) rfl
theorem kRX2_51 : cwK (.code yX2_isPassedOver cX2_isPassedOver 6 (some .boolean)) RX2 51 yX2_isPassedOver 1 := ⟨tT_in (k := 215) (by decide +kernel) rfl, tT_in (k := 212) (by decide +kernel) rfl, tT_in (k := 33) (by decide +kernel) rfl, ⟨by decide +kernel, by decide +kernel⟩, by decide +kernel⟩
theorem imX2_isPassedOver : Cond.instanceMethod yX2_isPassedOver ∈ tT := tT_in (k := 214) (by decide +kernel) rfl
theorem slX2_isPassedOver : Cond.selects RX2 yX2_isPassedOver yX2_isPassedOver ∈ tT := tT_in (k := 8) (by decide +kernel) rfl
theorem kRX2_55 : cwK (.code yX2_lessen cX2_lessen 6 none) RX2 55 yX2_lessen 3 := ⟨tT_in (k := 220) (by decide +kernel) rfl, tT_in (k := 217) (by decide +kernel) rfl, tT_in (k := 33) (by decide +kernel) rfl, ⟨by decide +kernel, by decide +kernel⟩, by decide +kernel⟩
theorem imX2_lessen : Cond.instanceMethod yX2_lessen ∈ tT := tT_in (k := 219) (by decide +kernel) rfl
theorem slX2_lessen : Cond.selects RX2 yX2_lessen yX2_lessen ∈ tT := tT_in (k := 9) (by decide +kernel) rfl
theorem kRX3_26 : cwK (.code yX3_between cX3_between 8 (some .double)) RX3 26 yX3_between 3 := ⟨tT_in (k := 535) (by decide +kernel) rfl, tT_in (k := 532) (by decide +kernel) rfl, tT_in (k := 35) (by decide +kernel) rfl, ⟨by decide +kernel, by decide +kernel⟩, by decide +kernel⟩
theorem imX3_between : Cond.instanceMethod yX3_between ∈ tT := tT_in (k := 534) (by decide +kernel) rfl
theorem slX3_between : Cond.selects RX3 yX3_between yX3_between ∈ tT := tT_in (k := 23) (by decide +kernel) rfl
theorem kRL_7 : cwK (.code yX4_board cX4_board 1 (some .int)) RL 7 yX4_board 0 := ⟨tT_in (k := 249) (by decide +kernel) rfl, tT_in (k := 246) (by decide +kernel) rfl, tT_in (k := 31) (by decide +kernel) rfl, ⟨by decide +kernel, by decide +kernel⟩, by decide +kernel⟩
theorem imX4_board : Cond.instanceMethod yX4_board ∈ tT := tT_in (k := 247) (by decide +kernel) rfl
theorem slX4_board : Cond.selects RX4 yX4_board yX4_board ∈ tT := tT_in (k := 248) (by decide +kernel) rfl
theorem kRL_15 : cwK (.code yX4_row cX4_row 5 (some .int)) RL 15 yX4_row 2 := ⟨tT_in (k := 326) (by decide +kernel) rfl, tT_in (k := 323) (by decide +kernel) rfl, tT_in (k := 31) (by decide +kernel) rfl, ⟨by decide +kernel, by decide +kernel⟩, by decide +kernel⟩
theorem imX4_row : Cond.instanceMethod yX4_row ∈ tT := tT_in (k := 324) (by decide +kernel) rfl
theorem slX4_row : Cond.selects RX4 yX4_row yX4_row ∈ tT := tT_in (k := 325) (by decide +kernel) rfl
theorem kRL_23 : cwK (.code yX4_echo cX4_echo 7 none) RL 23 yX4_echo 3 := ⟨tT_in (k := 376) (by decide +kernel) rfl, tT_in (k := 373) (by decide +kernel) rfl, tT_in (k := 31) (by decide +kernel) rfl, ⟨by decide +kernel, by decide +kernel⟩, by decide +kernel⟩
theorem imX4_echo : Cond.instanceMethod yX4_echo ∈ tT := tT_in (k := 374) (by decide +kernel) rfl
theorem slX4_echo : Cond.selects RX4 yX4_echo yX4_echo ∈ tT := tT_in (k := 375) (by decide +kernel) rfl
theorem kRL_27 : cwK (.code yX4_knots cX4_knots 5 none) RL 27 yX4_knots 2 := ⟨tT_in (k := 383) (by decide +kernel) rfl, tT_in (k := 380) (by decide +kernel) rfl, tT_in (k := 31) (by decide +kernel) rfl, ⟨by decide +kernel, by decide +kernel⟩, by decide +kernel⟩
theorem imX4_knots : Cond.instanceMethod yX4_knots ∈ tT := tT_in (k := 381) (by decide +kernel) rfl
theorem slX4_knots : Cond.selects RX4 yX4_knots yX4_knots ∈ tT := tT_in (k := 382) (by decide +kernel) rfl
theorem kRL_31 : cwK (.code yX4_broken cX4_broken 5 none) RL 31 yX4_broken 2 := ⟨tT_in (k := 390) (by decide +kernel) rfl, tT_in (k := 387) (by decide +kernel) rfl, tT_in (k := 31) (by decide +kernel) rfl, ⟨by decide +kernel, by decide +kernel⟩, by decide +kernel⟩
theorem imX4_broken : Cond.instanceMethod yX4_broken ∈ tT := tT_in (k := 388) (by decide +kernel) rfl
theorem slX4_broken : Cond.selects RX4 yX4_broken yX4_broken ∈ tT := tT_in (k := 389) (by decide +kernel) rfl
theorem kRL_34 : cwK (.code yX4_number cX4_number 2 (some .double)) RL 34 yX4_number 1 := ⟨tT_in (k := 398) (by decide +kernel) rfl, tT_in (k := 395) (by decide +kernel) rfl, tT_in (k := 31) (by decide +kernel) rfl, ⟨by decide +kernel, by decide +kernel⟩, by decide +kernel⟩
theorem imX4_number : Cond.instanceMethod yX4_number ∈ tT := tT_in (k := 396) (by decide +kernel) rfl
theorem slX4_number : Cond.selects RX4 yX4_number yX4_number ∈ tT := tT_in (k := 397) (by decide +kernel) rfl
theorem kRL_38 : cwK (.code yX4_foretold cX4_foretold 2 (some .double)) RL 38 yX4_foretold 1 := ⟨tT_in (k := 406) (by decide +kernel) rfl, tT_in (k := 403) (by decide +kernel) rfl, tT_in (k := 31) (by decide +kernel) rfl, ⟨by decide +kernel, by decide +kernel⟩, by decide +kernel⟩
theorem imX4_foretold : Cond.instanceMethod yX4_foretold ∈ tT := tT_in (k := 404) (by decide +kernel) rfl
theorem slX4_foretold : Cond.selects RX4 yX4_foretold yX4_foretold ∈ tT := tT_in (k := 405) (by decide +kernel) rfl
theorem kRL_41 : cwK (.code yX4_leftOut cX4_leftOut 3 (some .double)) RL 41 yX4_leftOut 1 := ⟨tT_in (k := 423) (by decide +kernel) rfl, tT_in (k := 420) (by decide +kernel) rfl, tT_in (k := 31) (by decide +kernel) rfl, ⟨by decide +kernel, by decide +kernel⟩, by decide +kernel⟩
theorem imX4_leftOut : Cond.instanceMethod yX4_leftOut ∈ tT := tT_in (k := 421) (by decide +kernel) rfl
theorem slX4_leftOut : Cond.selects RX4 yX4_leftOut yX4_leftOut ∈ tT := tT_in (k := 422) (by decide +kernel) rfl
theorem kRL_44 : cwK (.code yX4_limit cX4_limit 4 none) RL 44 yX4_limit 2 := ⟨tT_in (k := 430) (by decide +kernel) rfl, tT_in (k := 427) (by decide +kernel) rfl, tT_in (k := 31) (by decide +kernel) rfl, ⟨by decide +kernel, by decide +kernel⟩, by decide +kernel⟩
theorem imX4_limit : Cond.instanceMethod yX4_limit ∈ tT := tT_in (k := 428) (by decide +kernel) rfl
theorem slX4_limit : Cond.selects RX4 yX4_limit yX4_limit ∈ tT := tT_in (k := 429) (by decide +kernel) rfl
theorem kRL_47 : cwK (.code yX4_setting cX4_setting 5 (some .int)) RL 47 yX4_setting 3 := ⟨tT_in (k := 441) (by decide +kernel) rfl, tT_in (k := 438) (by decide +kernel) rfl, tT_in (k := 31) (by decide +kernel) rfl, ⟨by decide +kernel, by decide +kernel⟩, by decide +kernel⟩
theorem imX4_setting : Cond.instanceMethod yX4_setting ∈ tT := tT_in (k := 439) (by decide +kernel) rfl
theorem slX4_setting : Cond.selects RX4 yX4_setting yX4_setting ∈ tT := tT_in (k := 440) (by decide +kernel) rfl
theorem kRL_51 : cwK (.code yX4_odds cX4_odds 14 (some .long)) RL 51 yX4_odds 5 := ⟨tT_in (k := 461) (by decide +kernel) rfl, tT_in (k := 458) (by decide +kernel) rfl, tT_in (k := 31) (by decide +kernel) rfl, ⟨by decide +kernel, by decide +kernel⟩, by decide +kernel⟩
theorem imX4_odds : Cond.instanceMethod yX4_odds ∈ tT := tT_in (k := 459) (by decide +kernel) rfl
theorem slX4_odds : Cond.selects RX4 yX4_odds yX4_odds ∈ tT := tT_in (k := 460) (by decide +kernel) rfl
theorem kRL_55 : cwK (.code yX4_chart cX4_chart 3 none) RL 55 yX4_chart 2 := ⟨tT_in (k := 478) (by decide +kernel) rfl, tT_in (k := 475) (by decide +kernel) rfl, tT_in (k := 31) (by decide +kernel) rfl, ⟨by decide +kernel, by decide +kernel⟩, by decide +kernel⟩
theorem imX4_chart : Cond.instanceMethod yX4_chart ∈ tT := tT_in (k := 476) (by decide +kernel) rfl
theorem slX4_chart : Cond.selects RX4 yX4_chart yX4_chart ∈ tT := tT_in (k := 477) (by decide +kernel) rfl
theorem kRL_59 : cwK (.code yX4_proof cX4_proof 8 (some .int)) RL 59 yX4_proof 1 := ⟨tT_in (k := 489) (by decide +kernel) rfl, tT_in (k := 486) (by decide +kernel) rfl, tT_in (k := 31) (by decide +kernel) rfl, ⟨by decide +kernel, by decide +kernel⟩, by decide +kernel⟩
theorem imX4_proof : Cond.instanceMethod yX4_proof ∈ tT := tT_in (k := 487) (by decide +kernel) rfl
theorem slX4_proof : Cond.selects RX4 yX4_proof yX4_proof ∈ tT := tT_in (k := 488) (by decide +kernel) rfl
theorem kRL_63 : cwK (.code yX4_about cX4_about 4 (some .int)) RL 63 yX4_about 2 := ⟨tT_in (k := 496) (by decide +kernel) rfl, tT_in (k := 493) (by decide +kernel) rfl, tT_in (k := 31) (by decide +kernel) rfl, ⟨by decide +kernel, by decide +kernel⟩, by decide +kernel⟩
theorem imX4_about : Cond.instanceMethod yX4_about ∈ tT := tT_in (k := 494) (by decide +kernel) rfl
theorem slX4_about : Cond.selects RX4 yX4_about yX4_about ∈ tT := tT_in (k := 495) (by decide +kernel) rfl
theorem kRL_67 : cwK (.code yX4_reference cX4_reference 4 (some .int)) RL 67 yX4_reference 2 := ⟨tT_in (k := 504) (by decide +kernel) rfl, tT_in (k := 501) (by decide +kernel) rfl, tT_in (k := 31) (by decide +kernel) rfl, ⟨by decide +kernel, by decide +kernel⟩, by decide +kernel⟩
theorem imX4_reference : Cond.instanceMethod yX4_reference ∈ tT := tT_in (k := 502) (by decide +kernel) rfl
theorem slX4_reference : Cond.selects RX4 yX4_reference yX4_reference ∈ tT := tT_in (k := 503) (by decide +kernel) rfl
theorem kRL_70 : cwK (.code yX4_drift cX4_drift 2 (some .double)) RL 70 yX4_drift 1 := ⟨tT_in (k := 527) (by decide +kernel) rfl, tT_in (k := 524) (by decide +kernel) rfl, tT_in (k := 31) (by decide +kernel) rfl, ⟨by decide +kernel, by decide +kernel⟩, by decide +kernel⟩
theorem imX4_drift : Cond.instanceMethod yX4_drift ∈ tT := tT_in (k := 525) (by decide +kernel) rfl
theorem slX4_drift : Cond.selects RX4 yX4_drift yX4_drift ∈ tT := tT_in (k := 526) (by decide +kernel) rfl
theorem kRL_73 : cwK (.code yX4_drawn cX4_drawn 4 (some .double)) RL 73 yX4_drawn 1 := ⟨tT_in (k := 542) (by decide +kernel) rfl, tT_in (k := 539) (by decide +kernel) rfl, tT_in (k := 31) (by decide +kernel) rfl, ⟨by decide +kernel, by decide +kernel⟩, by decide +kernel⟩
theorem imX4_drawn : Cond.instanceMethod yX4_drawn ∈ tT := tT_in (k := 540) (by decide +kernel) rfl
theorem slX4_drawn : Cond.selects RX4 yX4_drawn yX4_drawn ∈ tT := tT_in (k := 541) (by decide +kernel) rfl
theorem kRL_76 : cwK (.code yL_cell cL_cell 2 (some .int)) RL 76 yL_cell 2 := ⟨tT_in (k := 241) (by decide +kernel) rfl, tT_in (k := 239) (by decide +kernel) rfl, tT_in (k := 30) (by decide +kernel) rfl, ⟨by decide +kernel, by decide +kernel⟩, by decide +kernel⟩
theorem smL_cell : Cond.static yL_cell ∈ tT := tT_in (k := 240) (by decide +kernel) rfl
theorem kRL_82 : cwK (.code yX4_init cX4_init 3 none) RL 82 yX4_init 1 := ⟨tT_in (k := 48) (by decide +kernel) rfl, tT_in (k := 46) (by decide +kernel) rfl, tT_in (k := 31) (by decide +kernel) rfl, ⟨by decide +kernel, by decide +kernel⟩, by decide +kernel⟩
theorem imX4_init : Cond.instanceMethod yX4_init ∈ tT := tT_in (k := 47) (by decide +kernel) rfl
theorem kRL_87 : cwK (.code yX5_init cX5_init 2 none) RL 87 yX5_init 1 := ⟨tT_in (k := 551) (by decide +kernel) rfl, tT_in (k := 549) (by decide +kernel) rfl, tT_in (k := 36) (by decide +kernel) rfl, ⟨by decide +kernel, by decide +kernel⟩, by decide +kernel⟩
theorem imX5_init : Cond.instanceMethod yX5_init ∈ tT := tT_in (k := 550) (by decide +kernel) rfl
theorem kRL_88 : cwK (.codeWith yL_board cL_board 3 (some .int) [(0, 8, 11, 13)]) RL 88 yL_board 2 := ⟨tT_in (k := 244) (by decide +kernel) rfl, tT_in (k := 242) (by decide +kernel) rfl, tT_in (k := 30) (by decide +kernel) rfl, ⟨by decide +kernel, by decide +kernel⟩, by decide +kernel⟩
theorem smL_board : Cond.static yL_board ∈ tT := tT_in (k := 243) (by decide +kernel) rfl
theorem kRL_91 : cwK (.code yX5_board cX5_board 1 (some .int)) RL 91 yX5_board 0 := ⟨tT_in (k := 635) (by decide +kernel) rfl, tT_in (k := 632) (by decide +kernel) rfl, tT_in (k := 36) (by decide +kernel) rfl, ⟨by decide +kernel, by decide +kernel⟩, by decide +kernel⟩
theorem imX5_board : Cond.instanceMethod yX5_board ∈ tT := tT_in (k := 633) (by decide +kernel) rfl
theorem slX5_board : Cond.selects RX5 yX5_board yX5_board ∈ tT := tT_in (k := 634) (by decide +kernel) rfl
theorem kRL_92 : cwK (.code yX5_thrown cX5_thrown 1 (some .int)) RL 92 yX5_thrown 0 := ⟨tT_in (k := 631) (by decide +kernel) rfl, tT_in (k := 628) (by decide +kernel) rfl, tT_in (k := 36) (by decide +kernel) rfl, ⟨by decide +kernel, by decide +kernel⟩, by decide +kernel⟩
theorem imX5_thrown : Cond.instanceMethod yX5_thrown ∈ tT := tT_in (k := 629) (by decide +kernel) rfl
theorem slX5_thrown : Cond.selects RX5 yX5_thrown yX5_thrown ∈ tT := tT_in (k := 630) (by decide +kernel) rfl
theorem kRL_97 : cwK (.codeWith yL_row cL_row 6 (some .int) [(0, 11, 14, 19), (0, 11, 18, 21), (0, 11, 22, 13)]) RL 97 yL_row 4 := ⟨tT_in (k := 320) (by decide +kernel) rfl, tT_in (k := 318) (by decide +kernel) rfl, tT_in (k := 30) (by decide +kernel) rfl, ⟨by decide +kernel, by decide +kernel⟩, by decide +kernel⟩
theorem smL_row : Cond.static yL_row ∈ tT := tT_in (k := 319) (by decide +kernel) rfl
theorem kRL_100 : cwK (.code yX5_row cX5_row 4 (some .int)) RL 100 yX5_row 2 := ⟨tT_in (k := 639) (by decide +kernel) rfl, tT_in (k := 636) (by decide +kernel) rfl, tT_in (k := 36) (by decide +kernel) rfl, ⟨by decide +kernel, by decide +kernel⟩, by decide +kernel⟩
theorem imX5_row : Cond.instanceMethod yX5_row ∈ tT := tT_in (k := 637) (by decide +kernel) rfl
theorem slX5_row : Cond.selects RX5 yX5_row yX5_row ∈ tT := tT_in (k := 638) (by decide +kernel) rfl
theorem kRL_101 : cwK (.codeWith yL_echo cL_echo 7 (some .int) [(0, 8, 11, 19), (0, 8, 15, 21)]) RL 101 yL_echo 4 := ⟨tT_in (k := 372) (by decide +kernel) rfl, tT_in (k := 370) (by decide +kernel) rfl, tT_in (k := 30) (by decide +kernel) rfl, ⟨by decide +kernel, by decide +kernel⟩, by decide +kernel⟩
theorem smL_echo : Cond.static yL_echo ∈ tT := tT_in (k := 371) (by decide +kernel) rfl
theorem kRL_104 : cwK (.code yX5_echo cX5_echo 6 none) RL 104 yX5_echo 3 := ⟨tT_in (k := 651) (by decide +kernel) rfl, tT_in (k := 648) (by decide +kernel) rfl, tT_in (k := 36) (by decide +kernel) rfl, ⟨by decide +kernel, by decide +kernel⟩, by decide +kernel⟩
theorem imX5_echo : Cond.instanceMethod yX5_echo ∈ tT := tT_in (k := 649) (by decide +kernel) rfl
theorem slX5_echo : Cond.selects RX5 yX5_echo yX5_echo ∈ tT := tT_in (k := 650) (by decide +kernel) rfl
theorem kRL_105 : cwK (.codeWith yL_knots cL_knots 5 (some .int) [(0, 6, 9, 19), (0, 6, 13, 21)]) RL 105 yL_knots 3 := ⟨tT_in (k := 379) (by decide +kernel) rfl, tT_in (k := 377) (by decide +kernel) rfl, tT_in (k := 30) (by decide +kernel) rfl, ⟨by decide +kernel, by decide +kernel⟩, by decide +kernel⟩
theorem smL_knots : Cond.static yL_knots ∈ tT := tT_in (k := 378) (by decide +kernel) rfl
theorem kRL_108 : cwK (.code yX5_knots cX5_knots 4 none) RL 108 yX5_knots 2 := ⟨tT_in (k := 657) (by decide +kernel) rfl, tT_in (k := 654) (by decide +kernel) rfl, tT_in (k := 36) (by decide +kernel) rfl, ⟨by decide +kernel, by decide +kernel⟩, by decide +kernel⟩
theorem imX5_knots : Cond.instanceMethod yX5_knots ∈ tT := tT_in (k := 655) (by decide +kernel) rfl
theorem slX5_knots : Cond.selects RX5 yX5_knots yX5_knots ∈ tT := tT_in (k := 656) (by decide +kernel) rfl
theorem kRL_109 : cwK (.codeWith yL_broken cL_broken 5 (some .int) [(0, 6, 9, 19), (0, 6, 13, 21), (0, 6, 17, 13)]) RL 109 yL_broken 3 := ⟨tT_in (k := 386) (by decide +kernel) rfl, tT_in (k := 384) (by decide +kernel) rfl, tT_in (k := 30) (by decide +kernel) rfl, ⟨by decide +kernel, by decide +kernel⟩, by decide +kernel⟩
theorem smL_broken : Cond.static yL_broken ∈ tT := tT_in (k := 385) (by decide +kernel) rfl
theorem kRL_111 : cwK (.code yX5_broken cX5_broken 4 none) RL 111 yX5_broken 2 := ⟨tT_in (k := 661) (by decide +kernel) rfl, tT_in (k := 658) (by decide +kernel) rfl, tT_in (k := 36) (by decide +kernel) rfl, ⟨by decide +kernel, by decide +kernel⟩, by decide +kernel⟩
theorem imX5_broken : Cond.instanceMethod yX5_broken ∈ tT := tT_in (k := 659) (by decide +kernel) rfl
theorem slX5_broken : Cond.selects RX5 yX5_broken yX5_broken ∈ tT := tT_in (k := 660) (by decide +kernel) rfl
theorem kRL_112 : cwK (.code yX4_fit cX4_fit 1 (some .int)) RL 112 yX4_fit 0 := ⟨tT_in (k := 178) (by decide +kernel) rfl, tT_in (k := 175) (by decide +kernel) rfl, tT_in (k := 31) (by decide +kernel) rfl, ⟨by decide +kernel, by decide +kernel⟩, by decide +kernel⟩
theorem imX4_fit : Cond.instanceMethod yX4_fit ∈ tT := tT_in (k := 176) (by decide +kernel) rfl
theorem slX4_fit : Cond.selects RX4 yX4_fit yX4_fit ∈ tT := tT_in (k := 177) (by decide +kernel) rfl
theorem kRL_115 : cwK (.code yX5_fit cX5_fit 3 (some .int)) RL 115 yX5_fit 0 := ⟨tT_in (k := 665) (by decide +kernel) rfl, tT_in (k := 662) (by decide +kernel) rfl, tT_in (k := 36) (by decide +kernel) rfl, ⟨by decide +kernel, by decide +kernel⟩, by decide +kernel⟩
theorem imX5_fit : Cond.instanceMethod yX5_fit ∈ tT := tT_in (k := 663) (by decide +kernel) rfl
theorem slX5_fit : Cond.selects RX5 yX5_fit yX5_fit ∈ tT := tT_in (k := 664) (by decide +kernel) rfl
theorem kRL_116 : cwK (.codeWith yL_number cL_number 4 (some .int) [(0, 8, 11, 19)]) RL 116 yL_number 3 := ⟨tT_in (k := 394) (by decide +kernel) rfl, tT_in (k := 392) (by decide +kernel) rfl, tT_in (k := 30) (by decide +kernel) rfl, ⟨by decide +kernel, by decide +kernel⟩, by decide +kernel⟩
theorem smL_number : Cond.static yL_number ∈ tT := tT_in (k := 393) (by decide +kernel) rfl
theorem kRL_119 : cwK (.code yX5_number cX5_number 2 (some .double)) RL 119 yX5_number 1 := ⟨tT_in (k := 687) (by decide +kernel) rfl, tT_in (k := 684) (by decide +kernel) rfl, tT_in (k := 36) (by decide +kernel) rfl, ⟨by decide +kernel, by decide +kernel⟩, by decide +kernel⟩
theorem imX5_number : Cond.instanceMethod yX5_number ∈ tT := tT_in (k := 685) (by decide +kernel) rfl
theorem slX5_number : Cond.selects RX5 yX5_number yX5_number ∈ tT := tT_in (k := 686) (by decide +kernel) rfl
theorem kRL_120 : cwK (.codeWith yL_foretold cL_foretold 4 (some .int) [(0, 8, 11, 19), (0, 8, 14, 13)]) RL 120 yL_foretold 3 := ⟨tT_in (k := 402) (by decide +kernel) rfl, tT_in (k := 400) (by decide +kernel) rfl, tT_in (k := 30) (by decide +kernel) rfl, ⟨by decide +kernel, by decide +kernel⟩, by decide +kernel⟩
theorem smL_foretold : Cond.static yL_foretold ∈ tT := tT_in (k := 401) (by decide +kernel) rfl
theorem kRL_122 : cwK (.code yX5_foretold cX5_foretold 2 (some .double)) RL 122 yX5_foretold 1 := ⟨tT_in (k := 691) (by decide +kernel) rfl, tT_in (k := 688) (by decide +kernel) rfl, tT_in (k := 36) (by decide +kernel) rfl, ⟨by decide +kernel, by decide +kernel⟩, by decide +kernel⟩
theorem imX5_foretold : Cond.instanceMethod yX5_foretold ∈ tT := tT_in (k := 689) (by decide +kernel) rfl
theorem slX5_foretold : Cond.selects RX5 yX5_foretold yX5_foretold ∈ tT := tT_in (k := 690) (by decide +kernel) rfl
theorem kRL_123 : cwK (.codeWith yL_leftOut cL_leftOut 4 (some .int) [(0, 8, 11, 19), (0, 8, 14, 13)]) RL 123 yL_leftOut 3 := ⟨tT_in (k := 419) (by decide +kernel) rfl, tT_in (k := 417) (by decide +kernel) rfl, tT_in (k := 30) (by decide +kernel) rfl, ⟨by decide +kernel, by decide +kernel⟩, by decide +kernel⟩
theorem smL_leftOut : Cond.static yL_leftOut ∈ tT := tT_in (k := 418) (by decide +kernel) rfl
theorem kRL_125 : cwK (.code yX5_leftOut cX5_leftOut 3 (some .double)) RL 125 yX5_leftOut 1 := ⟨tT_in (k := 699) (by decide +kernel) rfl, tT_in (k := 696) (by decide +kernel) rfl, tT_in (k := 36) (by decide +kernel) rfl, ⟨by decide +kernel, by decide +kernel⟩, by decide +kernel⟩
theorem imX5_leftOut : Cond.instanceMethod yX5_leftOut ∈ tT := tT_in (k := 697) (by decide +kernel) rfl
theorem slX5_leftOut : Cond.selects RX5 yX5_leftOut yX5_leftOut ∈ tT := tT_in (k := 698) (by decide +kernel) rfl
theorem kRL_126 : cwK (.codeWith yL_limit cL_limit 5 (some .int) [(0, 6, 9, 19), (0, 6, 13, 21)]) RL 126 yL_limit 3 := ⟨tT_in (k := 426) (by decide +kernel) rfl, tT_in (k := 424) (by decide +kernel) rfl, tT_in (k := 30) (by decide +kernel) rfl, ⟨by decide +kernel, by decide +kernel⟩, by decide +kernel⟩
theorem smL_limit : Cond.static yL_limit ∈ tT := tT_in (k := 425) (by decide +kernel) rfl
theorem kRL_128 : cwK (.code yX5_limit cX5_limit 4 none) RL 128 yX5_limit 2 := ⟨tT_in (k := 703) (by decide +kernel) rfl, tT_in (k := 700) (by decide +kernel) rfl, tT_in (k := 36) (by decide +kernel) rfl, ⟨by decide +kernel, by decide +kernel⟩, by decide +kernel⟩
theorem imX5_limit : Cond.instanceMethod yX5_limit ∈ tT := tT_in (k := 701) (by decide +kernel) rfl
theorem slX5_limit : Cond.selects RX5 yX5_limit yX5_limit ∈ tT := tT_in (k := 702) (by decide +kernel) rfl
theorem kRL_129 : cwK (.codeWith yL_setting cL_setting 6 (some .int) [(0, 12, 15, 19), (0, 12, 19, 21)]) RL 129 yL_setting 5 := ⟨tT_in (k := 437) (by decide +kernel) rfl, tT_in (k := 435) (by decide +kernel) rfl, tT_in (k := 30) (by decide +kernel) rfl, ⟨by decide +kernel, by decide +kernel⟩, by decide +kernel⟩
theorem smL_setting : Cond.static yL_setting ∈ tT := tT_in (k := 436) (by decide +kernel) rfl
theorem kRL_132 : cwK (.code yX5_setting cX5_setting 9 (some .int)) RL 132 yX5_setting 3 := ⟨tT_in (k := 707) (by decide +kernel) rfl, tT_in (k := 704) (by decide +kernel) rfl, tT_in (k := 36) (by decide +kernel) rfl, ⟨by decide +kernel, by decide +kernel⟩, by decide +kernel⟩
theorem imX5_setting : Cond.instanceMethod yX5_setting ∈ tT := tT_in (k := 705) (by decide +kernel) rfl
theorem slX5_setting : Cond.selects RX5 yX5_setting yX5_setting ∈ tT := tT_in (k := 706) (by decide +kernel) rfl
theorem kRL_133 : cwK (.codeWith yL_odds cL_odds 8 (some .int) [(0, 15, 18, 19), (0, 15, 22, 21)]) RL 133 yL_odds 7 := ⟨tT_in (k := 457) (by decide +kernel) rfl, tT_in (k := 455) (by decide +kernel) rfl, tT_in (k := 30) (by decide +kernel) rfl, ⟨by decide +kernel, by decide +kernel⟩, by decide +kernel⟩
theorem smL_odds : Cond.static yL_odds ∈ tT := tT_in (k := 456) (by decide +kernel) rfl
theorem kRL_136 : cwK (.code yX5_odds cX5_odds 17 (some .long)) RL 136 yX5_odds 5 := ⟨tT_in (k := 712) (by decide +kernel) rfl, tT_in (k := 709) (by decide +kernel) rfl, tT_in (k := 36) (by decide +kernel) rfl, ⟨by decide +kernel, by decide +kernel⟩, by decide +kernel⟩
theorem imX5_odds : Cond.instanceMethod yX5_odds ∈ tT := tT_in (k := 710) (by decide +kernel) rfl
theorem slX5_odds : Cond.selects RX5 yX5_odds yX5_odds ∈ tT := tT_in (k := 711) (by decide +kernel) rfl
theorem kRL_137 : cwK (.codeWith yL_chart cL_chart 4 (some .int) [(0, 6, 9, 21)]) RL 137 yL_chart 3 := ⟨tT_in (k := 474) (by decide +kernel) rfl, tT_in (k := 472) (by decide +kernel) rfl, tT_in (k := 30) (by decide +kernel) rfl, ⟨by decide +kernel, by decide +kernel⟩, by decide +kernel⟩
theorem smL_chart : Cond.static yL_chart ∈ tT := tT_in (k := 473) (by decide +kernel) rfl
theorem kRL_140 : cwK (.code yX5_chart cX5_chart 3 none) RL 140 yX5_chart 2 := ⟨tT_in (k := 719) (by decide +kernel) rfl, tT_in (k := 716) (by decide +kernel) rfl, tT_in (k := 36) (by decide +kernel) rfl, ⟨by decide +kernel, by decide +kernel⟩, by decide +kernel⟩
theorem imX5_chart : Cond.instanceMethod yX5_chart ∈ tT := tT_in (k := 717) (by decide +kernel) rfl
theorem slX5_chart : Cond.selects RX5 yX5_chart yX5_chart ∈ tT := tT_in (k := 718) (by decide +kernel) rfl
theorem kRL_141 : cwK (.code yX4_test cX4_test 2 (some .boolean)) RL 141 yX4_test 1 := ⟨tT_in (k := 228) (by decide +kernel) rfl, tT_in (k := 225) (by decide +kernel) rfl, tT_in (k := 31) (by decide +kernel) rfl, ⟨by decide +kernel, by decide +kernel⟩, by decide +kernel⟩
theorem imX4_test : Cond.instanceMethod yX4_test ∈ tT := tT_in (k := 226) (by decide +kernel) rfl
theorem slX4_test : Cond.selects RX4 yX4_test yX4_test ∈ tT := tT_in (k := 227) (by decide +kernel) rfl
theorem kRL_145 : cwK (.code yX5_test cX5_test 4 (some .boolean)) RL 145 yX5_test 1 := ⟨tT_in (k := 723) (by decide +kernel) rfl, tT_in (k := 720) (by decide +kernel) rfl, tT_in (k := 36) (by decide +kernel) rfl, ⟨by decide +kernel, by decide +kernel⟩, by decide +kernel⟩
theorem imX5_test : Cond.instanceMethod yX5_test ∈ tT := tT_in (k := 721) (by decide +kernel) rfl
theorem slX5_test : Cond.selects RX5 yX5_test yX5_test ∈ tT := tT_in (k := 722) (by decide +kernel) rfl
theorem kRL_146 : cwK (.codeWith yL_proof cL_proof 5 (some .int) [(0, 9, 12, 21)]) RL 146 yL_proof 3 := ⟨tT_in (k := 485) (by decide +kernel) rfl, tT_in (k := 483) (by decide +kernel) rfl, tT_in (k := 30) (by decide +kernel) rfl, ⟨by decide +kernel, by decide +kernel⟩, by decide +kernel⟩
theorem smL_proof : Cond.static yL_proof ∈ tT := tT_in (k := 484) (by decide +kernel) rfl
theorem kRL_149 : cwK (.code yX5_proof cX5_proof 5 (some .int)) RL 149 yX5_proof 1 := ⟨tT_in (k := 727) (by decide +kernel) rfl, tT_in (k := 724) (by decide +kernel) rfl, tT_in (k := 36) (by decide +kernel) rfl, ⟨by decide +kernel, by decide +kernel⟩, by decide +kernel⟩
theorem imX5_proof : Cond.instanceMethod yX5_proof ∈ tT := tT_in (k := 725) (by decide +kernel) rfl
theorem slX5_proof : Cond.selects RX5 yX5_proof yX5_proof ∈ tT := tT_in (k := 726) (by decide +kernel) rfl
theorem kRL_150 : cwK (.codeWith yL_about cL_about 5 (some .int) [(0, 10, 13, 19)]) RL 150 yL_about 4 := ⟨tT_in (k := 492) (by decide +kernel) rfl, tT_in (k := 490) (by decide +kernel) rfl, tT_in (k := 30) (by decide +kernel) rfl, ⟨by decide +kernel, by decide +kernel⟩, by decide +kernel⟩
theorem smL_about : Cond.static yL_about ∈ tT := tT_in (k := 491) (by decide +kernel) rfl
theorem kRL_153 : cwK (.code yX5_about cX5_about 3 (some .int)) RL 153 yX5_about 2 := ⟨tT_in (k := 731) (by decide +kernel) rfl, tT_in (k := 728) (by decide +kernel) rfl, tT_in (k := 36) (by decide +kernel) rfl, ⟨by decide +kernel, by decide +kernel⟩, by decide +kernel⟩
theorem imX5_about : Cond.instanceMethod yX5_about ∈ tT := tT_in (k := 729) (by decide +kernel) rfl
theorem slX5_about : Cond.selects RX5 yX5_about yX5_about ∈ tT := tT_in (k := 730) (by decide +kernel) rfl
theorem kRL_154 : cwK (.codeWith yL_reference cL_reference 6 (some .int) [(0, 11, 14, 21), (0, 11, 18, 13)]) RL 154 yL_reference 4 := ⟨tT_in (k := 500) (by decide +kernel) rfl, tT_in (k := 498) (by decide +kernel) rfl, tT_in (k := 30) (by decide +kernel) rfl, ⟨by decide +kernel, by decide +kernel⟩, by decide +kernel⟩
theorem smL_reference : Cond.static yL_reference ∈ tT := tT_in (k := 499) (by decide +kernel) rfl
theorem kRL_156 : cwK (.code yX5_reference cX5_reference 5 (some .int)) RL 156 yX5_reference 2 := ⟨tT_in (k := 735) (by decide +kernel) rfl, tT_in (k := 732) (by decide +kernel) rfl, tT_in (k := 36) (by decide +kernel) rfl, ⟨by decide +kernel, by decide +kernel⟩, by decide +kernel⟩
theorem imX5_reference : Cond.instanceMethod yX5_reference ∈ tT := tT_in (k := 733) (by decide +kernel) rfl
theorem slX5_reference : Cond.selects RX5 yX5_reference yX5_reference ∈ tT := tT_in (k := 734) (by decide +kernel) rfl
theorem kRL_157 : cwK (.codeWith yL_drift cL_drift 4 (some .int) [(0, 8, 11, 21)]) RL 157 yL_drift 3 := ⟨tT_in (k := 523) (by decide +kernel) rfl, tT_in (k := 521) (by decide +kernel) rfl, tT_in (k := 30) (by decide +kernel) rfl, ⟨by decide +kernel, by decide +kernel⟩, by decide +kernel⟩
theorem smL_drift : Cond.static yL_drift ∈ tT := tT_in (k := 522) (by decide +kernel) rfl
theorem kRL_159 : cwK (.code yX5_drift cX5_drift 3 (some .double)) RL 159 yX5_drift 1 := ⟨tT_in (k := 740) (by decide +kernel) rfl, tT_in (k := 737) (by decide +kernel) rfl, tT_in (k := 36) (by decide +kernel) rfl, ⟨by decide +kernel, by decide +kernel⟩, by decide +kernel⟩
theorem imX5_drift : Cond.instanceMethod yX5_drift ∈ tT := tT_in (k := 738) (by decide +kernel) rfl
theorem slX5_drift : Cond.selects RX5 yX5_drift yX5_drift ∈ tT := tT_in (k := 739) (by decide +kernel) rfl
theorem kRL_160 : cwK (.codeWith yL_drawn cL_drawn 4 (some .int) [(0, 8, 11, 21)]) RL 160 yL_drawn 3 := ⟨tT_in (k := 538) (by decide +kernel) rfl, tT_in (k := 536) (by decide +kernel) rfl, tT_in (k := 30) (by decide +kernel) rfl, ⟨by decide +kernel, by decide +kernel⟩, by decide +kernel⟩
theorem smL_drawn : Cond.static yL_drawn ∈ tT := tT_in (k := 537) (by decide +kernel) rfl
theorem kRL_162 : cwK (.code yX5_drawn cX5_drawn 4 (some .double)) RL 162 yX5_drawn 1 := ⟨tT_in (k := 744) (by decide +kernel) rfl, tT_in (k := 741) (by decide +kernel) rfl, tT_in (k := 36) (by decide +kernel) rfl, ⟨by decide +kernel, by decide +kernel⟩, by decide +kernel⟩
theorem imX5_drawn : Cond.instanceMethod yX5_drawn ∈ tT := tT_in (k := 742) (by decide +kernel) rfl
theorem slX5_drawn : Cond.selects RX5 yX5_drawn yX5_drawn ∈ tT := tT_in (k := 743) (by decide +kernel) rfl
theorem kRX5_79 : cwK (.code yX5_noBoard cX5_noBoard 2 (some .boolean)) RX5 79 yX5_noBoard 1 := ⟨tT_in (k := 643) (by decide +kernel) rfl, tT_in (k := 640) (by decide +kernel) rfl, tT_in (k := 36) (by decide +kernel) rfl, ⟨by decide +kernel, by decide +kernel⟩, by decide +kernel⟩
theorem imX5_noBoard : Cond.instanceMethod yX5_noBoard ∈ tT := tT_in (k := 642) (by decide +kernel) rfl
theorem slX5_noBoard : Cond.selects RX5 yX5_noBoard yX5_noBoard ∈ tT := tT_in (k := 24) (by decide +kernel) rfl
theorem kRX5_85 : cwK (.code yX5_between cX5_between 6 (some .boolean)) RX5 85 yX5_between 3 := ⟨tT_in (k := 647) (by decide +kernel) rfl, tT_in (k := 645) (by decide +kernel) rfl, tT_in (k := 36) (by decide +kernel) rfl, ⟨by decide +kernel, by decide +kernel⟩, by decide +kernel⟩
theorem smX5_between : Cond.static yX5_between ∈ tT := tT_in (k := 646) (by decide +kernel) rfl
theorem kRX5_95 : cwK (.code yX5_x cX5_x 6 (some .double)) RX5 95 yX5_x 2 := ⟨tT_in (k := 681) (by decide +kernel) rfl, tT_in (k := 678) (by decide +kernel) rfl, tT_in (k := 36) (by decide +kernel) rfl, ⟨by decide +kernel, by decide +kernel⟩, by decide +kernel⟩
theorem imX5_x : Cond.instanceMethod yX5_x ∈ tT := tT_in (k := 680) (by decide +kernel) rfl
theorem slX5_x : Cond.selects RX5 yX5_x yX5_x ∈ tT := tT_in (k := 28) (by decide +kernel) rfl
theorem kRX5_99 : cwK (.code yX5_isComplete cX5_isComplete 2 (some .boolean)) RX5 99 yX5_isComplete 1 := ⟨tT_in (k := 673) (by decide +kernel) rfl, tT_in (k := 670) (by decide +kernel) rfl, tT_in (k := 36) (by decide +kernel) rfl, ⟨by decide +kernel, by decide +kernel⟩, by decide +kernel⟩
theorem imX5_isComplete : Cond.instanceMethod yX5_isComplete ∈ tT := tT_in (k := 672) (by decide +kernel) rfl
theorem slX5_isComplete : Cond.selects RX5 yX5_isComplete yX5_isComplete ∈ tT := tT_in (k := 26) (by decide +kernel) rfl
theorem kRX5_102 : cwK (.code yX5_add cX5_add 4 none) RX5 102 yX5_add 1 := ⟨tT_in (k := 677) (by decide +kernel) rfl, tT_in (k := 674) (by decide +kernel) rfl, tT_in (k := 36) (by decide +kernel) rfl, ⟨by decide +kernel, by decide +kernel⟩, by decide +kernel⟩
theorem imX5_add : Cond.instanceMethod yX5_add ∈ tT := tT_in (k := 676) (by decide +kernel) rfl
theorem slX5_add : Cond.selects RX5 yX5_add yX5_add ∈ tT := tT_in (k := 27) (by decide +kernel) rfl
theorem kRX5_108 : cwK (.code yX5_solve cX5_solve 10 (some .int)) RX5 108 yX5_solve 1 := ⟨tT_in (k := 669) (by decide +kernel) rfl, tT_in (k := 666) (by decide +kernel) rfl, tT_in (k := 36) (by decide +kernel) rfl, ⟨by decide +kernel, by decide +kernel⟩, by decide +kernel⟩
theorem imX5_solve : Cond.instanceMethod yX5_solve ∈ tT := tT_in (k := 668) (by decide +kernel) rfl
theorem slX5_solve : Cond.selects RX5 yX5_solve yX5_solve ∈ tT := tT_in (k := 25) (by decide +kernel) rfl
theorem kRX5_112 : cwK (.code yX5_told cX5_told 8 (some .double)) RX5 112 yX5_told 4 := ⟨tT_in (k := 695) (by decide +kernel) rfl, tT_in (k := 692) (by decide +kernel) rfl, tT_in (k := 36) (by decide +kernel) rfl, ⟨by decide +kernel, by decide +kernel⟩, by decide +kernel⟩
theorem imX5_told : Cond.instanceMethod yX5_told ∈ tT := tT_in (k := 694) (by decide +kernel) rfl
theorem slX5_told : Cond.selects RX5 yX5_told yX5_told ∈ tT := tT_in (k := 29) (by decide +kernel) rfl
theorem kRX5_118 : cwK (.code yX5_power cX5_power 6 (some .long)) RX5 118 yX5_power 2 := ⟨tT_in (k := 715) (by decide +kernel) rfl, tT_in (k := 713) (by decide +kernel) rfl, tT_in (k := 36) (by decide +kernel) rfl, ⟨by decide +kernel, by decide +kernel⟩, by decide +kernel⟩
theorem smX5_power : Cond.static yX5_power ∈ tT := tT_in (k := 714) (by decide +kernel) rfl
abbrev xISE : String := "java/lang/IllegalStateException"
theorem tx_ISE : ∀ w ∈ Cond.classLink RX4 53 xISE :: Cond.initialized xISE :: vx_atS RX4 57 xISE ["java/lang/RuntimeException", "java/lang/Exception"], w ∈ tT := by decide +kernel
theorem tg_ISE : ∀ w ∈ Cond.classLink RX4 53 xISE :: Cond.initialized xISE :: vx_atS RX4 57 xISE ["java/lang/RuntimeException", "java/lang/Exception"], vx_ot w = true := by decide +kernel
abbrev xIOOBE : String := "java/lang/IndexOutOfBoundsException"
theorem tx_IOOBE : ∀ w ∈ Cond.classLink RX4 103 xIOOBE :: Cond.initialized xIOOBE :: vx_atS RX4 107 xIOOBE ["java/lang/RuntimeException", "java/lang/Exception"], w ∈ tT := by decide +kernel
theorem tg_IOOBE : ∀ w ∈ Cond.classLink RX4 103 xIOOBE :: Cond.initialized xIOOBE :: vx_atS RX4 107 xIOOBE ["java/lang/RuntimeException", "java/lang/Exception"], vx_ot w = true := by decide +kernel
abbrev xIAE : String := "java/lang/IllegalArgumentException"
theorem tx_IAE : ∀ w ∈ Cond.classLink RX4 197 xIAE :: Cond.initialized xIAE :: vx_atS RX4 201 xIAE ["java/lang/RuntimeException", "java/lang/Exception"], w ∈ tT := by decide +kernel
theorem tg_IAE : ∀ w ∈ Cond.classLink RX4 197 xIAE :: Cond.initialized xIAE :: vx_atS RX4 201 xIAE ["java/lang/RuntimeException", "java/lang/Exception"], vx_ot w = true := by decide +kernel
end
section
/-! a board: is it complete, is it fitted, its mean, its terms -/
def bCompl (I : Im) (G : Dm) (c : Nat) : Bool := decide (¬ I c 0 < 1) && decide (¬ Op.cmpValue (FP.dcmp (G c 2) 0) CmpOp.l ≤ 0)
def bFit (I : Im) (G : Dm) (c : Nat) : Bool := bCompl I G c && decide (¬ I c 5 = 0)
def dMean (I : Im) (G : Dm) (c : Nat) : UInt64 := if I c 0 ≤ 0 then 0 else Dv (G c 1) (FP.i2d (I c 0))
def dTerm (I : Im) (G : Dm) (c i : Nat) : UInt64 := if i = 0 then 4607182418800017408 else if i = 1 then Dv (Ad (dMean I G c) (G c 2)) 4611686018427387904 else Sb 4607182418800017408 (G c 3)
set_option maxHeartbeats 4000000 in
set_option maxRecDepth 100000 in
theorem k_X0_isComplete {l : Launch} {D : va_G} {cy ad : Nat → Nat} {I : Im} {G : Dm} {J : Jm} (hadI : adI ad) {c : Nat} (hc : 2 ≤ c ∧ c < 34) : kM l yX0_isComplete (.code yX0_isComplete cX0_isComplete 1 (some .boolean)) (rmK 0 0 0 0) D cy ad [.ref (ad c)] I G J (qI D cy ad (zB (bCompl I G c)) I G J) := by
  refine start_M hadI (by decide +kernel) (Nat.le_of_ble_eq_true rfl) ?_
  intro p e s m below meth cd am hx hb hr hlk hst ls hl
  have hl : lv_has ls 1 [(0, .ref (ad c))] := hl
  refine lv_aload_n hx hb dX0_isComplete_0 rfl (lv_at hl 0 rfl) ?_
  refine w_getI am hst (k := 0) (by omega) (fun _ _ _ => cE_B hc) rfl inT0 (by decide) (fun _ _ _ => rfl) fRX0_7 dX0_isComplete_1 ?_
  refine lv_iconst (v := 1) hx hb dX0_isComplete_4 (by decide) ?_
  refine lv_icmp_lt (tgt := 21) hx hb dX0_isComplete_5 (by decide) (fun c_5 => ?_) (fun c_5 => ?_)
  · skip
    refine lv_iconst (v := 0) hx hb dX0_isComplete_21 (by decide) ?_
    exact e_i hx hb hr hlk hst rfl (by simp only [bCompl, zB, c_5, not_true_eq_false, not_false_eq_true, decide_true, decide_false, Bool.true_and, Bool.false_and, Bool.and_true, Bool.and_false, Bool.and_self, if_true, if_false, ite_true, ite_false, reduceIte, Bool.false_eq_true]) dX0_isComplete_22
  · skip
    refine lv_aload_n hx hb dX0_isComplete_8 rfl (lv_at hl 0 rfl) ?_
    refine w_getD am hst (k := 2) (by omega) (fun _ _ _ => cE_B hc) rfl inT0 (by decide) (fun _ _ _ => rfl) fRX0_13 dX0_isComplete_9 (fun x1 hx1 => ?_)
    refine lv_dconst0 hx hb dX0_isComplete_12 ?_
    refine w_dcmp hx hb hx1 cn_k0 dX0_isComplete_13 ?_
    refine lv_if_le (tgt := 21) hx hb dX0_isComplete_14 (by decide) (fun c_14 => ?_) (fun c_14 => ?_)
    · skip
      refine lv_iconst (v := 0) hx hb dX0_isComplete_21 (by decide) ?_
      exact e_i hx hb hr hlk hst rfl (by simp only [bCompl, zB, c_5, c_14, not_true_eq_false, not_false_eq_true, decide_true, decide_false, Bool.true_and, Bool.false_and, Bool.and_true, Bool.and_false, Bool.and_self, if_true, if_false, ite_true, ite_false, reduceIte, Bool.false_eq_true]) dX0_isComplete_22
    · skip
      refine lv_iconst (v := 1) hx hb dX0_isComplete_17 (by decide) ?_
      refine lv_goto (tgt := 22) hx hb dX0_isComplete_18 (by decide) ?_
      exact e_i hx hb hr hlk hst rfl (by simp only [bCompl, zB, c_5, c_14, not_true_eq_false, not_false_eq_true, decide_true, decide_false, Bool.true_and, Bool.false_and, Bool.and_true, Bool.and_false, Bool.and_self, if_true, if_false, ite_true, ite_false, reduceIte, Bool.false_eq_true]) dX0_isComplete_22

set_option maxHeartbeats 4000000 in
set_option maxRecDepth 100000 in
theorem k_X0_isFitted {l : Launch} {D : va_G} {cy ad : Nat → Nat} {I : Im} {G : Dm} {J : Jm} (hadI : adI ad) {c : Nat} (hc : 2 ≤ c ∧ c < 34) : kM l yX0_isFitted (.code yX0_isFitted cX0_isFitted 1 (some .boolean)) (rmK 1 0 0 20) D cy ad [.ref (ad c)] I G J (qI D cy ad (zB (bFit I G c)) I G J) := by
  refine start_M hadI (by decide +kernel) (Nat.le_of_ble_eq_true rfl) ?_
  intro p e s m below meth cd am hx hb hr hlk hst ls hl
  have hl : lv_has ls 1 [(0, .ref (ad c))] := hl
  refine lv_aload_n hx hb dX0_isFitted_0 rfl (lv_at hl 0 rfl) ?_
  refine c_i hst (r_V (As := []) (rest := []) am hst hl (k_X0_isComplete hadI hc) kRX0_17 imX0_isComplete slX0_isComplete ⟨Nat.le_of_ble_eq_true rfl, Nat.le_of_ble_eq_true rfl⟩ (by omega) (fun _ _ _ => cE_B hc) rfl rfl rfl (Nat.le_of_ble_eq_true rfl) dX0_isFitted_1 ⟨Nat.le_of_ble_eq_true rfl, Nat.le_of_ble_eq_true rfl⟩) (fun H locs hst => ?_)
  refine lv_if_eq (tgt := 18) hx hb dX0_isFitted_4 (by decide) (fun c_4 => ?_) (fun c_4 => ?_)
  · skip
    refine lv_iconst (v := 0) hx hb dX0_isFitted_18 (by decide) ?_
    exact e_i hx hb hr hlk hst rfl (by rw [zB_0] at c_4; simp only [bFit, zB, c_4, not_true_eq_false, not_false_eq_true, decide_true, decide_false, Bool.true_and, Bool.false_and, Bool.and_true, Bool.and_false, Bool.and_self, if_true, if_false, ite_true, ite_false, reduceIte, Bool.false_eq_true]) dX0_isFitted_19
  · skip
    refine lv_aload_n hx hb dX0_isFitted_7 rfl (lv_at hl 0 rfl) ?_
    refine w_getI am hst (k := 5) (by omega) (fun _ _ _ => cE_B hc) rfl inT0 (by decide) (fun _ _ _ => rfl) fRX0_21 dX0_isFitted_8 ?_
    refine lv_if_eq (tgt := 18) hx hb dX0_isFitted_11 (by decide) (fun c_11 => ?_) (fun c_11 => ?_)
    · skip
      refine lv_iconst (v := 0) hx hb dX0_isFitted_18 (by decide) ?_
      exact e_i hx hb hr hlk hst rfl (by rw [zB_n0] at c_4; simp only [bFit, zB, c_4, c_11, not_true_eq_false, not_false_eq_true, decide_true, decide_false, Bool.true_and, Bool.false_and, Bool.and_true, Bool.and_false, Bool.and_self, if_true, if_false, ite_true, ite_false, reduceIte, Bool.false_eq_true]) dX0_isFitted_19
    · skip
      refine lv_iconst (v := 1) hx hb dX0_isFitted_14 (by decide) ?_
      refine lv_goto (tgt := 19) hx hb dX0_isFitted_15 (by decide) ?_
      exact e_i hx hb hr hlk hst rfl (by rw [zB_n0] at c_4; simp only [bFit, zB, c_4, c_11, not_true_eq_false, not_false_eq_true, decide_true, decide_false, Bool.true_and, Bool.false_and, Bool.and_true, Bool.and_false, Bool.and_self, if_true, if_false, ite_true, ite_false, reduceIte, Bool.false_eq_true]) dX0_isFitted_19

set_option maxHeartbeats 4000000 in
set_option maxRecDepth 100000 in
theorem k_X0_mean {l : Launch} {D : va_G} {cy ad : Nat → Nat} {I : Im} {G : Dm} {J : Jm} (hadI : adI ad) {c : Nat} (hc : 2 ≤ c ∧ c < 34) : kD l yX0_mean (.code yX0_mean cX0_mean 1 (some .double)) (rmK 0 0 0 0) D cy ad [.ref (ad c)] I G J (qD D cy ad (dMean I G c) I G J) := by
  refine start_D hadI (by decide +kernel) (Nat.le_of_ble_eq_true rfl) ?_
  intro p e s m below meth cd am hx hb hr hlk hst ls hl d0 hd
  have hl : lv_has ls 1 [(0, .ref (ad c))] := hl
  refine lv_aload_n hx hb dX0_mean_0 rfl (lv_at hl 0 rfl) ?_
  refine w_getI am hst (k := 0) (by omega) (fun _ _ _ => cE_B hc) rfl inT0 (by decide) (fun _ _ _ => rfl) fRX0_7 dX0_mean_1 ?_
  refine lv_if_le (tgt := 20) hx hb dX0_mean_4 (by decide) (fun c_4 => ?_) (fun c_4 => ?_)
  · skip
    refine lv_dconst0 hx hb dX0_mean_20 ?_
    exact e_dD hd hx hb hr hlk hst (by rw [cn_k0, dMean, if_pos c_4]) dX0_mean_21
  · skip
    refine lv_aload_n hx hb dX0_mean_7 rfl (lv_at hl 0 rfl) ?_
    refine w_getD am hst (k := 1) (by omega) (fun _ _ _ => cE_B hc) rfl inT0 (by decide) (fun _ _ _ => rfl) fRX0_25 dX0_mean_8 (fun x1 hx1 => ?_)
    refine lv_aload_n hx hb dX0_mean_11 rfl (lv_at hl 0 rfl) ?_
    refine w_getI am hst (k := 0) (by omega) (fun _ _ _ => cE_B hc) rfl inT0 (by decide) (fun _ _ _ => rfl) fRX0_7 dX0_mean_12 ?_
    refine w_i2d hx hb dX0_mean_15 (fun x2 hx2 => ?_)
    refine w_ddiv hd hx hb hx1 hx2 dX0_mean_16 (fun x3 d0 hx3 hd => ?_)
    refine lv_goto (tgt := 21) hx hb dX0_mean_17 (by decide) ?_
    exact e_dD hd hx hb hr hlk hst (by rw [hx3, dMean, if_neg c_4]) dX0_mean_21

set_option maxHeartbeats 4000000 in
set_option maxRecDepth 100000 in
theorem k_X0_term {l : Launch} {D : va_G} {cy ad : Nat → Nat} {I : Im} {G : Dm} {J : Jm} (hadI : adI ad) {c : Nat} (hc : 2 ≤ c ∧ c < 34) {i : Nat} (hi : i < 3) : kD l yX0_term (.code yX0_term cX0_term 2 (some .double)) (rmK 1 0 0 20) D cy ad [.ref (ad c), .int (nI i)] I G J (qD D cy ad (dTerm I G c i) I G J) := by
  refine start_D hadI (by decide +kernel) (Nat.le_of_ble_eq_true rfl) ?_
  intro p e s m below meth cd am hx hb hr hlk hst ls hl d0 hd
  have hl : lv_has ls 2 [(0, .ref (ad c)), (1, .int (nI i))] := hl
  by_cases q0 : i = 0
  · subst q0
    refine lv_iload_n hx hb dX0_term_0 rfl (lv_at hl 1 rfl) ?_
    refine lv_if_ne (tgt := 6) hx hb dX0_term_1 (by decide) (fun c_1 => absurd rfl c_1) (fun c_1 => ?_)
    refine lv_dconst1 hx hb dX0_term_4 ?_
    exact e_dD hd hx hb hr hlk hst (by rw [cn_k4607182418800017408]; rfl) dX0_term_5
  by_cases q1 : i = 1
  · subst q1
    refine lv_iload_n hx hb dX0_term_0 rfl (lv_at hl 1 rfl) ?_
    refine lv_if_ne (tgt := 6) hx hb dX0_term_1 (by decide) (fun c_1 => ?_) (fun c_1 => absurd c_1 ((show ¬ nI 1 = 0 by decide)))
    refine lv_iload_n hx hb dX0_term_6 rfl (lv_at hl 1 rfl) ?_
    refine lv_iconst (v := 1) hx hb dX0_term_7 (by decide) ?_
    refine lv_icmp_ne (tgt := 27) hx hb dX0_term_8 (by decide) (fun c_8 => absurd rfl c_8) (fun c_8 => ?_)
    refine lv_aload_n hx hb dX0_term_11 rfl (lv_at hl 0 rfl) ?_
    refine c_dD hd hst (r_VD (As := []) (rest := []) am hst hl (k_X0_mean hadI hc) kRX0_28 imX0_mean slX0_mean ⟨Nat.le_of_ble_eq_true rfl, Nat.le_of_ble_eq_true rfl⟩ (by omega) (fun _ _ _ => cE_B hc) rfl rfl rfl (Nat.le_of_ble_eq_true rfl) dX0_term_12 ⟨Nat.le_of_ble_eq_true rfl, Nat.le_of_ble_eq_true rfl⟩) (fun x1 d0 H locs hx1 hd hst => ?_)
    refine lv_aload_n hx hb dX0_term_15 rfl (lv_at hl 0 rfl) ?_
    refine w_getD am hst (k := 2) (by omega) (fun _ _ _ => cE_B hc) rfl inT0 (by decide) (fun _ _ _ => rfl) fRX0_13 dX0_term_16 (fun x2 hx2 => ?_)
    refine w_dadd hd hx hb hx1 hx2 dX0_term_19 (fun x3 d0 hx3 hd => ?_)
    refine lv_ldc2d hx hb am.2.2.2.1 (amT am _ wRX0_32) dX0_term_20 ?_
    refine w_ddiv hd hx hb hx3 cn_k4611686018427387904 dX0_term_23 (fun x4 d0 hx4 hd => ?_)
    refine lv_goto (tgt := 33) hx hb dX0_term_24 (by decide) ?_
    exact e_dD hd hx hb hr hlk hst (by rw [hx4]; rfl) dX0_term_33
  refine lv_iload_n hx hb dX0_term_0 rfl (lv_at hl 1 rfl) ?_
  refine lv_if_ne (tgt := 6) hx hb dX0_term_1 (by decide) (fun c_1 => ?_) (fun c_1 => absurd c_1 ((nI_ne0 (by omega) (by omega))))
  refine lv_iload_n hx hb dX0_term_6 rfl (lv_at hl 1 rfl) ?_
  refine lv_iconst (v := 1) hx hb dX0_term_7 (by decide) ?_
  refine lv_icmp_ne (tgt := 27) hx hb dX0_term_8 (by decide) (fun c_8 => ?_) (fun c_8 => absurd c_8 ((fun h => q1 ((nI_eq (b := 1) (by omega) (by omega)).mp h))))
  refine lv_dconst1 hx hb dX0_term_27 ?_
  refine lv_aload_n hx hb dX0_term_28 rfl (lv_at hl 0 rfl) ?_
  refine w_getD am hst (k := 3) (by omega) (fun _ _ _ => cE_B hc) rfl inT0 (by decide) (fun _ _ _ => rfl) fRX0_34 dX0_term_29 (fun x1 hx1 => ?_)
  refine w_dsub hd hx hb cn_k4607182418800017408 hx1 dX0_term_32 (fun x2 d0 hx2 hd => ?_)
  exact e_dD hd hx hb hr hlk hst (by rw [hx2, dTerm, if_neg q0, if_neg q1]) dX0_term_33
end
section
/-! the small helpers of the class: what they answer, and when they throw -/
def bIn (X : UInt64) (a b : Int32) : Bool := decide (¬ Op.cmpValue (FP.dcmp X (FP.i2d a)) CmpOp.l < 0) && decide (¬ 0 < Op.cmpValue (FP.dcmp X (FP.i2d b)) CmpOp.g)
def bDay (d : Int32) : Bool := decide (¬ d < 0) && decide (¬ 10000 < d)
def bShare (a b mb : Int32) : Bool := decide (¬ b < 1) && (decide (¬ mb < b) && (decide (¬ a < 0) && decide (¬ b < a)))
set_option maxHeartbeats 4000000 in
set_option maxRecDepth 100000 in
theorem k_X4_boardAt {l : Launch} {D : va_G} {cy ad : Nat → Nat} {I : Im} {G : Dm} {J : Jm} (hadI : adI ad) {n k : Nat} (hn : I 0 2 = nI n) (hk : k < n) (hn2 : n ≤ 32) : kM l yX4_boardAt (.code yX4_boardAt cX4_boardAt 2 (some (.object "StrengthRows$Board"))) (rmK 0 0 0 0) D cy ad [.ref (ad 0), .int (nI k)] I G J (qR D cy ad (2 + k) I G J) := by
  refine start_M hadI (by decide +kernel) (Nat.le_of_ble_eq_true rfl) ?_
  intro p e s m below meth cd am hx hb hr hlk hst ls hl
  have hl : lv_has ls 2 [(0, .ref (ad 0)), (1, .int (nI k))] := hl
  refine lv_iload_n hx hb dX4_boardAt_0 rfl (lv_at hl 1 rfl) ?_
  refine lv_if_lt (tgt := 12) hx hb dX4_boardAt_1 (by decide) (fun c_1 => absurd c_1 (nI_pos (by omega))) (fun c_1 => ?_)
  refine lv_iload_n hx hb dX4_boardAt_4 rfl (lv_at hl 1 rfl) ?_
  refine lv_aload_n hx hb dX4_boardAt_5 rfl (lv_at hl 0 rfl) ?_
  refine w_getI am hst (k := 2) (by decide) (fun _ _ _ => cE_S) rfl inT4 (by decide) (fun _ _ _ => rfl) fRX4_50 dX4_boardAt_6 ?_
  refine lv_icmp_lt (tgt := 22) hx hb dX4_boardAt_9 (by decide) (fun c_9 => ?_) (fun c_9 => absurd ((by rw [hn]; exact nI_lt hk (by omega))) c_9)
  refine lv_aload_n hx hb dX4_boardAt_22 rfl (lv_at hl 0 rfl) ?_
  refine w_getR am hst (k := 1) (b := ad 1) (by decide) (fun _ _ _ => cE_S) rfl inT4 (by decide) (fun _ _ _ => rfl) fRX4_15 dX4_boardAt_23 ?_
  refine lv_iload_n hx hb dX4_boardAt_26 rfl (lv_at hl 1 rfl) ?_
  refine w_aldR am hst (n := k) (nI_clamp (by omega)) (vp_in_nI (by omega) (by decide)) dX4_boardAt_27 ?_
  exact e_r hx hb hr hlk hst dX4_boardAt_28

set_option maxHeartbeats 4000000 in
set_option maxRecDepth 100000 in
theorem x_X4_boardAt {l : Launch} {D : va_G} {cy ad : Nat → Nat} {I : Im} {G : Dm} {J : Jm} (hadI : adI ad) (hno : l.stackTraces = false) {v : Int32} (hv : v < 0 ∨ ¬ v < I 0 2) : kX l yX4_boardAt (.code yX4_boardAt cX4_boardAt 2 (some (.object "StrengthRows$Board"))) (rmK 6 1 6 90) D cy ad [.ref (ad 0), .int v] I G J xIOOBE := by
  refine start_X hadI (by decide +kernel) (Nat.le_of_ble_eq_true rfl) ?_
  intro p e s m below meth cd am hx hb hout hlk hst ls hl
  have hl : lv_has ls 2 [(0, .ref (ad 0)), (1, .int v)] := hl
  refine lv_iload_n hx hb dX4_boardAt_0 rfl (lv_at hl 1 rfl) ?_
  refine lv_if_lt (tgt := 12) hx hb dX4_boardAt_1 (by decide) (fun c_1 => ?_) (fun c_1 => ?_)
  · skip
    exact x_throw (text := "no such board") hno am hst hout hlk hl tx_IOOBE tg_IOOBE rfl (by decide) dX4_boardAt_12 dX4_boardAt_15 dX4_boardAt_16 dX4_boardAt_18 dX4_boardAt_21 (Nat.le_of_ble_eq_true rfl) (Nat.le_of_ble_eq_true rfl) (Nat.le_of_ble_eq_true rfl) (Nat.le_of_ble_eq_true rfl) (Nat.le_of_ble_eq_true rfl) (Nat.le_of_ble_eq_true rfl)
  · skip
    refine lv_iload_n hx hb dX4_boardAt_4 rfl (lv_at hl 1 rfl) ?_
    refine lv_aload_n hx hb dX4_boardAt_5 rfl (lv_at hl 0 rfl) ?_
    refine w_getI am hst (k := 2) (by decide) (fun _ _ _ => cE_S) rfl inT4 (by decide) (fun _ _ _ => rfl) fRX4_50 dX4_boardAt_6 ?_
    refine lv_icmp_lt (tgt := 22) hx hb dX4_boardAt_9 (by decide) (fun c_9 => absurd c_9 (hv.resolve_left c_1)) (fun c_9 => ?_)
    exact x_throw (text := "no such board") hno am hst hout hlk hl tx_IOOBE tg_IOOBE rfl (by decide) dX4_boardAt_12 dX4_boardAt_15 dX4_boardAt_16 dX4_boardAt_18 dX4_boardAt_21 (Nat.le_of_ble_eq_true rfl) (Nat.le_of_ble_eq_true rfl) (Nat.le_of_ble_eq_true rfl) (Nat.le_of_ble_eq_true rfl) (Nat.le_of_ble_eq_true rfl) (Nat.le_of_ble_eq_true rfl)

set_option maxHeartbeats 4000000 in
set_option maxRecDepth 100000 in
theorem k_X4_completeBoardAt {l : Launch} {D : va_G} {cy ad : Nat → Nat} {I : Im} {G : Dm} {J : Jm} (hadI : adI ad) {n k : Nat} (hn : I 0 2 = nI n) (hk : k < n) (hn2 : n ≤ 32) (hcp : bCompl I G (2 + k) = true) : kM l yX4_completeBoardAt (.code yX4_completeBoardAt cX4_completeBoardAt 3 (some (.object "StrengthRows$Board"))) (rmK 1 0 0 21) D cy ad [.ref (ad 0), .int (nI k)] I G J (qR D cy ad (2 + k) I G J) := by
  refine start_M hadI (by decide +kernel) (Nat.le_of_ble_eq_true rfl) ?_
  intro p e s m below meth cd am hx hb hr hlk hst ls hl
  have hl : lv_has ls 3 [(0, .ref (ad 0)), (1, .int (nI k))] := hl
  refine lv_aload_n hx hb dX4_completeBoardAt_0 rfl (lv_at hl 0 rfl) ?_
  refine lv_iload_n hx hb dX4_completeBoardAt_1 rfl (lv_at hl 1 rfl) ?_
  refine c_r hst (r_V (As := [.int (nI k)]) (rest := []) am hst hl (k_X4_boardAt hadI hn hk hn2) kRX4_60 imX4_boardAt slX4_boardAt ⟨Nat.le_of_ble_eq_true rfl, Nat.le_of_ble_eq_true rfl⟩ (by decide) (fun _ _ _ => cE_S) rfl rfl rfl (Nat.le_of_ble_eq_true rfl) dX4_completeBoardAt_2 ⟨Nat.le_of_ble_eq_true rfl, Nat.le_of_ble_eq_true rfl⟩) (fun H locs hst => ?_)
  refine lv_astore_n (lv' := [(2, .ref (ad (2 + k))), (0, .ref (ad 0)), (1, .int (nI k))]) hx hb dX4_completeBoardAt_5 rfl hl (by decide) rfl (fun ls hl => ?_)
  refine lv_aload_n hx hb dX4_completeBoardAt_6 rfl (lv_at hl 0 rfl) ?_
  refine c_i hst (r_N (As := []) (rest := []) am hst hl (k_X0_isComplete hadI (show 2 ≤ 2 + k ∧ 2 + k < 34 by omega)) kRX4_157 imX0_isComplete slX0_isComplete ⟨Nat.le_of_ble_eq_true rfl, Nat.le_of_ble_eq_true rfl⟩ (by omega) (fun _ _ _ => cE_B (show 2 ≤ 2 + k ∧ 2 + k < 34 by omega)) rfl rfl rfl (Nat.le_of_ble_eq_true rfl) dX4_completeBoardAt_7 ⟨Nat.le_of_ble_eq_true rfl, Nat.le_of_ble_eq_true rfl⟩) (fun H locs hst => ?_)
  refine lv_if_ne (tgt := 23) hx hb dX4_completeBoardAt_10 (by decide) (fun c_10 => ?_) (fun c_10 => absurd c_10 (zB_n0.mpr hcp))
  refine lv_aload_n hx hb dX4_completeBoardAt_23 rfl (lv_at hl 0 rfl) ?_
  exact e_r hx hb hr hlk hst dX4_completeBoardAt_24

set_option maxHeartbeats 4000000 in
set_option maxRecDepth 100000 in
theorem x2_X4_completeBoardAt {l : Launch} {D : va_G} {cy ad : Nat → Nat} {I : Im} {G : Dm} {J : Jm} (hadI : adI ad) (hno : l.stackTraces = false) {n k : Nat} (hn : I 0 2 = nI n) (hk : k < n) (hn2 : n ≤ 32) (hcp : bCompl I G (2 + k) = false) : kX l yX4_completeBoardAt (.code yX4_completeBoardAt cX4_completeBoardAt 3 (some (.object "StrengthRows$Board"))) (rmK 7 1 6 111) D cy ad [.ref (ad 0), .int (nI k)] I G J xISE := by
  refine start_X hadI (by decide +kernel) (Nat.le_of_ble_eq_true rfl) ?_
  intro p e s m below meth cd am hx hb hout hlk hst ls hl
  have hl : lv_has ls 3 [(0, .ref (ad 0)), (1, .int (nI k))] := hl
  refine lv_aload_n hx hb dX4_completeBoardAt_0 rfl (lv_at hl 0 rfl) ?_
  refine lv_iload_n hx hb dX4_completeBoardAt_1 rfl (lv_at hl 1 rfl) ?_
  refine c_r hst (r_V (As := [.int (nI k)]) (rest := []) am hst hl (k_X4_boardAt hadI hn hk hn2) kRX4_60 imX4_boardAt slX4_boardAt ⟨Nat.le_of_ble_eq_true rfl, Nat.le_of_ble_eq_true rfl⟩ (by decide) (fun _ _ _ => cE_S) rfl rfl rfl (Nat.le_of_ble_eq_true rfl) dX4_completeBoardAt_2 ⟨Nat.le_of_ble_eq_true rfl, Nat.le_of_ble_eq_true rfl⟩) (fun H locs hst => ?_)
  refine lv_astore_n (lv' := [(2, .ref (ad (2 + k))), (0, .ref (ad 0)), (1, .int (nI k))]) hx hb dX4_completeBoardAt_5 rfl hl (by decide) rfl (fun ls hl => ?_)
  refine lv_aload_n hx hb dX4_completeBoardAt_6 rfl (lv_at hl 0 rfl) ?_
  refine c_i hst (r_N (As := []) (rest := []) am hst hl (k_X0_isComplete hadI (show 2 ≤ 2 + k ∧ 2 + k < 34 by omega)) kRX4_157 imX0_isComplete slX0_isComplete ⟨Nat.le_of_ble_eq_true rfl, Nat.le_of_ble_eq_true rfl⟩ (by omega) (fun _ _ _ => cE_B (show 2 ≤ 2 + k ∧ 2 + k < 34 by omega)) rfl rfl rfl (Nat.le_of_ble_eq_true rfl) dX4_completeBoardAt_7 ⟨Nat.le_of_ble_eq_true rfl, Nat.le_of_ble_eq_true rfl⟩) (fun H locs hst => ?_)
  refine lv_if_ne (tgt := 23) hx hb dX4_completeBoardAt_10 (by decide) (fun c_10 => absurd (zB_0.mpr hcp) c_10) (fun c_10 => ?_)
  exact x_throw (text := "the board is not complete") hno am hst hout hlk hl tx_ISE tg_ISE rfl (by decide) dX4_completeBoardAt_13 dX4_completeBoardAt_16 dX4_completeBoardAt_17 dX4_completeBoardAt_19 dX4_completeBoardAt_22 (Nat.le_of_ble_eq_true rfl) (Nat.le_of_ble_eq_true rfl) (Nat.le_of_ble_eq_true rfl) (Nat.le_of_ble_eq_true rfl) (Nat.le_of_ble_eq_true rfl) (Nat.le_of_ble_eq_true rfl)

set_option maxHeartbeats 4000000 in
set_option maxRecDepth 100000 in
theorem x1_X4_completeBoardAt {l : Launch} {D : va_G} {cy ad : Nat → Nat} {I : Im} {G : Dm} {J : Jm} (hadI : adI ad) (hno : l.stackTraces = false) {v : Int32} (hv : v < 0 ∨ ¬ v < I 0 2) : kX l yX4_completeBoardAt (.code yX4_completeBoardAt cX4_completeBoardAt 3 (some (.object "StrengthRows$Board"))) (rmK 7 1 6 111) D cy ad [.ref (ad 0), .int v] I G J xIOOBE := by
  refine start_X hadI (by decide +kernel) (Nat.le_of_ble_eq_true rfl) ?_
  intro p e s m below meth cd am hx hb hout hlk hst ls hl
  have hl : lv_has ls 3 [(0, .ref (ad 0)), (1, .int v)] := hl
  refine lv_aload_n hx hb dX4_completeBoardAt_0 rfl (lv_at hl 0 rfl) ?_
  refine lv_iload_n hx hb dX4_completeBoardAt_1 rfl (lv_at hl 1 rfl) ?_
  exact x_call hst hout hlk (Nat.le_of_ble_eq_true rfl) (Nat.le_of_ble_eq_true rfl) (r_VX (As := [.int v]) (rest := []) am hst hl (x_X4_boardAt hadI hno hv) kRX4_60 imX4_boardAt slX4_boardAt ⟨rfl, rfl⟩ ⟨Nat.le_of_ble_eq_true rfl, Nat.le_of_ble_eq_true rfl⟩ (by decide) (fun _ _ _ => cE_S) rfl rfl rfl (Nat.le_of_ble_eq_true rfl) dX4_completeBoardAt_2 ⟨Nat.le_of_ble_eq_true rfl, Nat.le_of_ble_eq_true rfl⟩)

set_option maxHeartbeats 4000000 in
set_option maxRecDepth 100000 in
theorem k_X4_checkClass {l : Launch} {D : va_G} {cy ad : Nat → Nat} {I : Im} {G : Dm} {J : Jm} (hadI : adI ad) {v : Int32} (hv : ¬ v < 0 ∧ v < 4) : kM l yX4_checkClass (.code yX4_checkClass cX4_checkClass 1 none) (rmK 0 0 0 0) D cy ad [.int v] I G J (qV D cy ad I G J) := by
  refine start_M hadI (by decide +kernel) (Nat.le_of_ble_eq_true rfl) ?_
  intro p e s m below meth cd am hx hb hr hlk hst ls hl
  have hl : lv_has ls 1 [(0, .int v)] := hl
  refine lv_iload_n hx hb dX4_checkClass_0 rfl (lv_at hl 0 rfl) ?_
  refine lv_if_lt (tgt := 9) hx hb dX4_checkClass_1 (by decide) (fun c_1 => absurd c_1 hv.1) (fun c_1 => ?_)
  refine lv_iload_n hx hb dX4_checkClass_4 rfl (lv_at hl 0 rfl) ?_
  refine lv_iconst (v := 4) hx hb dX4_checkClass_5 (by decide) ?_
  refine lv_icmp_lt (tgt := 19) hx hb dX4_checkClass_6 (by decide) (fun c_6 => ?_) (fun c_6 => absurd hv.2 c_6)
  exact e_v hx hb hr hlk hst dX4_checkClass_19

set_option maxHeartbeats 4000000 in
set_option maxRecDepth 100000 in
theorem x_X4_checkClass {l : Launch} {D : va_G} {cy ad : Nat → Nat} {I : Im} {G : Dm} {J : Jm} (hadI : adI ad) (hno : l.stackTraces = false) {v : Int32} (hv : v < 0 ∨ ¬ v < 4) : kX l yX4_checkClass (.code yX4_checkClass cX4_checkClass 1 none) (rmK 6 1 6 90) D cy ad [.int v] I G J xIOOBE := by
  refine start_X hadI (by decide +kernel) (Nat.le_of_ble_eq_true rfl) ?_
  intro p e s m below meth cd am hx hb hout hlk hst ls hl
  have hl : lv_has ls 1 [(0, .int v)] := hl
  refine lv_iload_n hx hb dX4_checkClass_0 rfl (lv_at hl 0 rfl) ?_
  refine lv_if_lt (tgt := 9) hx hb dX4_checkClass_1 (by decide) (fun c_1 => ?_) (fun c_1 => ?_)
  · skip
    exact x_throw (text := "no such class") hno am hst hout hlk hl tx_IOOBE tg_IOOBE rfl (by decide) dX4_checkClass_9 dX4_checkClass_12 dX4_checkClass_13 dX4_checkClass_15 dX4_checkClass_18 (Nat.le_of_ble_eq_true rfl) (Nat.le_of_ble_eq_true rfl) (Nat.le_of_ble_eq_true rfl) (Nat.le_of_ble_eq_true rfl) (Nat.le_of_ble_eq_true rfl) (Nat.le_of_ble_eq_true rfl)
  · skip
    refine lv_iload_n hx hb dX4_checkClass_4 rfl (lv_at hl 0 rfl) ?_
    refine lv_iconst (v := 4) hx hb dX4_checkClass_5 (by decide) ?_
    refine lv_icmp_lt (tgt := 19) hx hb dX4_checkClass_6 (by decide) (fun c_6 => absurd c_6 (hv.resolve_left c_1)) (fun c_6 => ?_)
    exact x_throw (text := "no such class") hno am hst hout hlk hl tx_IOOBE tg_IOOBE rfl (by decide) dX4_checkClass_9 dX4_checkClass_12 dX4_checkClass_13 dX4_checkClass_15 dX4_checkClass_18 (Nat.le_of_ble_eq_true rfl) (Nat.le_of_ble_eq_true rfl) (Nat.le_of_ble_eq_true rfl) (Nat.le_of_ble_eq_true rfl) (Nat.le_of_ble_eq_true rfl) (Nat.le_of_ble_eq_true rfl)

set_option maxHeartbeats 4000000 in
set_option maxRecDepth 100000 in
theorem k_X4_need {l : Launch} {D : va_G} {cy ad : Nat → Nat} {I : Im} {G : Dm} {J : Jm} (hadI : adI ad) {v : Int32} (hv : ¬ v = 0) : kM l yX4_need (.code yX4_need cX4_need 1 none) (rmK 0 0 0 0) D cy ad [.int v] I G J (qV D cy ad I G J) := by
  refine start_M hadI (by decide +kernel) (Nat.le_of_ble_eq_true rfl) ?_
  intro p e s m below meth cd am hx hb hr hlk hst ls hl
  have hl : lv_has ls 1 [(0, .int v)] := hl
  refine lv_iload_n hx hb dX4_need_0 rfl (lv_at hl 0 rfl) ?_
  refine lv_if_ne (tgt := 14) hx hb dX4_need_1 (by decide) (fun c_1 => ?_) (fun c_1 => absurd c_1 hv)
  exact e_v hx hb hr hlk hst dX4_need_14

set_option maxHeartbeats 4000000 in
set_option maxRecDepth 100000 in
theorem x_X4_need {l : Launch} {D : va_G} {cy ad : Nat → Nat} {I : Im} {G : Dm} {J : Jm} (hadI : adI ad) (hno : l.stackTraces = false) {v : Int32} (hv : v = 0) : kX l yX4_need (.code yX4_need cX4_need 1 none) (rmK 6 1 6 90) D cy ad [.int v] I G J xIAE := by
  refine start_X hadI (by decide +kernel) (Nat.le_of_ble_eq_true rfl) ?_
  intro p e s m below meth cd am hx hb hout hlk hst ls hl
  have hl : lv_has ls 1 [(0, .int v)] := hl
  refine lv_iload_n hx hb dX4_need_0 rfl (lv_at hl 0 rfl) ?_
  refine lv_if_ne (tgt := 14) hx hb dX4_need_1 (by decide) (fun c_1 => absurd hv c_1) (fun c_1 => ?_)
  exact x_throw (text := "a number is not as said") hno am hst hout hlk hl tx_IAE tg_IAE rfl (by decide) dX4_need_4 dX4_need_7 dX4_need_8 dX4_need_10 dX4_need_13 (Nat.le_of_ble_eq_true rfl) (Nat.le_of_ble_eq_true rfl) (Nat.le_of_ble_eq_true rfl) (Nat.le_of_ble_eq_true rfl) (Nat.le_of_ble_eq_true rfl) (Nat.le_of_ble_eq_true rfl)

set_option maxHeartbeats 4000000 in
set_option maxRecDepth 100000 in
theorem k_X4_isWithin {l : Launch} {D : va_G} {cy ad : Nat → Nat} {I : Im} {G : Dm} {J : Jm} (hadI : adI ad) {x X : UInt64} {a b : Int32} (hxX : cn x = X) : kM l yX4_isWithin (.code yX4_isWithin cX4_isWithin 4 (some .boolean)) (rmK 0 0 0 0) D cy ad [.double x, .int a, .int b] I G J (qI D cy ad (zB (bIn X a b)) I G J) := by
  refine start_M hadI (by decide +kernel) (Nat.le_of_ble_eq_true rfl) ?_
  intro p e s m below meth cd am hx hb hr hlk hst ls hl
  have hl : lv_has ls 4 [(0, .double x), (2, .int a), (3, .int b)] := hl
  refine lv_dload_n hx hb dX4_isWithin_0 rfl (lv_at hl 0 rfl) ?_
  refine lv_iload_n hx hb dX4_isWithin_1 rfl (lv_at hl 1 rfl) ?_
  refine w_i2d hx hb dX4_isWithin_2 (fun x1 hx1 => ?_)
  refine w_dcmp hx hb hxX hx1 dX4_isWithin_3 ?_
  refine lv_if_lt (tgt := 18) hx hb dX4_isWithin_4 (by decide) (fun c_4 => ?_) (fun c_4 => ?_)
  · skip
    refine lv_iconst (v := 0) hx hb dX4_isWithin_18 (by decide) ?_
    exact e_i hx hb hr hlk hst rfl (by simp only [bIn, zB, c_4, not_true_eq_false, not_false_eq_true, decide_true, decide_false, Bool.true_and, Bool.false_and, Bool.and_true, Bool.and_false, Bool.and_self, if_true, if_false, ite_true, ite_false, reduceIte, Bool.false_eq_true]) dX4_isWithin_19
  · skip
    refine lv_dload_n hx hb dX4_isWithin_7 rfl (lv_at hl 0 rfl) ?_
    refine lv_iload_n hx hb dX4_isWithin_8 rfl (lv_at hl 2 rfl) ?_
    refine w_i2d hx hb dX4_isWithin_9 (fun x2 hx2 => ?_)
    refine w_dcmp hx hb hxX hx2 dX4_isWithin_10 ?_
    refine lv_if_gt (tgt := 18) hx hb dX4_isWithin_11 (by decide) (fun c_11 => ?_) (fun c_11 => ?_)
    · skip
      refine lv_iconst (v := 0) hx hb dX4_isWithin_18 (by decide) ?_
      exact e_i hx hb hr hlk hst rfl (by simp only [bIn, zB, c_4, c_11, not_true_eq_false, not_false_eq_true, decide_true, decide_false, Bool.true_and, Bool.false_and, Bool.and_true, Bool.and_false, Bool.and_self, if_true, if_false, ite_true, ite_false, reduceIte, Bool.false_eq_true]) dX4_isWithin_19
    · skip
      refine lv_iconst (v := 1) hx hb dX4_isWithin_14 (by decide) ?_
      refine lv_goto (tgt := 19) hx hb dX4_isWithin_15 (by decide) ?_
      exact e_i hx hb hr hlk hst rfl (by simp only [bIn, zB, c_4, c_11, not_true_eq_false, not_false_eq_true, decide_true, decide_false, Bool.true_and, Bool.false_and, Bool.and_true, Bool.and_false, Bool.and_self, if_true, if_false, ite_true, ite_false, reduceIte, Bool.false_eq_true]) dX4_isWithin_19

set_option maxHeartbeats 4000000 in
set_option maxRecDepth 100000 in
theorem k_X4_isDay {l : Launch} {D : va_G} {cy ad : Nat → Nat} {I : Im} {G : Dm} {J : Jm} (hadI : adI ad) {v : Int32} : kM l yX4_isDay (.code yX4_isDay cX4_isDay 1 (some .boolean)) (rmK 0 0 0 0) D cy ad [.int v] I G J (qI D cy ad (zB (bDay v)) I G J) := by
  refine start_M hadI (by decide +kernel) (Nat.le_of_ble_eq_true rfl) ?_
  intro p e s m below meth cd am hx hb hr hlk hst ls hl
  have hl : lv_has ls 1 [(0, .int v)] := hl
  refine lv_iload_n hx hb dX4_isDay_0 rfl (lv_at hl 0 rfl) ?_
  refine lv_if_lt (tgt := 15) hx hb dX4_isDay_1 (by decide) (fun c_1 => ?_) (fun c_1 => ?_)
  · skip
    refine lv_iconst (v := 0) hx hb dX4_isDay_15 (by decide) ?_
    exact e_i hx hb hr hlk hst rfl (by simp only [bDay, zB, c_1, not_true_eq_false, not_false_eq_true, decide_true, decide_false, Bool.true_and, Bool.false_and, Bool.and_true, Bool.and_false, Bool.and_self, if_true, if_false, ite_true, ite_false, reduceIte, Bool.false_eq_true]) dX4_isDay_16
  · skip
    refine lv_iload_n hx hb dX4_isDay_4 rfl (lv_at hl 0 rfl) ?_
    refine lv_sipush (v := 10000) hx hb dX4_isDay_5 (by decide) ?_
    refine lv_icmp_gt (tgt := 15) hx hb dX4_isDay_8 (by decide) (fun c_8 => ?_) (fun c_8 => ?_)
    · skip
      refine lv_iconst (v := 0) hx hb dX4_isDay_15 (by decide) ?_
      exact e_i hx hb hr hlk hst rfl (by simp only [bDay, zB, c_1, c_8, not_true_eq_false, not_false_eq_true, decide_true, decide_false, Bool.true_and, Bool.false_and, Bool.and_true, Bool.and_false, Bool.and_self, if_true, if_false, ite_true, ite_false, reduceIte, Bool.false_eq_true]) dX4_isDay_16
    · skip
      refine lv_iconst (v := 1) hx hb dX4_isDay_11 (by decide) ?_
      refine lv_goto (tgt := 16) hx hb dX4_isDay_12 (by decide) ?_
      exact e_i hx hb hr hlk hst rfl (by simp only [bDay, zB, c_1, c_8, not_true_eq_false, not_false_eq_true, decide_true, decide_false, Bool.true_and, Bool.false_and, Bool.and_true, Bool.and_false, Bool.and_self, if_true, if_false, ite_true, ite_false, reduceIte, Bool.false_eq_true]) dX4_isDay_16

set_option maxHeartbeats 4000000 in
set_option maxRecDepth 100000 in
theorem k_X4_isShare {l : Launch} {D : va_G} {cy ad : Nat → Nat} {I : Im} {G : Dm} {J : Jm} (hadI : adI ad) {a b mb : Int32} : kM l yX4_isShare (.code yX4_isShare cX4_isShare 3 (some .boolean)) (rmK 0 0 0 0) D cy ad [.int a, .int b, .int mb] I G J (qI D cy ad (zB (bShare a b mb)) I G J) := by
  refine start_M hadI (by decide +kernel) (Nat.le_of_ble_eq_true rfl) ?_
  intro p e s m below meth cd am hx hb hr hlk hst ls hl
  have hl : lv_has ls 3 [(0, .int a), (1, .int b), (2, .int mb)] := hl
  refine lv_iload_n hx hb dX4_isShare_0 rfl (lv_at hl 1 rfl) ?_
  refine lv_iconst (v := 1) hx hb dX4_isShare_1 (by decide) ?_
  refine lv_icmp_lt (tgt := 23) hx hb dX4_isShare_2 (by decide) (fun c_2 => ?_) (fun c_2 => ?_)
  · skip
    refine lv_iconst (v := 0) hx hb dX4_isShare_23 (by decide) ?_
    exact e_i hx hb hr hlk hst rfl (by simp only [bShare, zB, c_2, not_true_eq_false, not_false_eq_true, decide_true, decide_false, Bool.true_and, Bool.false_and, Bool.and_true, Bool.and_false, Bool.and_self, if_true, if_false, ite_true, ite_false, reduceIte, Bool.false_eq_true]) dX4_isShare_24
  · skip
    refine lv_iload_n hx hb dX4_isShare_5 rfl (lv_at hl 1 rfl) ?_
    refine lv_iload_n hx hb dX4_isShare_6 rfl (lv_at hl 2 rfl) ?_
    refine lv_icmp_gt (tgt := 23) hx hb dX4_isShare_7 (by decide) (fun c_7 => ?_) (fun c_7 => ?_)
    · skip
      refine lv_iconst (v := 0) hx hb dX4_isShare_23 (by decide) ?_
      exact e_i hx hb hr hlk hst rfl (by simp only [bShare, zB, c_2, c_7, not_true_eq_false, not_false_eq_true, decide_true, decide_false, Bool.true_and, Bool.false_and, Bool.and_true, Bool.and_false, Bool.and_self, if_true, if_false, ite_true, ite_false, reduceIte, Bool.false_eq_true]) dX4_isShare_24
    · skip
      refine lv_iload_n hx hb dX4_isShare_10 rfl (lv_at hl 0 rfl) ?_
      refine lv_if_lt (tgt := 23) hx hb dX4_isShare_11 (by decide) (fun c_11 => ?_) (fun c_11 => ?_)
      · skip
        refine lv_iconst (v := 0) hx hb dX4_isShare_23 (by decide) ?_
        exact e_i hx hb hr hlk hst rfl (by simp only [bShare, zB, c_2, c_7, c_11, not_true_eq_false, not_false_eq_true, decide_true, decide_false, Bool.true_and, Bool.false_and, Bool.and_true, Bool.and_false, Bool.and_self, if_true, if_false, ite_true, ite_false, reduceIte, Bool.false_eq_true]) dX4_isShare_24
      · skip
        refine lv_iload_n hx hb dX4_isShare_14 rfl (lv_at hl 0 rfl) ?_
        refine lv_iload_n hx hb dX4_isShare_15 rfl (lv_at hl 1 rfl) ?_
        refine lv_icmp_gt (tgt := 23) hx hb dX4_isShare_16 (by decide) (fun c_16 => ?_) (fun c_16 => ?_)
        · skip
          refine lv_iconst (v := 0) hx hb dX4_isShare_23 (by decide) ?_
          exact e_i hx hb hr hlk hst rfl (by simp only [bShare, zB, c_2, c_7, c_11, c_16, not_true_eq_false, not_false_eq_true, decide_true, decide_false, Bool.true_and, Bool.false_and, Bool.and_true, Bool.and_false, Bool.and_self, if_true, if_false, ite_true, ite_false, reduceIte, Bool.false_eq_true]) dX4_isShare_24
        · skip
          refine lv_iconst (v := 1) hx hb dX4_isShare_19 (by decide) ?_
          refine lv_goto (tgt := 24) hx hb dX4_isShare_20 (by decide) ?_
          exact e_i hx hb hr hlk hst rfl (by simp only [bShare, zB, c_2, c_7, c_11, c_16, not_true_eq_false, not_false_eq_true, decide_true, decide_false, Bool.true_and, Bool.false_and, Bool.and_true, Bool.and_false, Bool.and_self, if_true, if_false, ite_true, ite_false, reduceIte, Bool.false_eq_true]) dX4_isShare_24

set_option maxHeartbeats 4000000 in
set_option maxRecDepth 100000 in
theorem k_X3_isBehindLast {l : Launch} {D : va_G} {cy ad : Nat → Nat} {I : Im} {G : Dm} {J : Jm} (hadI : adI ad) {v : Int32} : kM l yX3_isBehindLast (.code yX3_isBehindLast cX3_isBehindLast 2 (some .boolean)) (rmK 0 0 0 0) D cy ad [.ref (ad 50), .int v] I G J (qI D cy ad (zB (decide (¬ v ≤ I 50 3))) I G J) := by
  refine start_M hadI (by decide +kernel) (Nat.le_of_ble_eq_true rfl) ?_
  intro p e s m below meth cd am hx hb hr hlk hst ls hl
  have hl : lv_has ls 2 [(0, .ref (ad 50)), (1, .int v)] := hl
  refine lv_iload_n hx hb dX3_isBehindLast_0 rfl (lv_at hl 1 rfl) ?_
  refine lv_aload_n hx hb dX3_isBehindLast_1 rfl (lv_at hl 0 rfl) ?_
  refine w_getI am hst (k := 3) (by decide) (fun _ _ _ => cE_50) rfl inT3 (by decide) (fun _ _ _ => rfl) fRX3_19 dX3_isBehindLast_2 ?_
  refine lv_icmp_le (tgt := 12) hx hb dX3_isBehindLast_5 (by decide) (fun c_5 => ?_) (fun c_5 => ?_)
  · skip
    refine lv_iconst (v := 0) hx hb dX3_isBehindLast_12 (by decide) ?_
    exact e_i hx hb hr hlk hst rfl (by simp only [zB, c_5, not_true_eq_false, not_false_eq_true, decide_true, decide_false, Bool.true_and, Bool.false_and, Bool.and_true, Bool.and_false, Bool.and_self, if_true, if_false, ite_true, ite_false, reduceIte, Bool.false_eq_true]) dX3_isBehindLast_13
  · skip
    refine lv_iconst (v := 1) hx hb dX3_isBehindLast_8 (by decide) ?_
    refine lv_goto (tgt := 13) hx hb dX3_isBehindLast_9 (by decide) ?_
    exact e_i hx hb hr hlk hst rfl (by simp only [zB, c_5, not_true_eq_false, not_false_eq_true, decide_true, decide_false, Bool.true_and, Bool.false_and, Bool.and_true, Bool.and_false, Bool.and_self, if_true, if_false, ite_true, ite_false, reduceIte, Bool.false_eq_true]) dX3_isBehindLast_13

set_option maxHeartbeats 4000000 in
set_option maxRecDepth 100000 in
theorem k_X3_isFull {l : Launch} {D : va_G} {cy ad : Nat → Nat} {I : Im} {G : Dm} {J : Jm} (hadI : adI ad)  : kM l yX3_isFull (.code yX3_isFull cX3_isFull 1 (some .boolean)) (rmK 0 0 0 0) D cy ad [.ref (ad 50)] I G J (qI D cy ad (zB (decide (¬ I 50 2 < 16))) I G J) := by
  refine start_M hadI (by decide +kernel) (Nat.le_of_ble_eq_true rfl) ?_
  intro p e s m below meth cd am hx hb hr hlk hst ls hl
  have hl : lv_has ls 1 [(0, .ref (ad 50))] := hl
  refine lv_aload_n hx hb dX3_isFull_0 rfl (lv_at hl 0 rfl) ?_
  refine w_getI am hst (k := 2) (by decide) (fun _ _ _ => cE_50) rfl inT3 (by decide) (fun _ _ _ => rfl) fRX3_23 dX3_isFull_1 ?_
  refine lv_bipush (v := 16) hx hb dX3_isFull_4 (by decide) ?_
  refine lv_icmp_lt (tgt := 13) hx hb dX3_isFull_6 (by decide) (fun c_6 => ?_) (fun c_6 => ?_)
  · skip
    refine lv_iconst (v := 0) hx hb dX3_isFull_13 (by decide) ?_
    exact e_i hx hb hr hlk hst rfl (by simp only [zB, c_6, not_true_eq_false, not_false_eq_true, decide_true, decide_false, Bool.true_and, Bool.false_and, Bool.and_true, Bool.and_false, Bool.and_self, if_true, if_false, ite_true, ite_false, reduceIte, Bool.false_eq_true]) dX3_isFull_14
  · skip
    refine lv_iconst (v := 1) hx hb dX3_isFull_9 (by decide) ?_
    refine lv_goto (tgt := 14) hx hb dX3_isFull_10 (by decide) ?_
    exact e_i hx hb hr hlk hst rfl (by simp only [zB, c_6, not_true_eq_false, not_false_eq_true, decide_true, decide_false, Bool.true_and, Bool.false_and, Bool.and_true, Bool.and_false, Bool.and_self, if_true, if_false, ite_true, ite_false, reduceIte, Bool.false_eq_true]) dX3_isFull_14

set_option maxHeartbeats 4000000 in
set_option maxRecDepth 100000 in
theorem k_X3_append {l : Launch} {D : va_G} {cy ad : Nat → Nat} {I : Im} {G : Dm} {J : Jm} (hadI : adI ad) {v : Int32} {n : Nat} {x X : UInt64} (hn : I 50 2 = nI n) (hn2 : n < 16) (hxX : cn x = X) : kM l yX3_append (.code yX3_append cX3_append 4 (some .int)) (rmK 0 0 0 0) D cy ad [.ref (ad 50), .int v, .double x] I G J (qI D cy ad (nI (n + 1)) (u2 (u2 (u2 I 51 n v) 50 3 v) 50 2 (nI (n + 1))) (u2 G 52 n X) J) := by
  refine start_M hadI (by decide +kernel) (Nat.le_of_ble_eq_true rfl) ?_
  intro p e s m below meth cd am hx hb hr hlk hst ls hl
  have hl : lv_has ls 4 [(0, .ref (ad 50)), (1, .int v), (2, .double x)] := hl
  refine lv_aload_n hx hb dX3_append_0 rfl (lv_at hl 0 rfl) ?_
  refine w_getR am hst (k := 0) (b := ad 51) (by decide) (fun _ _ _ => cE_50) rfl inT3 (by decide) (fun _ _ _ => rfl) fRX3_9 dX3_append_1 ?_
  refine lv_aload_n hx hb dX3_append_4 rfl (lv_at hl 0 rfl) ?_
  refine w_getI am hst (k := 2) (by decide) (fun _ _ _ => cE_50) rfl inT3 (by decide) (fun _ _ _ => rfl) fRX3_23 dX3_append_5 ?_
  rw [hn]
  refine lv_iload_n hx hb dX3_append_8 rfl (lv_at hl 1 rfl) ?_
  refine w_iast am hst (by decide) (fun _ _ _ => cE_51) (n := n) (nI_clamp (by omega)) (vp_in_nI (by omega) (by decide)) dX3_append_9 (fun H locs hst => ?_)
  refine lv_aload_n hx hb dX3_append_10 rfl (lv_at hl 0 rfl) ?_
  refine w_getR am hst (k := 1) (b := ad 52) (by decide) (fun _ _ _ => cE_50) rfl inT3 (by decide) (fun _ _ _ => rfl) fRX3_15 dX3_append_11 ?_
  refine lv_aload_n hx hb dX3_append_14 rfl (lv_at hl 0 rfl) ?_
  refine w_getI am hst (k := 2) (by decide) (fun _ _ _ => cE_50) rfl inT3 (by decide) (fun _ _ _ => rfl) fRX3_23 dX3_append_15 ?_
  rw [show u2 I 51 n v 50 2 = nI n from (u2_ne (by omega)).trans hn]
  refine lv_dload_n hx hb dX3_append_18 rfl (lv_at hl 2 rfl) ?_
  refine w_dast am hst hxX (by decide) (fun _ _ _ => cE_52) (n := n) (nI_clamp (by omega)) (vp_in_nI (by omega) (by decide)) dX3_append_19 (fun H locs hst => ?_)
  refine lv_aload_n hx hb dX3_append_20 rfl (lv_at hl 0 rfl) ?_
  refine lv_iload_n hx hb dX3_append_21 rfl (lv_at hl 1 rfl) ?_
  refine w_putI am hst (k := 3) (by decide) (fun _ _ _ => cE_50) rfl inT3 tyX3 tyX3_ok nmX3 (by decide) fRX3_19 (fun _ _ _ => rfl) (fun _ _ _ => Nat.le_of_ble_eq_true rfl) rfl rfl rfl rfl dX3_append_22 (fun H locs hst => ?_)
  refine lv_aload_n hx hb dX3_append_25 rfl (lv_at hl 0 rfl) ?_
  refine lv_dup hx hb dX3_append_26 rfl ?_
  refine w_getI am hst (k := 2) (by decide) (fun _ _ _ => cE_50) rfl inT3 (by decide) (fun _ _ _ => rfl) fRX3_23 dX3_append_27 ?_
  rw [show u2 (u2 I 51 n v) 50 3 v 50 2 = nI n from (u2_ne (by omega)).trans ((u2_ne (by omega)).trans hn)]
  refine lv_iconst (v := 1) hx hb dX3_append_30 (by decide) ?_
  refine lv_iadd hx hb dX3_append_31 ?_
  rw [nI_1]
  refine w_putI am hst (k := 2) (by decide) (fun _ _ _ => cE_50) rfl inT3 tyX3 tyX3_ok nmX3 (by decide) fRX3_23 (fun _ _ _ => rfl) (fun _ _ _ => Nat.le_of_ble_eq_true rfl) rfl rfl rfl rfl dX3_append_32 (fun H locs hst => ?_)
  refine lv_aload_n hx hb dX3_append_35 rfl (lv_at hl 0 rfl) ?_
  refine w_getI am hst (k := 2) (by decide) (fun _ _ _ => cE_50) rfl inT3 (by decide) (fun _ _ _ => rfl) fRX3_23 dX3_append_36 ?_
  exact e_i hx hb hr hlk hst rfl (u2_eq _ _ _ _) dX3_append_39
end
section
/-! the chart; how many bits of an int are set, as java.lang.Integer reckons it -/
def bcU (x y : Int32) : Int32 := (x.toUInt32 >>> (y.toUInt32 &&& Int32.toUInt32 31)).toInt32
def bc1 (x : Int32) : Int32 := x - (bcU x 1 &&& 1431655765)
def bc2 (x : Int32) : Int32 := (x &&& 858993459) + (bcU x 2 &&& 858993459)
def bc3 (x : Int32) : Int32 := (x + bcU x 4) &&& 252645135
def bc4 (x : Int32) : Int32 := x + bcU x 8
def bc5 (x : Int32) : Int32 := x + bcU x 16
def bcF (x : Int32) : Int32 := bc5 (bc4 (bc3 (bc2 (bc1 x)))) &&& 63
def chB (I : Im) (b : Bool) : Int32 := ((I 49 2 <<< ((1 : Int32) &&& 31)) ||| zB b) &&& (((1 : Int32) <<< (I 49 0 &&& 31)) - 1)
def chM (I : Im) (b : Bool) : Im := u2 I 49 2 (chB I b)
def chR (I : Im) (b : Bool) : Bool := decide (chM I b 49 3 ≤ 0) && decide (chM I b 49 1 < bcF (chM I b 49 2))
def chI (I : Im) (b : Bool) : Im := if chM I b 49 3 ≤ 0 then (if chM I b 49 1 < bcF (chM I b 49 2) then u2 (chM I b) 49 3 (chM I b 49 0) else chM I b) else u2 (chM I b) 49 3 (chM I b 49 3 - 1)
set_option maxHeartbeats 4000000 in
set_option maxRecDepth 100000 in
theorem k_J6_bitCount {l : Launch} {D : va_G} {cy ad : Nat → Nat} {I : Im} {G : Dm} {J : Jm} (hadI : adI ad) {v : Int32} : kM l yJ6_bitCount_0f7a4 (.code yJ6_bitCount_0f7a4 cJ6_bitCount_0f7a4 1 (some .int)) (rmK 0 0 0 0) D cy ad [.int v] I G J (qI D cy ad (bcF v) I G J) := by
  refine start_M hadI (by decide +kernel) (Nat.le_of_ble_eq_true rfl) ?_
  intro p e s m below meth cd am hx hb hr hlk hst ls hl
  have hl : lv_has ls 1 [(0, .int v)] := hl
  refine lv_iload_n hx hb dJ6_bitCount_0f7a4_0 rfl (lv_at hl 0 rfl) ?_
  refine lv_iload_n hx hb dJ6_bitCount_0f7a4_1 rfl (lv_at hl 0 rfl) ?_
  refine lv_iconst (v := 1) hx hb dJ6_bitCount_0f7a4_2 (by decide) ?_
  refine lv_iushr hx hb dJ6_bitCount_0f7a4_3 rfl ?_
  refine lv_ldcw hx hb am.2.2.2.1 (amT am _ wRJ6_265) dJ6_bitCount_0f7a4_4 ?_
  refine lv_iand hx hb dJ6_bitCount_0f7a4_7 ?_
  refine lv_isub hx hb dJ6_bitCount_0f7a4_8 ?_
  refine lv_istore_n (lv' := [(0, .int (bc1 v))]) hx hb dJ6_bitCount_0f7a4_9 rfl hl (by decide) rfl (fun ls hl => ?_)
  refine lv_iload_n hx hb dJ6_bitCount_0f7a4_10 rfl (lv_at hl 0 rfl) ?_
  refine lv_ldcw hx hb am.2.2.2.1 (amT am _ wRJ6_266) dJ6_bitCount_0f7a4_11 ?_
  refine lv_iand hx hb dJ6_bitCount_0f7a4_14 ?_
  refine lv_iload_n hx hb dJ6_bitCount_0f7a4_15 rfl (lv_at hl 0 rfl) ?_
  refine lv_iconst (v := 2) hx hb dJ6_bitCount_0f7a4_16 (by decide) ?_
  refine lv_iushr hx hb dJ6_bitCount_0f7a4_17 rfl ?_
  refine lv_ldcw hx hb am.2.2.2.1 (amT am _ wRJ6_266) dJ6_bitCount_0f7a4_18 ?_
  refine lv_iand hx hb dJ6_bitCount_0f7a4_21 ?_
  refine lv_iadd hx hb dJ6_bitCount_0f7a4_22 ?_
  refine lv_istore_n (lv' := [(0, .int (bc2 (bc1 v)))]) hx hb dJ6_bitCount_0f7a4_23 rfl hl (by decide) rfl (fun ls hl => ?_)
  refine lv_iload_n hx hb dJ6_bitCount_0f7a4_24 rfl (lv_at hl 0 rfl) ?_
  refine lv_iload_n hx hb dJ6_bitCount_0f7a4_25 rfl (lv_at hl 0 rfl) ?_
  refine lv_iconst (v := 4) hx hb dJ6_bitCount_0f7a4_26 (by decide) ?_
  refine lv_iushr hx hb dJ6_bitCount_0f7a4_27 rfl ?_
  refine lv_iadd hx hb dJ6_bitCount_0f7a4_28 ?_
  refine lv_ldcw hx hb am.2.2.2.1 (amT am _ wRJ6_267) dJ6_bitCount_0f7a4_29 ?_
  refine lv_iand hx hb dJ6_bitCount_0f7a4_32 ?_
  refine lv_istore_n (lv' := [(0, .int (bc3 (bc2 (bc1 v))))]) hx hb dJ6_bitCount_0f7a4_33 rfl hl (by decide) rfl (fun ls hl => ?_)
  refine lv_iload_n hx hb dJ6_bitCount_0f7a4_34 rfl (lv_at hl 0 rfl) ?_
  refine lv_iload_n hx hb dJ6_bitCount_0f7a4_35 rfl (lv_at hl 0 rfl) ?_
  refine lv_bipush (v := 8) hx hb dJ6_bitCount_0f7a4_36 (by decide) ?_
  refine lv_iushr hx hb dJ6_bitCount_0f7a4_38 rfl ?_
  refine lv_iadd hx hb dJ6_bitCount_0f7a4_39 ?_
  refine lv_istore_n (lv' := [(0, .int (bc4 (bc3 (bc2 (bc1 v)))))]) hx hb dJ6_bitCount_0f7a4_40 rfl hl (by decide) rfl (fun ls hl => ?_)
  refine lv_iload_n hx hb dJ6_bitCount_0f7a4_41 rfl (lv_at hl 0 rfl) ?_
  refine lv_iload_n hx hb dJ6_bitCount_0f7a4_42 rfl (lv_at hl 0 rfl) ?_
  refine lv_bipush (v := 16) hx hb dJ6_bitCount_0f7a4_43 (by decide) ?_
  refine lv_iushr hx hb dJ6_bitCount_0f7a4_45 rfl ?_
  refine lv_iadd hx hb dJ6_bitCount_0f7a4_46 ?_
  refine lv_istore_n (lv' := [(0, .int (bc5 (bc4 (bc3 (bc2 (bc1 v))))))]) hx hb dJ6_bitCount_0f7a4_47 rfl hl (by decide) rfl (fun ls hl => ?_)
  refine lv_iload_n hx hb dJ6_bitCount_0f7a4_48 rfl (lv_at hl 0 rfl) ?_
  refine lv_bipush (v := 63) hx hb dJ6_bitCount_0f7a4_49 (by decide) ?_
  refine lv_iand hx hb dJ6_bitCount_0f7a4_51 ?_
  exact e_i hx hb hr hlk hst rfl rfl dJ6_bitCount_0f7a4_52

set_option maxHeartbeats 4000000 in
set_option maxRecDepth 100000 in
theorem k_X1_begin {l : Launch} {D : va_G} {cy ad : Nat → Nat} {I : Im} {G : Dm} {J : Jm} (hadI : adI ad) {a b : Int32} : kM l yX1_begin (.code yX1_begin cX1_begin 3 none) (rmK 0 0 0 0) D cy ad [.ref (ad 49), .int a, .int b] I G J (qV D cy ad (u2 (u2 (u2 (u2 I 49 0 a) 49 1 b) 49 2 0) 49 3 0) G J) := by
  refine start_M hadI (by decide +kernel) (Nat.le_of_ble_eq_true rfl) ?_
  intro p e s m below meth cd am hx hb hr hlk hst ls hl
  have hl : lv_has ls 3 [(0, .ref (ad 49)), (1, .int a), (2, .int b)] := hl
  refine lv_aload_n hx hb dX1_begin_0 rfl (lv_at hl 0 rfl) ?_
  refine lv_iload_n hx hb dX1_begin_1 rfl (lv_at hl 1 rfl) ?_
  refine w_putI am hst (k := 0) (by decide) (fun _ _ _ => cE_49) rfl inT1 tyX1 tyX1_ok nmX1 (by decide) fRX1_9 (fun _ _ _ => rfl) (fun _ _ _ => Nat.le_of_ble_eq_true rfl) rfl rfl rfl rfl dX1_begin_2 (fun H locs hst => ?_)
  refine lv_aload_n hx hb dX1_begin_5 rfl (lv_at hl 0 rfl) ?_
  refine lv_iload_n hx hb dX1_begin_6 rfl (lv_at hl 2 rfl) ?_
  refine w_putI am hst (k := 1) (by decide) (fun _ _ _ => cE_49) rfl inT1 tyX1 tyX1_ok nmX1 (by decide) fRX1_15 (fun _ _ _ => rfl) (fun _ _ _ => Nat.le_of_ble_eq_true rfl) rfl rfl rfl rfl dX1_begin_7 (fun H locs hst => ?_)
  refine lv_aload_n hx hb dX1_begin_10 rfl (lv_at hl 0 rfl) ?_
  refine lv_iconst (v := 0) hx hb dX1_begin_11 (by decide) ?_
  refine w_putI am hst (k := 2) (by decide) (fun _ _ _ => cE_49) rfl inT1 tyX1 tyX1_ok nmX1 (by decide) fRX1_18 (fun _ _ _ => rfl) (fun _ _ _ => Nat.le_of_ble_eq_true rfl) rfl rfl rfl rfl dX1_begin_12 (fun H locs hst => ?_)
  refine lv_aload_n hx hb dX1_begin_15 rfl (lv_at hl 0 rfl) ?_
  refine lv_iconst (v := 0) hx hb dX1_begin_16 (by decide) ?_
  refine w_putI am hst (k := 3) (by decide) (fun _ _ _ => cE_49) rfl inT1 tyX1 tyX1_ok nmX1 (by decide) fRX1_21 (fun _ _ _ => rfl) (fun _ _ _ => Nat.le_of_ble_eq_true rfl) rfl rfl rfl rfl dX1_begin_17 (fun H locs hst => ?_)
  exact e_v hx hb hr hlk hst dX1_begin_20

set_option maxHeartbeats 4000000 in
set_option maxRecDepth 100000 in
theorem k_X1_actsAt {l : Launch} {D : va_G} {cy ad : Nat → Nat} {I : Im} {G : Dm} {J : Jm} (hadI : adI ad) {b : Bool} : kM l yX1_actsAt (.code yX1_actsAt cX1_actsAt 2 (some .boolean)) (rmK 1 0 0 20) D cy ad [.ref (ad 49), .int (zB b)] I G J (qI D cy ad (zB (chR I b)) (chI I b) G J) := by
  refine start_M hadI (by decide +kernel) (Nat.le_of_ble_eq_true rfl) ?_
  intro p e s m below meth cd am hx hb hr hlk hst ls hl
  have hl : lv_has ls 2 [(0, .ref (ad 49)), (1, .int (zB b))] := hl
  cases b
  · have hl : lv_has ls 2 [(0, .ref (ad 49)), (1, .int (zB false))] := hl
    refine lv_aload_n hx hb dX1_actsAt_0 rfl (lv_at hl 0 rfl) ?_
    refine lv_aload_n hx hb dX1_actsAt_1 rfl (lv_at hl 0 rfl) ?_
    refine w_getI am hst (k := 2) (by decide) (fun _ _ _ => cE_49) rfl inT1 (by decide) (fun _ _ _ => rfl) fRX1_18 dX1_actsAt_2 ?_
    refine lv_iconst (v := 1) hx hb dX1_actsAt_5 (by decide) ?_
    refine lv_ishl hx hb dX1_actsAt_6 ?_
    refine lv_iload_n hx hb dX1_actsAt_7 rfl (lv_at hl 1 rfl) ?_
    refine lv_if_eq (tgt := 15) hx hb dX1_actsAt_8 (by decide) (fun c_8 => ?_) (fun c_8 => absurd rfl c_8)
    refine lv_iconst (v := 0) hx hb dX1_actsAt_15 (by decide) ?_
    refine lv_ior hx hb dX1_actsAt_16 ?_
    refine lv_iconst (v := 1) hx hb dX1_actsAt_17 (by decide) ?_
    refine lv_aload_n hx hb dX1_actsAt_18 rfl (lv_at hl 0 rfl) ?_
    refine w_getI am hst (k := 0) (by decide) (fun _ _ _ => cE_49) rfl inT1 (by decide) (fun _ _ _ => rfl) fRX1_9 dX1_actsAt_19 ?_
    refine lv_ishl hx hb dX1_actsAt_22 ?_
    refine lv_iconst (v := 1) hx hb dX1_actsAt_23 (by decide) ?_
    refine lv_isub hx hb dX1_actsAt_24 ?_
    refine lv_iand hx hb dX1_actsAt_25 ?_
    refine w_putI am hst (k := 2) (by decide) (fun _ _ _ => cE_49) rfl inT1 tyX1 tyX1_ok nmX1 (by decide) fRX1_18 (fun _ _ _ => rfl) (fun _ _ _ => Nat.le_of_ble_eq_true rfl) rfl rfl rfl rfl dX1_actsAt_26 (fun H locs hst => ?_)
    have hst : St D cy ad s.heap (chM I false) G J H locs := hst
    refine lv_aload_n hx hb dX1_actsAt_29 rfl (lv_at hl 0 rfl) ?_
    refine w_getI am hst (k := 3) (by decide) (fun _ _ _ => cE_49) rfl inT1 (by decide) (fun _ _ _ => rfl) fRX1_21 dX1_actsAt_30 ?_
    refine lv_if_le (tgt := 48) hx hb dX1_actsAt_33 (by decide) (fun c_33 => ?_) (fun c_33 => ?_)
    · skip
      refine lv_aload_n hx hb dX1_actsAt_48 rfl (lv_at hl 0 rfl) ?_
      refine w_getI am hst (k := 2) (by decide) (fun _ _ _ => cE_49) rfl inT1 (by decide) (fun _ _ _ => rfl) fRX1_18 dX1_actsAt_49 ?_
      refine c_i hst (r_S (As := [.int ((chM I false) 49 2)]) (rest := []) am hst hl (k_J6_bitCount hadI) kRX1_24 smJ6_bitCount_0f7a4 ⟨Nat.le_of_ble_eq_true rfl, Nat.le_of_ble_eq_true rfl⟩ rfl rfl (Nat.le_of_ble_eq_true rfl) dX1_actsAt_52 ⟨Nat.le_of_ble_eq_true rfl, Nat.le_of_ble_eq_true rfl⟩) (fun H locs hst => ?_)
      refine lv_aload_n hx hb dX1_actsAt_55 rfl (lv_at hl 0 rfl) ?_
      refine w_getI am hst (k := 1) (by decide) (fun _ _ _ => cE_49) rfl inT1 (by decide) (fun _ _ _ => rfl) fRX1_15 dX1_actsAt_56 ?_
      refine lv_icmp_gt (tgt := 64) hx hb dX1_actsAt_59 (by decide) (fun c_59 => ?_) (fun c_59 => ?_)
      · skip
        refine lv_aload_n hx hb dX1_actsAt_64 rfl (lv_at hl 0 rfl) ?_
        refine lv_aload_n hx hb dX1_actsAt_65 rfl (lv_at hl 0 rfl) ?_
        refine w_getI am hst (k := 0) (by decide) (fun _ _ _ => cE_49) rfl inT1 (by decide) (fun _ _ _ => rfl) fRX1_9 dX1_actsAt_66 ?_
        refine w_putI am hst (k := 3) (by decide) (fun _ _ _ => cE_49) rfl inT1 tyX1 tyX1_ok nmX1 (by decide) fRX1_21 (fun _ _ _ => rfl) (fun _ _ _ => Nat.le_of_ble_eq_true rfl) rfl rfl rfl rfl dX1_actsAt_69 (fun H locs hst => ?_)
        refine lv_iconst (v := 1) hx hb dX1_actsAt_72 (by decide) ?_
        have hst : St D cy ad s.heap (chI I false) G J H locs := by rw [chI, if_pos c_33, if_pos c_59]; exact hst
        exact e_i hx hb hr hlk hst rfl (by simp only [chR, zB, c_33, c_59, not_true_eq_false, not_false_eq_true, decide_true, decide_false, Bool.true_and, Bool.false_and, Bool.and_true, Bool.and_false, Bool.and_self, if_true, if_false, ite_true, ite_false, reduceIte, Bool.false_eq_true]) dX1_actsAt_73
      · skip
        refine lv_iconst (v := 0) hx hb dX1_actsAt_62 (by decide) ?_
        have hst : St D cy ad s.heap (chI I false) G J H locs := by rw [chI, if_pos c_33, if_neg c_59]; exact hst
        exact e_i hx hb hr hlk hst rfl (by simp only [chR, zB, c_33, c_59, not_true_eq_false, not_false_eq_true, decide_true, decide_false, Bool.true_and, Bool.false_and, Bool.and_true, Bool.and_false, Bool.and_self, if_true, if_false, ite_true, ite_false, reduceIte, Bool.false_eq_true]) dX1_actsAt_63
    · skip
      refine lv_aload_n hx hb dX1_actsAt_36 rfl (lv_at hl 0 rfl) ?_
      refine lv_dup hx hb dX1_actsAt_37 rfl ?_
      refine w_getI am hst (k := 3) (by decide) (fun _ _ _ => cE_49) rfl inT1 (by decide) (fun _ _ _ => rfl) fRX1_21 dX1_actsAt_38 ?_
      refine lv_iconst (v := 1) hx hb dX1_actsAt_41 (by decide) ?_
      refine lv_isub hx hb dX1_actsAt_42 ?_
      refine w_putI am hst (k := 3) (by decide) (fun _ _ _ => cE_49) rfl inT1 tyX1 tyX1_ok nmX1 (by decide) fRX1_21 (fun _ _ _ => rfl) (fun _ _ _ => Nat.le_of_ble_eq_true rfl) rfl rfl rfl rfl dX1_actsAt_43 (fun H locs hst => ?_)
      refine lv_iconst (v := 0) hx hb dX1_actsAt_46 (by decide) ?_
      have hst : St D cy ad s.heap (chI I false) G J H locs := by rw [chI, if_neg c_33]; exact hst
      exact e_i hx hb hr hlk hst rfl (by simp only [chR, zB, c_33, not_true_eq_false, not_false_eq_true, decide_true, decide_false, Bool.true_and, Bool.false_and, Bool.and_true, Bool.and_false, Bool.and_self, if_true, if_false, ite_true, ite_false, reduceIte, Bool.false_eq_true]) dX1_actsAt_47
  · have hl : lv_has ls 2 [(0, .ref (ad 49)), (1, .int (zB true))] := hl
    refine lv_aload_n hx hb dX1_actsAt_0 rfl (lv_at hl 0 rfl) ?_
    refine lv_aload_n hx hb dX1_actsAt_1 rfl (lv_at hl 0 rfl) ?_
    refine w_getI am hst (k := 2) (by decide) (fun _ _ _ => cE_49) rfl inT1 (by decide) (fun _ _ _ => rfl) fRX1_18 dX1_actsAt_2 ?_
    refine lv_iconst (v := 1) hx hb dX1_actsAt_5 (by decide) ?_
    refine lv_ishl hx hb dX1_actsAt_6 ?_
    refine lv_iload_n hx hb dX1_actsAt_7 rfl (lv_at hl 1 rfl) ?_
    refine lv_if_eq (tgt := 15) hx hb dX1_actsAt_8 (by decide) (fun c_8 => absurd c_8 ((show ¬ zB true = 0 by decide))) (fun c_8 => ?_)
    refine lv_iconst (v := 1) hx hb dX1_actsAt_11 (by decide) ?_
    refine lv_goto (tgt := 16) hx hb dX1_actsAt_12 (by decide) ?_
    refine lv_ior hx hb dX1_actsAt_16 ?_
    refine lv_iconst (v := 1) hx hb dX1_actsAt_17 (by decide) ?_
    refine lv_aload_n hx hb dX1_actsAt_18 rfl (lv_at hl 0 rfl) ?_
    refine w_getI am hst (k := 0) (by decide) (fun _ _ _ => cE_49) rfl inT1 (by decide) (fun _ _ _ => rfl) fRX1_9 dX1_actsAt_19 ?_
    refine lv_ishl hx hb dX1_actsAt_22 ?_
    refine lv_iconst (v := 1) hx hb dX1_actsAt_23 (by decide) ?_
    refine lv_isub hx hb dX1_actsAt_24 ?_
    refine lv_iand hx hb dX1_actsAt_25 ?_
    refine w_putI am hst (k := 2) (by decide) (fun _ _ _ => cE_49) rfl inT1 tyX1 tyX1_ok nmX1 (by decide) fRX1_18 (fun _ _ _ => rfl) (fun _ _ _ => Nat.le_of_ble_eq_true rfl) rfl rfl rfl rfl dX1_actsAt_26 (fun H locs hst => ?_)
    have hst : St D cy ad s.heap (chM I true) G J H locs := hst
    refine lv_aload_n hx hb dX1_actsAt_29 rfl (lv_at hl 0 rfl) ?_
    refine w_getI am hst (k := 3) (by decide) (fun _ _ _ => cE_49) rfl inT1 (by decide) (fun _ _ _ => rfl) fRX1_21 dX1_actsAt_30 ?_
    refine lv_if_le (tgt := 48) hx hb dX1_actsAt_33 (by decide) (fun c_33 => ?_) (fun c_33 => ?_)
    · skip
      refine lv_aload_n hx hb dX1_actsAt_48 rfl (lv_at hl 0 rfl) ?_
      refine w_getI am hst (k := 2) (by decide) (fun _ _ _ => cE_49) rfl inT1 (by decide) (fun _ _ _ => rfl) fRX1_18 dX1_actsAt_49 ?_
      refine c_i hst (r_S (As := [.int ((chM I true) 49 2)]) (rest := []) am hst hl (k_J6_bitCount hadI) kRX1_24 smJ6_bitCount_0f7a4 ⟨Nat.le_of_ble_eq_true rfl, Nat.le_of_ble_eq_true rfl⟩ rfl rfl (Nat.le_of_ble_eq_true rfl) dX1_actsAt_52 ⟨Nat.le_of_ble_eq_true rfl, Nat.le_of_ble_eq_true rfl⟩) (fun H locs hst => ?_)
      refine lv_aload_n hx hb dX1_actsAt_55 rfl (lv_at hl 0 rfl) ?_
      refine w_getI am hst (k := 1) (by decide) (fun _ _ _ => cE_49) rfl inT1 (by decide) (fun _ _ _ => rfl) fRX1_15 dX1_actsAt_56 ?_
      refine lv_icmp_gt (tgt := 64) hx hb dX1_actsAt_59 (by decide) (fun c_59 => ?_) (fun c_59 => ?_)
      · skip
        refine lv_aload_n hx hb dX1_actsAt_64 rfl (lv_at hl 0 rfl) ?_
        refine lv_aload_n hx hb dX1_actsAt_65 rfl (lv_at hl 0 rfl) ?_
        refine w_getI am hst (k := 0) (by decide) (fun _ _ _ => cE_49) rfl inT1 (by decide) (fun _ _ _ => rfl) fRX1_9 dX1_actsAt_66 ?_
        refine w_putI am hst (k := 3) (by decide) (fun _ _ _ => cE_49) rfl inT1 tyX1 tyX1_ok nmX1 (by decide) fRX1_21 (fun _ _ _ => rfl) (fun _ _ _ => Nat.le_of_ble_eq_true rfl) rfl rfl rfl rfl dX1_actsAt_69 (fun H locs hst => ?_)
        refine lv_iconst (v := 1) hx hb dX1_actsAt_72 (by decide) ?_
        have hst : St D cy ad s.heap (chI I true) G J H locs := by rw [chI, if_pos c_33, if_pos c_59]; exact hst
        exact e_i hx hb hr hlk hst rfl (by simp only [chR, zB, c_33, c_59, not_true_eq_false, not_false_eq_true, decide_true, decide_false, Bool.true_and, Bool.false_and, Bool.and_true, Bool.and_false, Bool.and_self, if_true, if_false, ite_true, ite_false, reduceIte, Bool.false_eq_true]) dX1_actsAt_73
      · skip
        refine lv_iconst (v := 0) hx hb dX1_actsAt_62 (by decide) ?_
        have hst : St D cy ad s.heap (chI I true) G J H locs := by rw [chI, if_pos c_33, if_neg c_59]; exact hst
        exact e_i hx hb hr hlk hst rfl (by simp only [chR, zB, c_33, c_59, not_true_eq_false, not_false_eq_true, decide_true, decide_false, Bool.true_and, Bool.false_and, Bool.and_true, Bool.and_false, Bool.and_self, if_true, if_false, ite_true, ite_false, reduceIte, Bool.false_eq_true]) dX1_actsAt_63
    · skip
      refine lv_aload_n hx hb dX1_actsAt_36 rfl (lv_at hl 0 rfl) ?_
      refine lv_dup hx hb dX1_actsAt_37 rfl ?_
      refine w_getI am hst (k := 3) (by decide) (fun _ _ _ => cE_49) rfl inT1 (by decide) (fun _ _ _ => rfl) fRX1_21 dX1_actsAt_38 ?_
      refine lv_iconst (v := 1) hx hb dX1_actsAt_41 (by decide) ?_
      refine lv_isub hx hb dX1_actsAt_42 ?_
      refine w_putI am hst (k := 3) (by decide) (fun _ _ _ => cE_49) rfl inT1 tyX1 tyX1_ok nmX1 (by decide) fRX1_21 (fun _ _ _ => rfl) (fun _ _ _ => Nat.le_of_ble_eq_true rfl) rfl rfl rfl rfl dX1_actsAt_43 (fun H locs hst => ?_)
      refine lv_iconst (v := 0) hx hb dX1_actsAt_46 (by decide) ?_
      have hst : St D cy ad s.heap (chI I true) G J H locs := by rw [chI, if_neg c_33]; exact hst
      exact e_i hx hb hr hlk hst rfl (by simp only [chR, zB, c_33, not_true_eq_false, not_false_eq_true, decide_true, decide_false, Bool.true_and, Bool.false_and, Bool.and_true, Bool.and_false, Bool.and_self, if_true, if_false, ite_true, ite_false, reduceIte, Bool.false_eq_true]) dX1_actsAt_47
end
section
/-! a fit: its sums, its elimination, its numbers; each loop has a function that counts its turns. b is 34 or 41: the fit; its products lie at b + 2 + i, its targets at b + 5, its numbers at b + 6 -/
def cl1 (b i : Nat) (G : Dm) : Nat → Dm | 0 => G | j + 1 => u2 (cl1 b i G j) (b + 1 + 1 + i) j 0
def cl0 (b : Nat) (G : Dm) : Nat → Dm | 0 => G | i + 1 => cl1 b i (u2 (cl0 b G i) (b + 5) i 0) 3
def ad1 (b : Nat) (I : Im) (c i : Nat) (G : Dm) : Nat → Dm | 0 => G | j + 1 => u2 (ad1 b I c i G j) (b + 1 + 1 + i) j (Ad (ad1 b I c i G j (b + 1 + 1 + i) j) (Mu (dTerm I (ad1 b I c i G j) c i) (dTerm I (ad1 b I c i G j) c j)))
def ad0 (b : Nat) (I : Im) (c : Nat) (G : Dm) : Nat → Dm | 0 => G | i + 1 => ad1 b I c i (u2 (ad0 b I c G i) (b + 5) i (Ad (ad0 b I c G i (b + 5) i) (Mu (dTerm I (ad0 b I c G i) c i) (ad0 b I c G i c 4)))) 3
def pvS (x : UInt64) : UInt64 := if 0 ≤ Op.cmpValue (FP.dcmp x 0) CmpOp.g then x else Ng x
def pvO (x : UInt64) : Bool := decide (¬ 0 ≤ Op.cmpValue (FP.dcmp (pvS x) 4517110426252607488) CmpOp.g)
def le1 (b r c : Nat) (f : UInt64) (G : Dm) : Nat → Dm | 0 => G | k + 1 => u2 (le1 b r c f G k) (b + 1 + 1 + r) (c + k) (Sb (le1 b r c f G k (b + 1 + 1 + r) (c + k)) (Mu f (le1 b r c f G k (b + 1 + 1 + c) (c + k))))
def le0 (b r c : Nat) (f : UInt64) (G : Dm) : Dm := u2 (le1 b r c f G (3 - c)) (b + 5) r (Sb (le1 b r c f G (3 - c) (b + 5) r) (Mu f (le1 b r c f G (3 - c) (b + 5) c)))
def el1 (b c : Nat) (G : Dm) : Nat → Dm | 0 => G | k + 1 => le0 b (c + 1 + k) c (Dv (el1 b c G k (b + 1 + 1 + (c + 1 + k)) c) (el1 b c G k (b + 1 + 1 + c) c)) (el1 b c G k)
def el0 (b : Nat) (G : Dm) : Nat → Dm | 0 => G | c + 1 => if pvO (el0 b G c (b + 1 + 1 + c) c) = true then el0 b G c else el1 b c (el0 b G c) (2 - c)
def elR (b : Nat) (G : Dm) : Nat → Nat | 0 => 0 | c + 1 => if pvO (el0 b G c (b + 1 + 1 + c) c) = true then elR b G c else elR b G c + 1
def su1 (b c : Nat) (G : Dm) : Nat → UInt64 | 0 => G (b + 5) c | k + 1 => Sb (su1 b c G k) (Mu (G (b + 1 + 1 + c) (c + 1 + k)) (G (b + 6) (c + 1 + k)))
def su0 (b : Nat) (G : Dm) : Nat → Dm | 0 => G | k + 1 => u2 (su0 b G k) (b + 6) (2 - k) (if pvO (su0 b G k (b + 1 + 1 + (2 - k)) (2 - k)) = true then 0 else Dv (su1 b (2 - k) (su0 b G k) k) (su0 b G k (b + 1 + 1 + (2 - k)) (2 - k)))
theorem elR_le (b : Nat) (G : Dm) : ∀ c, elR b G c ≤ c
  | 0 => Nat.le_refl 0
  | c + 1 => by
    have := elR_le b G c
    unfold elR
    split <;> omega
set_option maxHeartbeats 4000000 in
set_option maxRecDepth 100000 in
theorem k_X2_clear {l : Launch} {D : va_G} {cy ad : Nat → Nat} {I : Im} {G : Dm} {J : Jm} (hadI : adI ad) {b : Nat} (hf : b = 34 ∨ b = 41) : kM l yX2_clear (.code yX2_clear cX2_clear 3 none) (rmK 0 0 0 0) D cy ad [.ref (ad b)] I G J (qV D cy ad I (cl0 b G 3) J) := by
  refine start_M hadI (by decide +kernel) (Nat.le_of_ble_eq_true rfl) ?_
  intro p e s m below meth cd am hx hb hr hlk hst ls hl
  have hl : lv_has ls 3 [(0, .ref (ad b))] := hl
  refine lv_iconst (v := 0) hx hb dX2_clear_0 (by decide) ?_
  refine lv_istore_n (lv' := [(1, .int 0), (0, .ref (ad b))]) hx hb dX2_clear_1 rfl hl (by decide) rfl (fun ls hl => ?_)
  have lp0 : ∀ (n i : Nat), n + i = 3 → ∀ (H : Heap) (locs : List Loc), St D cy ad s.heap I (cl0 b G i) J H locs → ∀ ls, lv_has ls 3 [(0, .ref (ad b)), (1, .int (nI i))] → W p l e (rmK 0 0 0 0) (s.setDrawn s.drawn) m [.ref (ad b)].toArray below meth cd H locs 0 0 (MQ below (qV D cy ad I (cl0 b G 3) J s.heap.size) [.ref (ad b)].toArray s ((rmK 0 0 0 0)).cells ((rmK 0 0 0 0)).slots (aA ad s.heap.size)) (F0 m 2 ls []) := by
    intro n
    induction n with
    | zero =>
      intro i hi H locs hst ls hl
      obtain rfl : 3 = i := by omega
      refine lv_iload_n hx hb dX2_clear_2 rfl (lv_at hl 1 rfl) ?_
      refine lv_iconst (v := 3) hx hb dX2_clear_3 (by decide) ?_
      refine lv_icmp_ge (tgt := 42) hx hb dX2_clear_4 (by decide) (fun c_4 => ?_) (fun c_4 => absurd ((show (3 : Int32) ≤ nI 3 by decide)) c_4)
      exact e_v hx hb hr hlk hst dX2_clear_42
    | succ n ih_lp0 =>
      intro i hi H locs hst ls hl
      refine lv_iload_n hx hb dX2_clear_2 rfl (lv_at hl 1 rfl) ?_
      refine lv_iconst (v := 3) hx hb dX2_clear_3 (by decide) ?_
      refine lv_icmp_ge (tgt := 42) hx hb dX2_clear_4 (by decide) (fun c_4 => absurd c_4 ((nI_ge (b := 3) (by omega) (by decide)))) (fun c_4 => ?_)
      refine lv_aload_n hx hb dX2_clear_7 rfl (lv_at hl 0 rfl) ?_
      refine w_getR am hst (k := 1) (b := ad (b + 5)) (by omega) (fun _ _ _ => cE_F hf) rfl inT2 (by decide) (fun _ _ _ => rfl) fRX2_16 dX2_clear_8 ?_
      refine lv_iload_n hx hb dX2_clear_11 rfl (lv_at hl 1 rfl) ?_
      refine lv_dconst0 hx hb dX2_clear_12 ?_
      refine w_dast am hst cn_k0 (by omega) (fun _ _ _ => cE_F5 hf) (n := i) (nI_clamp (by omega)) (vp_in_nI (by omega) (by decide)) dX2_clear_13 (fun H locs hst => ?_)
      refine lv_iconst (v := 0) hx hb dX2_clear_14 (by decide) ?_
      refine lv_istore_n (lv' := [(2, .int 0), (0, .ref (ad b)), (1, .int (nI i))]) hx hb dX2_clear_15 rfl hl (by decide) rfl (fun ls hl => ?_)
      have lp1 : ∀ (n j : Nat), n + j = 3 → ∀ (H : Heap) (locs : List Loc), St D cy ad s.heap I (cl1 b i (u2 (cl0 b G i) (b + 5) i 0) j) J H locs → ∀ ls, lv_has ls 3 [(0, .ref (ad b)), (1, .int (nI i)), (2, .int (nI j))] → W p l e (rmK 0 0 0 0) (s.setDrawn s.drawn) m [.ref (ad b)].toArray below meth cd H locs 0 0 (MQ below (qV D cy ad I (cl0 b G 3) J s.heap.size) [.ref (ad b)].toArray s ((rmK 0 0 0 0)).cells ((rmK 0 0 0 0)).slots (aA ad s.heap.size)) (F0 m 16 ls []) := by
        intro n
        induction n with
        | zero =>
          intro j hi H locs hst ls hl
          obtain rfl : 3 = j := by omega
          refine lv_iload_n hx hb dX2_clear_16 rfl (lv_at hl 2 rfl) ?_
          refine lv_iconst (v := 3) hx hb dX2_clear_17 (by decide) ?_
          refine lv_icmp_ge (tgt := 36) hx hb dX2_clear_18 (by decide) (fun c_18 => ?_) (fun c_18 => absurd ((show (3 : Int32) ≤ nI 3 by decide)) c_18)
          refine lv_iinc (v := nI (i + 1)) (lv' := [(1, .int (nI (i + 1))), (0, .ref (ad b)), (2, .int (nI 3))]) hx hb dX2_clear_36 hl (k := 1) rfl (nI_1 i) (by decide) rfl (fun ls hl => ?_)
          refine lv_goto (tgt := 2) hx hb dX2_clear_39 (by decide) ?_
          exact ih_lp0 (i + 1) (by omega) _ _ hst ls (lv_sub hl [1, 0] rfl)
        | succ n ih_lp1 =>
          intro j hi H locs hst ls hl
          refine lv_iload_n hx hb dX2_clear_16 rfl (lv_at hl 2 rfl) ?_
          refine lv_iconst (v := 3) hx hb dX2_clear_17 (by decide) ?_
          refine lv_icmp_ge (tgt := 36) hx hb dX2_clear_18 (by decide) (fun c_18 => absurd c_18 ((nI_ge (b := 3) (by omega) (by decide)))) (fun c_18 => ?_)
          refine lv_aload_n hx hb dX2_clear_21 rfl (lv_at hl 0 rfl) ?_
          refine w_getR am hst (k := 0) (b := ad (b + 1)) (by omega) (fun _ _ _ => cE_F hf) rfl inT2 (by decide) (fun _ _ _ => rfl) fRX2_11 dX2_clear_22 ?_
          refine lv_iload_n hx hb dX2_clear_25 rfl (lv_at hl 1 rfl) ?_
          refine w_aldA am hst hf (n := i) (nI_clamp (by omega)) (vp_in_nI (by omega) (by decide)) dX2_clear_26 ?_
          refine lv_iload_n hx hb dX2_clear_27 rfl (lv_at hl 2 rfl) ?_
          refine lv_dconst0 hx hb dX2_clear_28 ?_
          refine w_dast am hst cn_k0 (by omega) (fun _ _ _ => cE_Fr hf (by omega)) (n := j) (nI_clamp (by omega)) (vp_in_nI (by omega) (by decide)) dX2_clear_29 (fun H locs hst => ?_)
          refine lv_iinc (v := nI (j + 1)) (lv' := [(2, .int (nI (j + 1))), (0, .ref (ad b)), (1, .int (nI i))]) hx hb dX2_clear_30 hl (k := 2) rfl (nI_1 j) (by decide) rfl (fun ls hl => ?_)
          refine lv_goto (tgt := 16) hx hb dX2_clear_33 (by decide) ?_
          exact ih_lp1 (j + 1) (by omega) _ _ hst ls (lv_sub hl [1, 2, 0] rfl)
      exact lp1 3 0 (by omega) _ _ hst ls (lv_sub hl [1, 2, 0] rfl)
  exact lp0 3 0 (by omega) _ _ hst ls (lv_sub hl [1, 0] rfl)

set_option maxHeartbeats 4000000 in
set_option maxRecDepth 100000 in
theorem k_X2_add {l : Launch} {D : va_G} {cy ad : Nat → Nat} {I : Im} {G : Dm} {J : Jm} (hadI : adI ad) {b : Nat} (hf : b = 34 ∨ b = 41) {c : Nat} (hc : 2 ≤ c ∧ c < 34) : kD l yX2_add (.code yX2_add cX2_add 4 none) (rmK 2 0 0 41) D cy ad [.ref (ad b), .ref (ad c)] I G J (qV D cy ad I (ad0 b I c G 3) J) := by
  refine start_D hadI (by decide +kernel) (Nat.le_of_ble_eq_true rfl) ?_
  intro p e s m below meth cd am hx hb hr hlk hst ls hl d0 hd
  have hl : lv_has ls 4 [(0, .ref (ad b)), (1, .ref (ad c))] := hl
  refine lv_iconst (v := 0) hx hb dX2_add_0 (by decide) ?_
  refine lv_istore_n (lv' := [(2, .int 0), (0, .ref (ad b)), (1, .ref (ad c))]) hx hb dX2_add_1 rfl hl (by decide) rfl (fun ls hl => ?_)
  have lp0 : ∀ (n i : Nat), n + i = 3 → ∀ d0 : Drawn, s.drawn.sameBut d0 lw_cs → ∀ (H : Heap) (locs : List Loc), St D cy ad s.heap I (ad0 b I c G i) J H locs → ∀ ls, lv_has ls 4 [(0, .ref (ad b)), (1, .ref (ad c)), (2, .int (nI i))] → W p l e (rmK 2 0 0 41) (s.setDrawn d0) m [.ref (ad b), .ref (ad c)].toArray below meth cd H locs 0 0 (MQD lw_cs below (qV D cy ad I (ad0 b I c G 3) J s.heap.size) [.ref (ad b), .ref (ad c)].toArray s ((rmK 2 0 0 41)).cells ((rmK 2 0 0 41)).slots (aA ad s.heap.size)) (F0 m 2 ls []) := by
    intro n
    induction n with
    | zero =>
      intro i hi d0 hd H locs hst ls hl
      obtain rfl : 3 = i := by omega
      refine lv_iload_n hx hb dX2_add_2 rfl (lv_at hl 2 rfl) ?_
      refine lv_iconst (v := 3) hx hb dX2_add_3 (by decide) ?_
      refine lv_icmp_ge (tgt := 77) hx hb dX2_add_4 (by decide) (fun c_4 => ?_) (fun c_4 => absurd ((show (3 : Int32) ≤ nI 3 by decide)) c_4)
      exact e_vD hd hx hb hr hlk hst dX2_add_77
    | succ n ih_lp0 =>
      intro i hi d0 hd H locs hst ls hl
      refine lv_iload_n hx hb dX2_add_2 rfl (lv_at hl 2 rfl) ?_
      refine lv_iconst (v := 3) hx hb dX2_add_3 (by decide) ?_
      refine lv_icmp_ge (tgt := 77) hx hb dX2_add_4 (by decide) (fun c_4 => absurd c_4 ((nI_ge (b := 3) (by omega) (by decide)))) (fun c_4 => ?_)
      refine lv_aload_n hx hb dX2_add_7 rfl (lv_at hl 0 rfl) ?_
      refine w_getR am hst (k := 1) (b := ad (b + 5)) (by omega) (fun _ _ _ => cE_F hf) rfl inT2 (by decide) (fun _ _ _ => rfl) fRX2_16 dX2_add_8 ?_
      refine lv_iload_n hx hb dX2_add_11 rfl (lv_at hl 2 rfl) ?_
      refine lv_aload_n hx hb dX2_add_12 rfl (lv_at hl 0 rfl) ?_
      refine w_getR am hst (k := 1) (b := ad (b + 5)) (by omega) (fun _ _ _ => cE_F hf) rfl inT2 (by decide) (fun _ _ _ => rfl) fRX2_16 dX2_add_13 ?_
      refine lv_iload_n hx hb dX2_add_16 rfl (lv_at hl 2 rfl) ?_
      refine w_dald am hst (by omega) (fun _ _ _ => cE_F5 hf) (n := i) (nI_clamp (by omega)) (vp_in_nI (by omega) (by decide)) dX2_add_17 (fun x1 hx1 => ?_)
      refine lv_aload_n hx hb dX2_add_18 rfl (lv_at hl 1 rfl) ?_
      refine lv_iload_n hx hb dX2_add_19 rfl (lv_at hl 2 rfl) ?_
      refine c_dD hd hst (r_ND (As := [.int (nI i)]) (rest := [.double x1, .int (nI i), .ref (ad (b + 5))]) am hst hl (k_X0_term hadI hc (i := i) (by omega)) kRX2_43 imX0_term slX0_term ⟨Nat.le_of_ble_eq_true rfl, Nat.le_of_ble_eq_true rfl⟩ (by omega) (fun _ _ _ => cE_B hc) rfl rfl rfl (Nat.le_of_ble_eq_true rfl) dX2_add_20 ⟨Nat.le_of_ble_eq_true rfl, Nat.le_of_ble_eq_true rfl⟩) (fun x2 d0 H locs hx2 hd hst => ?_)
      refine lv_aload_n hx hb dX2_add_23 rfl (lv_at hl 1 rfl) ?_
      refine w_getDN am hst (k := 4) (by omega) (fun _ _ _ => cE_B hc) rfl inT0 (by decide) (fun _ _ _ => rfl) fRX2_47 dX2_add_24 (fun x3 hx3 => ?_)
      refine w_dmul hd hx hb hx2 hx3 dX2_add_27 (fun x4 d0 hx4 hd => ?_)
      refine w_dadd hd hx hb hx1 hx4 dX2_add_28 (fun x5 d0 hx5 hd => ?_)
      refine w_dast am hst hx5 (by omega) (fun _ _ _ => cE_F5 hf) (n := i) (nI_clamp (by omega)) (vp_in_nI (by omega) (by decide)) dX2_add_29 (fun H locs hst => ?_)
      refine lv_iconst (v := 0) hx hb dX2_add_30 (by decide) ?_
      refine lv_istore_n (lv' := [(3, .int 0), (0, .ref (ad b)), (1, .ref (ad c)), (2, .int (nI i))]) hx hb dX2_add_31 rfl hl (by decide) rfl (fun ls hl => ?_)
      have lp1 : ∀ (n j : Nat), n + j = 3 → ∀ d0 : Drawn, s.drawn.sameBut d0 lw_cs → ∀ (H : Heap) (locs : List Loc), St D cy ad s.heap I (ad1 b I c i (u2 (ad0 b I c G i) (b + 5) i (Ad (ad0 b I c G i (b + 5) i) (Mu (dTerm I (ad0 b I c G i) c i) (ad0 b I c G i c 4)))) j) J H locs → ∀ ls, lv_has ls 4 [(0, .ref (ad b)), (1, .ref (ad c)), (2, .int (nI i)), (3, .int (nI j))] → W p l e (rmK 2 0 0 41) (s.setDrawn d0) m [.ref (ad b), .ref (ad c)].toArray below meth cd H locs 0 0 (MQD lw_cs below (qV D cy ad I (ad0 b I c G 3) J s.heap.size) [.ref (ad b), .ref (ad c)].toArray s ((rmK 2 0 0 41)).cells ((rmK 2 0 0 41)).slots (aA ad s.heap.size)) (F0 m 32 ls []) := by
        intro n
        induction n with
        | zero =>
          intro j hi d0 hd H locs hst ls hl
          obtain rfl : 3 = j := by omega
          refine lv_iload_n hx hb dX2_add_32 rfl (lv_at hl 3 rfl) ?_
          refine lv_iconst (v := 3) hx hb dX2_add_33 (by decide) ?_
          refine lv_icmp_ge (tgt := 71) hx hb dX2_add_34 (by decide) (fun c_34 => ?_) (fun c_34 => absurd ((show (3 : Int32) ≤ nI 3 by decide)) c_34)
          refine lv_iinc (v := nI (i + 1)) (lv' := [(2, .int (nI (i + 1))), (0, .ref (ad b)), (1, .ref (ad c)), (3, .int (nI 3))]) hx hb dX2_add_71 hl (k := 2) rfl (nI_1 i) (by decide) rfl (fun ls hl => ?_)
          refine lv_goto (tgt := 2) hx hb dX2_add_74 (by decide) ?_
          exact ih_lp0 (i + 1) (by omega) d0 hd _ _ hst ls (lv_sub hl [1, 2, 0] rfl)
        | succ n ih_lp1 =>
          intro j hi d0 hd H locs hst ls hl
          refine lv_iload_n hx hb dX2_add_32 rfl (lv_at hl 3 rfl) ?_
          refine lv_iconst (v := 3) hx hb dX2_add_33 (by decide) ?_
          refine lv_icmp_ge (tgt := 71) hx hb dX2_add_34 (by decide) (fun c_34 => absurd c_34 ((nI_ge (b := 3) (by omega) (by decide)))) (fun c_34 => ?_)
          refine lv_aload_n hx hb dX2_add_37 rfl (lv_at hl 0 rfl) ?_
          refine w_getR am hst (k := 0) (b := ad (b + 1)) (by omega) (fun _ _ _ => cE_F hf) rfl inT2 (by decide) (fun _ _ _ => rfl) fRX2_11 dX2_add_38 ?_
          refine lv_iload_n hx hb dX2_add_41 rfl (lv_at hl 2 rfl) ?_
          refine w_aldA am hst hf (n := i) (nI_clamp (by omega)) (vp_in_nI (by omega) (by decide)) dX2_add_42 ?_
          refine lv_iload_n hx hb dX2_add_43 rfl (lv_at hl 3 rfl) ?_
          refine lv_aload_n hx hb dX2_add_44 rfl (lv_at hl 0 rfl) ?_
          refine w_getR am hst (k := 0) (b := ad (b + 1)) (by omega) (fun _ _ _ => cE_F hf) rfl inT2 (by decide) (fun _ _ _ => rfl) fRX2_11 dX2_add_45 ?_
          refine lv_iload_n hx hb dX2_add_48 rfl (lv_at hl 2 rfl) ?_
          refine w_aldA am hst hf (n := i) (nI_clamp (by omega)) (vp_in_nI (by omega) (by decide)) dX2_add_49 ?_
          refine lv_iload_n hx hb dX2_add_50 rfl (lv_at hl 3 rfl) ?_
          refine w_dald am hst (by omega) (fun _ _ _ => cE_Fr hf (by omega)) (n := j) (nI_clamp (by omega)) (vp_in_nI (by omega) (by decide)) dX2_add_51 (fun x6 hx6 => ?_)
          refine lv_aload_n hx hb dX2_add_52 rfl (lv_at hl 1 rfl) ?_
          refine lv_iload_n hx hb dX2_add_53 rfl (lv_at hl 2 rfl) ?_
          refine c_dD hd hst (r_ND (As := [.int (nI i)]) (rest := [.double x6, .int (nI j), .ref (ad (b + 1 + 1 + i))]) am hst hl (k_X0_term hadI hc (i := i) (by omega)) kRX2_43 imX0_term slX0_term ⟨Nat.le_of_ble_eq_true rfl, Nat.le_of_ble_eq_true rfl⟩ (by omega) (fun _ _ _ => cE_B hc) rfl rfl rfl (Nat.le_of_ble_eq_true rfl) dX2_add_54 ⟨Nat.le_of_ble_eq_true rfl, Nat.le_of_ble_eq_true rfl⟩) (fun x7 d0 H locs hx7 hd hst => ?_)
          refine lv_aload_n hx hb dX2_add_57 rfl (lv_at hl 1 rfl) ?_
          refine lv_iload_n hx hb dX2_add_58 rfl (lv_at hl 3 rfl) ?_
          refine c_dD hd hst (r_ND (As := [.int (nI j)]) (rest := [.double x7, .double x6, .int (nI j), .ref (ad (b + 1 + 1 + i))]) am hst hl (k_X0_term hadI hc (i := j) (by omega)) kRX2_43 imX0_term slX0_term ⟨Nat.le_of_ble_eq_true rfl, Nat.le_of_ble_eq_true rfl⟩ (by omega) (fun _ _ _ => cE_B hc) rfl rfl rfl (Nat.le_of_ble_eq_true rfl) dX2_add_59 ⟨Nat.le_of_ble_eq_true rfl, Nat.le_of_ble_eq_true rfl⟩) (fun x8 d0 H locs hx8 hd hst => ?_)
          refine w_dmul hd hx hb hx7 hx8 dX2_add_62 (fun x9 d0 hx9 hd => ?_)
          refine w_dadd hd hx hb hx6 hx9 dX2_add_63 (fun x10 d0 hx10 hd => ?_)
          refine w_dast am hst hx10 (by omega) (fun _ _ _ => cE_Fr hf (by omega)) (n := j) (nI_clamp (by omega)) (vp_in_nI (by omega) (by decide)) dX2_add_64 (fun H locs hst => ?_)
          refine lv_iinc (v := nI (j + 1)) (lv' := [(3, .int (nI (j + 1))), (0, .ref (ad b)), (1, .ref (ad c)), (2, .int (nI i))]) hx hb dX2_add_65 hl (k := 3) rfl (nI_1 j) (by decide) rfl (fun ls hl => ?_)
          refine lv_goto (tgt := 32) hx hb dX2_add_68 (by decide) ?_
          exact ih_lp1 (j + 1) (by omega) d0 hd _ _ hst ls (lv_sub hl [1, 2, 3, 0] rfl)
      exact lp1 3 0 (by omega) d0 hd _ _ hst ls (lv_sub hl [1, 2, 3, 0] rfl)
  exact lp0 3 0 (by omega) d0 hd _ _ hst ls (lv_sub hl [1, 2, 0] rfl)

set_option maxHeartbeats 4000000 in
set_option maxRecDepth 100000 in
theorem k_X2_isPassedOver {l : Launch} {D : va_G} {cy ad : Nat → Nat} {I : Im} {G : Dm} {J : Jm} (hadI : adI ad) {b : Nat} (hf : b = 34 ∨ b = 41) {k : Nat} (hk : k < 3) : kM l yX2_isPassedOver (.code yX2_isPassedOver cX2_isPassedOver 6 (some .boolean)) (rmK 0 0 0 0) D cy ad [.ref (ad b), .int (nI k)] I G J (qI D cy ad (zB (pvO (G (b + 1 + 1 + k) k))) I G J) := by
  refine start_M hadI (by decide +kernel) (Nat.le_of_ble_eq_true rfl) ?_
  intro p e s m below meth cd am hx hb hr hlk hst ls hl
  have hl : lv_has ls 6 [(0, .ref (ad b)), (1, .int (nI k))] := hl
  refine lv_aload_n hx hb dX2_isPassedOver_0 rfl (lv_at hl 0 rfl) ?_
  refine w_getR am hst (k := 0) (b := ad (b + 1)) (by omega) (fun _ _ _ => cE_F hf) rfl inT2 (by decide) (fun _ _ _ => rfl) fRX2_11 dX2_isPassedOver_1 ?_
  refine lv_iload_n hx hb dX2_isPassedOver_4 rfl (lv_at hl 1 rfl) ?_
  refine w_aldA am hst hf (n := k) (nI_clamp (by omega)) (vp_in_nI (by omega) (by decide)) dX2_isPassedOver_5 ?_
  refine lv_iload_n hx hb dX2_isPassedOver_6 rfl (lv_at hl 1 rfl) ?_
  refine w_dald am hst (by omega) (fun _ _ _ => cE_Fr hf (by omega)) (n := k) (nI_clamp (by omega)) (vp_in_nI (by omega) (by decide)) dX2_isPassedOver_7 (fun x1 hx1 => ?_)
  refine lv_dstore_n (lv' := [(2, .double x1), (0, .ref (ad b)), (1, .int (nI k))]) hx hb dX2_isPassedOver_8 rfl hl (by decide) rfl (fun ls hl => ?_)
  refine lv_dload_n hx hb dX2_isPassedOver_9 rfl (lv_at hl 0 rfl) ?_
  refine lv_dconst0 hx hb dX2_isPassedOver_10 ?_
  refine w_dcmp hx hb hx1 cn_k0 dX2_isPassedOver_11 ?_
  refine lv_if_ge (tgt := 20) hx hb dX2_isPassedOver_12 (by decide) (fun c_12 => ?_) (fun c_12 => ?_)
  · skip
    refine lv_dload_n hx hb dX2_isPassedOver_20 rfl (lv_at hl 0 rfl) ?_
    refine lv_dstore (lv' := [(4, .double x1), (2, .double x1), (0, .ref (ad b)), (1, .int (nI k))]) hx hb dX2_isPassedOver_21 hl (by decide) rfl (fun ls hl => ?_)
    refine lv_dload hx hb dX2_isPassedOver_23 (lv_at hl 0 rfl) ?_
    refine lv_ldc2d hx hb am.2.2.2.1 (amT am _ wRX2_59) dX2_isPassedOver_25 ?_
    refine w_dcmp hx hb hx1 cn_k4517110426252607488 dX2_isPassedOver_28 ?_
    refine lv_if_ge (tgt := 36) hx hb dX2_isPassedOver_29 (by decide) (fun c_29 => ?_) (fun c_29 => ?_)
    · skip
      refine lv_iconst (v := 0) hx hb dX2_isPassedOver_36 (by decide) ?_
      exact e_i hx hb hr hlk hst rfl (by simp only [pvO, pvS, zB, c_12, c_29, not_true_eq_false, not_false_eq_true, decide_true, decide_false, Bool.true_and, Bool.false_and, Bool.and_true, Bool.and_false, Bool.and_self, if_true, if_false, ite_true, ite_false, reduceIte, Bool.false_eq_true]) dX2_isPassedOver_37
    · skip
      refine lv_iconst (v := 1) hx hb dX2_isPassedOver_32 (by decide) ?_
      refine lv_goto (tgt := 37) hx hb dX2_isPassedOver_33 (by decide) ?_
      exact e_i hx hb hr hlk hst rfl (by simp only [pvO, pvS, zB, c_12, c_29, not_true_eq_false, not_false_eq_true, decide_true, decide_false, Bool.true_and, Bool.false_and, Bool.and_true, Bool.and_false, Bool.and_self, if_true, if_false, ite_true, ite_false, reduceIte, Bool.false_eq_true]) dX2_isPassedOver_37
  · skip
    refine lv_dload_n hx hb dX2_isPassedOver_15 rfl (lv_at hl 0 rfl) ?_
    refine w_dneg hx hb hx1 dX2_isPassedOver_16 (fun x2 hx2 => ?_)
    refine lv_goto (tgt := 21) hx hb dX2_isPassedOver_17 (by decide) ?_
    refine lv_dstore (lv' := [(4, .double x2), (2, .double x1), (0, .ref (ad b)), (1, .int (nI k))]) hx hb dX2_isPassedOver_21 hl (by decide) rfl (fun ls hl => ?_)
    refine lv_dload hx hb dX2_isPassedOver_23 (lv_at hl 0 rfl) ?_
    refine lv_ldc2d hx hb am.2.2.2.1 (amT am _ wRX2_59) dX2_isPassedOver_25 ?_
    refine w_dcmp hx hb hx2 cn_k4517110426252607488 dX2_isPassedOver_28 ?_
    refine lv_if_ge (tgt := 36) hx hb dX2_isPassedOver_29 (by decide) (fun c_29 => ?_) (fun c_29 => ?_)
    · skip
      refine lv_iconst (v := 0) hx hb dX2_isPassedOver_36 (by decide) ?_
      exact e_i hx hb hr hlk hst rfl (by simp only [pvO, pvS, zB, c_12, c_29, not_true_eq_false, not_false_eq_true, decide_true, decide_false, Bool.true_and, Bool.false_and, Bool.and_true, Bool.and_false, Bool.and_self, if_true, if_false, ite_true, ite_false, reduceIte, Bool.false_eq_true]) dX2_isPassedOver_37
    · skip
      refine lv_iconst (v := 1) hx hb dX2_isPassedOver_32 (by decide) ?_
      refine lv_goto (tgt := 37) hx hb dX2_isPassedOver_33 (by decide) ?_
      exact e_i hx hb hr hlk hst rfl (by simp only [pvO, pvS, zB, c_12, c_29, not_true_eq_false, not_false_eq_true, decide_true, decide_false, Bool.true_and, Bool.false_and, Bool.and_true, Bool.and_false, Bool.and_self, if_true, if_false, ite_true, ite_false, reduceIte, Bool.false_eq_true]) dX2_isPassedOver_37

set_option maxHeartbeats 4000000 in
set_option maxRecDepth 100000 in
theorem k_X2_lessen {l : Launch} {D : va_G} {cy ad : Nat → Nat} {I : Im} {G : Dm} {J : Jm} (hadI : adI ad) {b : Nat} (hf : b = 34 ∨ b = 41) {r c : Nat} {y f : UInt64} (hr3 : r < 3) (hc3 : c < 3) (hy : cn y = f) : kD l yX2_lessen (.code yX2_lessen cX2_lessen 6 none) (rmK 0 0 0 0) D cy ad [.ref (ad b), .int (nI r), .int (nI c), .double y] I G J (qV D cy ad I (le0 b r c f G) J) := by
  refine start_D hadI (by decide +kernel) (Nat.le_of_ble_eq_true rfl) ?_
  intro p e s m below meth cd am hx hb hr hlk hst ls hl d0 hd
  have hl : lv_has ls 6 [(0, .ref (ad b)), (1, .int (nI r)), (2, .int (nI c)), (3, .double y)] := hl
  refine lv_iload_n hx hb dX2_lessen_0 rfl (lv_at hl 2 rfl) ?_
  refine lv_istore (lv' := [(5, .int (nI c)), (0, .ref (ad b)), (1, .int (nI r)), (2, .int (nI c)), (3, .double y)]) hx hb dX2_lessen_1 hl (by decide) rfl (fun ls hl => ?_)
  have lp0 : ∀ (n k : Nat), n + k = 3 - c → ∀ d0 : Drawn, s.drawn.sameBut d0 lw_cs → ∀ (H : Heap) (locs : List Loc), St D cy ad s.heap I (le1 b r c f G k) J H locs → ∀ ls, lv_has ls 6 [(0, .ref (ad b)), (1, .int (nI r)), (2, .int (nI c)), (3, .double y), (5, .int (nI (c + (k))))] → W p l e (rmK 0 0 0 0) (s.setDrawn d0) m [.ref (ad b), .int (nI r), .int (nI c), .double y].toArray below meth cd H locs 0 0 (MQD lw_cs below (qV D cy ad I (le0 b r c f G) J s.heap.size) [.ref (ad b), .int (nI r), .int (nI c), .double y].toArray s ((rmK 0 0 0 0)).cells ((rmK 0 0 0 0)).slots (aA ad s.heap.size)) (F0 m 3 ls []) := by
    intro n
    induction n with
    | zero =>
      intro k hi d0 hd H locs hst ls hl
      obtain rfl : 3 - c = k := by omega
      refine lv_iload hx hb dX2_lessen_3 (lv_at hl 4 rfl) ?_
      refine lv_iconst (v := 3) hx hb dX2_lessen_5 (by decide) ?_
      refine lv_icmp_ge (tgt := 45) hx hb dX2_lessen_6 (by decide) (fun c_6 => ?_) (fun c_6 => absurd ((show (3 : Int32) ≤ nI (c + (3 - c)) by rw [show c + (3 - c) = 3 by omega]; decide)) c_6)
      refine lv_aload_n hx hb dX2_lessen_45 rfl (lv_at hl 0 rfl) ?_
      refine w_getR am hst (k := 1) (b := ad (b + 5)) (by omega) (fun _ _ _ => cE_F hf) rfl inT2 (by decide) (fun _ _ _ => rfl) fRX2_16 dX2_lessen_46 ?_
      refine lv_iload_n hx hb dX2_lessen_49 rfl (lv_at hl 1 rfl) ?_
      refine lv_aload_n hx hb dX2_lessen_50 rfl (lv_at hl 0 rfl) ?_
      refine w_getR am hst (k := 1) (b := ad (b + 5)) (by omega) (fun _ _ _ => cE_F hf) rfl inT2 (by decide) (fun _ _ _ => rfl) fRX2_16 dX2_lessen_51 ?_
      refine lv_iload_n hx hb dX2_lessen_54 rfl (lv_at hl 1 rfl) ?_
      refine w_dald am hst (by omega) (fun _ _ _ => cE_F5 hf) (n := r) (nI_clamp (by omega)) (vp_in_nI (by omega) (by decide)) dX2_lessen_55 (fun x1 hx1 => ?_)
      refine lv_dload_n hx hb dX2_lessen_56 rfl (lv_at hl 3 rfl) ?_
      refine lv_aload_n hx hb dX2_lessen_57 rfl (lv_at hl 0 rfl) ?_
      refine w_getR am hst (k := 1) (b := ad (b + 5)) (by omega) (fun _ _ _ => cE_F hf) rfl inT2 (by decide) (fun _ _ _ => rfl) fRX2_16 dX2_lessen_58 ?_
      refine lv_iload_n hx hb dX2_lessen_61 rfl (lv_at hl 2 rfl) ?_
      refine w_dald am hst (by omega) (fun _ _ _ => cE_F5 hf) (n := c) (nI_clamp (by omega)) (vp_in_nI (by omega) (by decide)) dX2_lessen_62 (fun x2 hx2 => ?_)
      refine w_dmul hd hx hb hy hx2 dX2_lessen_63 (fun x3 d0 hx3 hd => ?_)
      refine w_dsub hd hx hb hx1 hx3 dX2_lessen_64 (fun x4 d0 hx4 hd => ?_)
      refine w_dast am hst hx4 (by omega) (fun _ _ _ => cE_F5 hf) (n := r) (nI_clamp (by omega)) (vp_in_nI (by omega) (by decide)) dX2_lessen_65 (fun H locs hst => ?_)
      exact e_vD hd hx hb hr hlk hst dX2_lessen_66
    | succ n ih_lp0 =>
      intro k hi d0 hd H locs hst ls hl
      refine lv_iload hx hb dX2_lessen_3 (lv_at hl 4 rfl) ?_
      refine lv_iconst (v := 3) hx hb dX2_lessen_5 (by decide) ?_
      refine lv_icmp_ge (tgt := 45) hx hb dX2_lessen_6 (by decide) (fun c_6 => absurd c_6 ((nI_ge (b := 3) (by omega) (by decide)))) (fun c_6 => ?_)
      refine lv_aload_n hx hb dX2_lessen_9 rfl (lv_at hl 0 rfl) ?_
      refine w_getR am hst (k := 0) (b := ad (b + 1)) (by omega) (fun _ _ _ => cE_F hf) rfl inT2 (by decide) (fun _ _ _ => rfl) fRX2_11 dX2_lessen_10 ?_
      refine lv_iload_n hx hb dX2_lessen_13 rfl (lv_at hl 1 rfl) ?_
      refine w_aldA am hst hf (n := r) (nI_clamp (by omega)) (vp_in_nI (by omega) (by decide)) dX2_lessen_14 ?_
      refine lv_iload hx hb dX2_lessen_15 (lv_at hl 4 rfl) ?_
      refine lv_aload_n hx hb dX2_lessen_17 rfl (lv_at hl 0 rfl) ?_
      refine w_getR am hst (k := 0) (b := ad (b + 1)) (by omega) (fun _ _ _ => cE_F hf) rfl inT2 (by decide) (fun _ _ _ => rfl) fRX2_11 dX2_lessen_18 ?_
      refine lv_iload_n hx hb dX2_lessen_21 rfl (lv_at hl 1 rfl) ?_
      refine w_aldA am hst hf (n := r) (nI_clamp (by omega)) (vp_in_nI (by omega) (by decide)) dX2_lessen_22 ?_
      refine lv_iload hx hb dX2_lessen_23 (lv_at hl 4 rfl) ?_
      refine w_dald am hst (by omega) (fun _ _ _ => cE_Fr hf (by omega)) (n := c + (k)) (nI_clamp (by omega)) (vp_in_nI (by omega) (by decide)) dX2_lessen_25 (fun x5 hx5 => ?_)
      refine lv_dload_n hx hb dX2_lessen_26 rfl (lv_at hl 3 rfl) ?_
      refine lv_aload_n hx hb dX2_lessen_27 rfl (lv_at hl 0 rfl) ?_
      refine w_getR am hst (k := 0) (b := ad (b + 1)) (by omega) (fun _ _ _ => cE_F hf) rfl inT2 (by decide) (fun _ _ _ => rfl) fRX2_11 dX2_lessen_28 ?_
      refine lv_iload_n hx hb dX2_lessen_31 rfl (lv_at hl 2 rfl) ?_
      refine w_aldA am hst hf (n := c) (nI_clamp (by omega)) (vp_in_nI (by omega) (by decide)) dX2_lessen_32 ?_
      refine lv_iload hx hb dX2_lessen_33 (lv_at hl 4 rfl) ?_
      refine w_dald am hst (by omega) (fun _ _ _ => cE_Fr hf (by omega)) (n := c + (k)) (nI_clamp (by omega)) (vp_in_nI (by omega) (by decide)) dX2_lessen_35 (fun x6 hx6 => ?_)
      refine w_dmul hd hx hb hy hx6 dX2_lessen_36 (fun x7 d0 hx7 hd => ?_)
      refine w_dsub hd hx hb hx5 hx7 dX2_lessen_37 (fun x8 d0 hx8 hd => ?_)
      refine w_dast am hst hx8 (by omega) (fun _ _ _ => cE_Fr hf (by omega)) (n := c + (k)) (nI_clamp (by omega)) (vp_in_nI (by omega) (by decide)) dX2_lessen_38 (fun H locs hst => ?_)
      refine lv_iinc (v := nI (c + (k) + 1)) (lv' := [(5, .int (nI (c + (k) + 1))), (0, .ref (ad b)), (1, .int (nI r)), (2, .int (nI c)), (3, .double y)]) hx hb dX2_lessen_39 hl (k := 4) rfl (nI_1 (c + (k))) (by decide) rfl (fun ls hl => ?_)
      refine lv_goto (tgt := 3) hx hb dX2_lessen_42 (by decide) ?_
      exact ih_lp0 (k + 1) (by omega) d0 hd _ _ hst ls (lv_sub hl [1, 2, 3, 4, 0] rfl)
  exact lp0 (3 - c) 0 (by omega) d0 hd _ _ hst ls (lv_sub hl [1, 2, 3, 4, 0] rfl)
end
section
/-! a fit: elimination, the numbers, a fit over the boards, what it foretells -/
def rk1 (b : Nat) (I : Im) (sk : Nat → Bool) (G : Dm) : Nat → Dm | 0 => cl0 b G 3 | i + 1 => if (bFit I (rk1 b I sk G i) (2 + i) && !(sk i)) = true then ad0 b I (2 + i) (rk1 b I sk G i) 3 else rk1 b I sk G i
def rkR (b : Nat) (I : Im) (sk : Nat → Bool) (G : Dm) : Nat := elR b (rk1 b I sk G 32) 3
def rkG (b : Nat) (I : Im) (sk : Nat → Bool) (G : Dm) : Dm := su0 b (el0 b (rk1 b I sk G 32) 3) 3
def fore (b : Nat) (I : Im) (G : Dm) (c : Nat) : UInt64 := Ad (Ad (Mu (G (b + 6) 0) (dTerm I G c 0)) (Mu (G (b + 6) 1) (dTerm I G c 1))) (Mu (G (b + 6) 2) (dTerm I G c 2))
def sk0 : Nat → Bool := fun _ => false
def sk1 (w : Nat) : Nat → Bool := fun i => decide (i = w)
set_option maxHeartbeats 4000000 in
set_option maxRecDepth 100000 in
theorem k_X2_eliminate {l : Launch} {D : va_G} {cy ad : Nat → Nat} {I : Im} {G : Dm} {J : Jm} (hadI : adI ad) {b : Nat} (hf : b = 34 ∨ b = 41) : kD l yX2_eliminate (.code yX2_eliminate cX2_eliminate 4 (some .int)) (rmK 1 0 0 25) D cy ad [.ref (ad b)] I G J (qI D cy ad (nI (elR b G 3)) I (el0 b G 3) J) := by
  refine start_D hadI (by decide +kernel) (Nat.le_of_ble_eq_true rfl) ?_
  intro p e s m below meth cd am hx hb hr hlk hst ls hl d0 hd
  have hl : lv_has ls 4 [(0, .ref (ad b))] := hl
  refine lv_iconst (v := 0) hx hb dX2_eliminate_0 (by decide) ?_
  refine lv_istore_n (lv' := [(1, .int 0), (0, .ref (ad b))]) hx hb dX2_eliminate_1 rfl hl (by decide) rfl (fun ls hl => ?_)
  refine lv_iconst (v := 0) hx hb dX2_eliminate_2 (by decide) ?_
  refine lv_istore_n (lv' := [(2, .int 0), (1, .int 0), (0, .ref (ad b))]) hx hb dX2_eliminate_3 rfl hl (by decide) rfl (fun ls hl => ?_)
  have lp0 : ∀ (n c : Nat), n + c = 3 → ∀ d0 : Drawn, s.drawn.sameBut d0 lw_cs → ∀ (H : Heap) (locs : List Loc), St D cy ad s.heap I (el0 b G c) J H locs → ∀ ls, lv_has ls 4 [(0, .ref (ad b)), (1, .int (nI (elR b G c))), (2, .int (nI c))] → W p l e (rmK 1 0 0 25) (s.setDrawn d0) m [.ref (ad b)].toArray below meth cd H locs 0 0 (MQD lw_cs below (qI D cy ad (nI (elR b G 3)) I (el0 b G 3) J s.heap.size) [.ref (ad b)].toArray s ((rmK 1 0 0 25)).cells ((rmK 1 0 0 25)).slots (aA ad s.heap.size)) (F0 m 4 ls []) := by
    intro n
    induction n with
    | zero =>
      intro c hi d0 hd H locs hst ls hl
      obtain rfl : 3 = c := by omega
      refine lv_iload_n hx hb dX2_eliminate_4 rfl (lv_at hl 2 rfl) ?_
      refine lv_iconst (v := 3) hx hb dX2_eliminate_5 (by decide) ?_
      refine lv_icmp_ge (tgt := 64) hx hb dX2_eliminate_6 (by decide) (fun c_6 => ?_) (fun c_6 => absurd ((show (3 : Int32) ≤ nI 3 by decide)) c_6)
      refine lv_iload_n hx hb dX2_eliminate_64 rfl (lv_at hl 1 rfl) ?_
      exact e_iD hd hx hb hr hlk hst rfl rfl dX2_eliminate_65
    | succ n ih_lp0 =>
      intro c hi d0 hd H locs hst ls hl
      refine lv_iload_n hx hb dX2_eliminate_4 rfl (lv_at hl 2 rfl) ?_
      refine lv_iconst (v := 3) hx hb dX2_eliminate_5 (by decide) ?_
      refine lv_icmp_ge (tgt := 64) hx hb dX2_eliminate_6 (by decide) (fun c_6 => absurd c_6 ((nI_ge (b := 3) (by omega) (by decide)))) (fun c_6 => ?_)
      refine lv_aload_n hx hb dX2_eliminate_9 rfl (lv_at hl 0 rfl) ?_
      refine lv_iload_n hx hb dX2_eliminate_10 rfl (lv_at hl 2 rfl) ?_
      refine c_i hst (r_V (As := [.int (nI c)]) (rest := []) am hst hl (k_X2_isPassedOver hadI hf (k := c) (by omega)) kRX2_51 imX2_isPassedOver slX2_isPassedOver ⟨Nat.le_of_ble_eq_true rfl, Nat.le_of_ble_eq_true rfl⟩ (by omega) (fun _ _ _ => cE_F hf) rfl rfl rfl (Nat.le_of_ble_eq_true rfl) dX2_eliminate_11 ⟨Nat.le_of_ble_eq_true rfl, Nat.le_of_ble_eq_true rfl⟩) (fun H locs hst => ?_)
      refine lv_if_ne (tgt := 58) hx hb dX2_eliminate_14 (by decide) (fun c_14 => ?_) (fun c_14 => ?_)
      · skip
        refine lv_iinc (v := nI (c + 1)) (lv' := [(2, .int (nI (c + 1))), (0, .ref (ad b)), (1, .int (nI (elR b G c)))]) hx hb dX2_eliminate_58 hl (k := 2) rfl (nI_1 c) (by decide) rfl (fun ls hl => ?_)
        refine lv_goto (tgt := 4) hx hb dX2_eliminate_61 (by decide) ?_
        have ih2 := ih_lp0 (c + 1) (by omega) d0 hd
        rw [show el0 b G (c + 1) = el0 b G c from if_pos (zB_n0.mp c_14), show elR b G (c + 1) = elR b G c from if_pos (zB_n0.mp c_14)] at ih2
        exact ih2 _ _ hst ls (lv_sub hl [1, 2, 0] rfl)
      · skip
        refine lv_iinc (v := nI (elR b G c + 1)) (lv' := [(1, .int (nI (elR b G c + 1))), (0, .ref (ad b)), (2, .int (nI c))]) hx hb dX2_eliminate_17 hl (k := 1) rfl (nI_1 (elR b G c)) (by decide) rfl (fun ls hl => ?_)
        refine lv_iload_n hx hb dX2_eliminate_20 rfl (lv_at hl 2 rfl) ?_
        refine lv_iconst (v := 1) hx hb dX2_eliminate_21 (by decide) ?_
        refine lv_iadd hx hb dX2_eliminate_22 ?_
        rw [nI_1]
        refine lv_istore_n (lv' := [(3, .int (nI (c + 1))), (1, .int (nI (elR b G c + 1))), (0, .ref (ad b)), (2, .int (nI c))]) hx hb dX2_eliminate_23 rfl hl (by decide) rfl (fun ls hl => ?_)
        have lp1 : ∀ (n k : Nat), n + k = 2 - c → ∀ d0 : Drawn, s.drawn.sameBut d0 lw_cs → ∀ (H : Heap) (locs : List Loc), St D cy ad s.heap I (el1 b c (el0 b G c) k) J H locs → ∀ ls, lv_has ls 4 [(0, .ref (ad b)), (1, .int (nI (elR b G c + 1))), (2, .int (nI c)), (3, .int (nI (c + 1 + (k))))] → W p l e (rmK 1 0 0 25) (s.setDrawn d0) m [.ref (ad b)].toArray below meth cd H locs 0 0 (MQD lw_cs below (qI D cy ad (nI (elR b G 3)) I (el0 b G 3) J s.heap.size) [.ref (ad b)].toArray s ((rmK 1 0 0 25)).cells ((rmK 1 0 0 25)).slots (aA ad s.heap.size)) (F0 m 24 ls []) := by
          intro n
          induction n with
          | zero =>
            intro k hi d0 hd H locs hst ls hl
            obtain rfl : 2 - c = k := by omega
            refine lv_iload_n hx hb dX2_eliminate_24 rfl (lv_at hl 3 rfl) ?_
            refine lv_iconst (v := 3) hx hb dX2_eliminate_25 (by decide) ?_
            refine lv_icmp_ge (tgt := 58) hx hb dX2_eliminate_26 (by decide) (fun c_26 => ?_) (fun c_26 => absurd ((show (3 : Int32) ≤ nI (c + 1 + (2 - c)) by rw [show c + 1 + (2 - c) = 3 by omega]; decide)) c_26)
            refine lv_iinc (v := nI (c + 1)) (lv' := [(2, .int (nI (c + 1))), (0, .ref (ad b)), (1, .int (nI (elR b G c + 1))), (3, .int (nI (c + 1 + (2 - c))))]) hx hb dX2_eliminate_58 hl (k := 2) rfl (nI_1 c) (by decide) rfl (fun ls hl => ?_)
            refine lv_goto (tgt := 4) hx hb dX2_eliminate_61 (by decide) ?_
            have ih2 := ih_lp0 (c + 1) (by omega) d0 hd
            rw [show el0 b G (c + 1) = el1 b c (el0 b G c) (2 - c) from if_neg (fun h => by rw [zB_0.mp c_14] at h; cases h), show elR b G (c + 1) = elR b G c + 1 from if_neg (fun h => by rw [zB_0.mp c_14] at h; cases h)] at ih2
            exact ih2 _ _ hst ls (lv_sub hl [1, 2, 0] rfl)
          | succ n ih_lp1 =>
            intro k hi d0 hd H locs hst ls hl
            refine lv_iload_n hx hb dX2_eliminate_24 rfl (lv_at hl 3 rfl) ?_
            refine lv_iconst (v := 3) hx hb dX2_eliminate_25 (by decide) ?_
            refine lv_icmp_ge (tgt := 58) hx hb dX2_eliminate_26 (by decide) (fun c_26 => absurd c_26 ((nI_ge (b := 3) (by omega) (by decide)))) (fun c_26 => ?_)
            refine lv_aload_n hx hb dX2_eliminate_29 rfl (lv_at hl 0 rfl) ?_
            refine lv_iload_n hx hb dX2_eliminate_30 rfl (lv_at hl 3 rfl) ?_
            refine lv_iload_n hx hb dX2_eliminate_31 rfl (lv_at hl 2 rfl) ?_
            refine lv_aload_n hx hb dX2_eliminate_32 rfl (lv_at hl 0 rfl) ?_
            refine w_getR am hst (k := 0) (b := ad (b + 1)) (by omega) (fun _ _ _ => cE_F hf) rfl inT2 (by decide) (fun _ _ _ => rfl) fRX2_11 dX2_eliminate_33 ?_
            refine lv_iload_n hx hb dX2_eliminate_36 rfl (lv_at hl 3 rfl) ?_
            refine w_aldA am hst hf (n := c + 1 + (k)) (nI_clamp (by omega)) (vp_in_nI (by omega) (by decide)) dX2_eliminate_37 ?_
            refine lv_iload_n hx hb dX2_eliminate_38 rfl (lv_at hl 2 rfl) ?_
            refine w_dald am hst (by omega) (fun _ _ _ => cE_Fr hf (by omega)) (n := c) (nI_clamp (by omega)) (vp_in_nI (by omega) (by decide)) dX2_eliminate_39 (fun x1 hx1 => ?_)
            refine lv_aload_n hx hb dX2_eliminate_40 rfl (lv_at hl 0 rfl) ?_
            refine w_getR am hst (k := 0) (b := ad (b + 1)) (by omega) (fun _ _ _ => cE_F hf) rfl inT2 (by decide) (fun _ _ _ => rfl) fRX2_11 dX2_eliminate_41 ?_
            refine lv_iload_n hx hb dX2_eliminate_44 rfl (lv_at hl 2 rfl) ?_
            refine w_aldA am hst hf (n := c) (nI_clamp (by omega)) (vp_in_nI (by omega) (by decide)) dX2_eliminate_45 ?_
            refine lv_iload_n hx hb dX2_eliminate_46 rfl (lv_at hl 2 rfl) ?_
            refine w_dald am hst (by omega) (fun _ _ _ => cE_Fr hf (by omega)) (n := c) (nI_clamp (by omega)) (vp_in_nI (by omega) (by decide)) dX2_eliminate_47 (fun x2 hx2 => ?_)
            refine w_ddiv hd hx hb hx1 hx2 dX2_eliminate_48 (fun x3 d0 hx3 hd => ?_)
            refine c_vD hd hst (r_VD (As := [.int (nI (c + 1 + (k))), .int (nI c), .double x3]) (rest := []) am hst hl (k_X2_lessen hadI hf (r := c + 1 + (k)) (c := c) (by omega) (by omega) hx3) kRX2_55 imX2_lessen slX2_lessen ⟨Nat.le_of_ble_eq_true rfl, Nat.le_of_ble_eq_true rfl⟩ (by omega) (fun _ _ _ => cE_F hf) rfl rfl rfl (Nat.le_of_ble_eq_true rfl) dX2_eliminate_49 ⟨Nat.le_of_ble_eq_true rfl, Nat.le_of_ble_eq_true rfl⟩) (fun d0 H locs hd hst => ?_)
            refine lv_iinc (v := nI (c + 1 + (k) + 1)) (lv' := [(3, .int (nI (c + 1 + (k) + 1))), (0, .ref (ad b)), (1, .int (nI (elR b G c + 1))), (2, .int (nI c))]) hx hb dX2_eliminate_52 hl (k := 3) rfl (nI_1 (c + 1 + (k))) (by decide) rfl (fun ls hl => ?_)
            refine lv_goto (tgt := 24) hx hb dX2_eliminate_55 (by decide) ?_
            exact ih_lp1 (k + 1) (by omega) d0 hd _ _ hst ls (lv_sub hl [1, 2, 3, 0] rfl)
        exact lp1 (2 - c) 0 (by omega) d0 hd _ _ hst ls (lv_sub hl [2, 1, 3, 0] rfl)
  exact lp0 3 0 (by omega) d0 hd _ _ hst ls (lv_sub hl [2, 1, 0] rfl)

set_option maxHeartbeats 4000000 in
set_option maxRecDepth 100000 in
theorem k_X2_substitute {l : Launch} {D : va_G} {cy ad : Nat → Nat} {I : Im} {G : Dm} {J : Jm} (hadI : adI ad) {b : Nat} (hf : b = 34 ∨ b = 41) : kD l yX2_substitute (.code yX2_substitute cX2_substitute 5 none) (rmK 1 0 0 25) D cy ad [.ref (ad b)] I G J (qV D cy ad I (su0 b G 3) J) := by
  refine start_D hadI (by decide +kernel) (Nat.le_of_ble_eq_true rfl) ?_
  intro p e s m below meth cd am hx hb hr hlk hst ls hl d0 hd
  have hl : lv_has ls 5 [(0, .ref (ad b))] := hl
  refine lv_iconst (v := 2) hx hb dX2_substitute_0 (by decide) ?_
  refine lv_istore_n (lv' := [(1, .int 2), (0, .ref (ad b))]) hx hb dX2_substitute_1 rfl hl (by decide) rfl (fun ls hl => ?_)
  have lp0 : ∀ (n k : Nat), n + k = 3 → ∀ d0 : Drawn, s.drawn.sameBut d0 lw_cs → ∀ (H : Heap) (locs : List Loc), St D cy ad s.heap I (su0 b G k) J H locs → ∀ ls, lv_has ls 5 [(0, .ref (ad b)), (1, .int (nI (3 - k) + (-1)))] → W p l e (rmK 1 0 0 25) (s.setDrawn d0) m [.ref (ad b)].toArray below meth cd H locs 0 0 (MQD lw_cs below (qV D cy ad I (su0 b G 3) J s.heap.size) [.ref (ad b)].toArray s ((rmK 1 0 0 25)).cells ((rmK 1 0 0 25)).slots (aA ad s.heap.size)) (F0 m 2 ls []) := by
    intro n
    induction n with
    | zero =>
      intro k hi d0 hd H locs hst ls hl
      obtain rfl : 3 = k := by omega
      refine lv_iload_n hx hb dX2_substitute_2 rfl (lv_at hl 1 rfl) ?_
      refine lv_if_lt (tgt := 90) hx hb dX2_substitute_3 (by decide) (fun c_3 => ?_) (fun c_3 => absurd ((show nI (3 - 3) + (-1) < 0 by decide)) c_3)
      exact e_vD hd hx hb hr hlk hst dX2_substitute_90
    | succ n ih_lp0 =>
      intro k hi d0 hd H locs hst ls hl
      rw [show nI (3 - k) + (-1) = nI (2 - k) from by rw [show 3 - k = (2 - k) + 1 by omega]; exact pk_m1 _] at hl
      refine lv_iload_n hx hb dX2_substitute_2 rfl (lv_at hl 1 rfl) ?_
      refine lv_if_lt (tgt := 90) hx hb dX2_substitute_3 (by decide) (fun c_3 => absurd c_3 ((nI_pos (by omega)))) (fun c_3 => ?_)
      refine lv_aload_n hx hb dX2_substitute_6 rfl (lv_at hl 0 rfl) ?_
      refine lv_iload_n hx hb dX2_substitute_7 rfl (lv_at hl 1 rfl) ?_
      refine c_i hst (r_V (As := [.int (nI (2 - k))]) (rest := []) am hst hl (k_X2_isPassedOver hadI hf (k := 2 - k) (by omega)) kRX2_51 imX2_isPassedOver slX2_isPassedOver ⟨Nat.le_of_ble_eq_true rfl, Nat.le_of_ble_eq_true rfl⟩ (by omega) (fun _ _ _ => cE_F hf) rfl rfl rfl (Nat.le_of_ble_eq_true rfl) dX2_substitute_8 ⟨Nat.le_of_ble_eq_true rfl, Nat.le_of_ble_eq_true rfl⟩) (fun H locs hst => ?_)
      refine lv_if_eq (tgt := 24) hx hb dX2_substitute_11 (by decide) (fun c_11 => ?_) (fun c_11 => ?_)
      · skip
        refine lv_aload_n hx hb dX2_substitute_24 rfl (lv_at hl 0 rfl) ?_
        refine w_getR am hst (k := 1) (b := ad (b + 5)) (by omega) (fun _ _ _ => cE_F hf) rfl inT2 (by decide) (fun _ _ _ => rfl) fRX2_16 dX2_substitute_25 ?_
        refine lv_iload_n hx hb dX2_substitute_28 rfl (lv_at hl 1 rfl) ?_
        refine w_dald am hst (by omega) (fun _ _ _ => cE_F5 hf) (n := 2 - k) (nI_clamp (by omega)) (vp_in_nI (by omega) (by decide)) dX2_substitute_29 (fun x1 hx1 => ?_)
        refine lv_dstore_n (lv' := [(2, .double x1), (0, .ref (ad b)), (1, .int (nI (2 - k)))]) hx hb dX2_substitute_30 rfl hl (by decide) rfl (fun ls hl => ?_)
        refine lv_iload_n hx hb dX2_substitute_31 rfl (lv_at hl 2 rfl) ?_
        refine lv_iconst (v := 1) hx hb dX2_substitute_32 (by decide) ?_
        refine lv_iadd hx hb dX2_substitute_33 ?_
        rw [nI_1]
        refine lv_istore (lv' := [(4, .int (nI (2 - k + 1))), (2, .double x1), (0, .ref (ad b)), (1, .int (nI (2 - k)))]) hx hb dX2_substitute_34 hl (by decide) rfl (fun ls hl => ?_)
        have lp1 : ∀ (n i : Nat), n + i = k → ∀ x : UInt64, cn x = su1 b (2 - k) (su0 b G k) i → ∀ d0 : Drawn, s.drawn.sameBut d0 lw_cs → ∀ (H : Heap) (locs : List Loc), St D cy ad s.heap I (su0 b G k) J H locs → ∀ ls, lv_has ls 5 [(0, .ref (ad b)), (1, .int (nI (2 - k))), (2, .double x), (4, .int (nI (2 - k + 1 + (i))))] → W p l e (rmK 1 0 0 25) (s.setDrawn d0) m [.ref (ad b)].toArray below meth cd H locs 0 0 (MQD lw_cs below (qV D cy ad I (su0 b G 3) J s.heap.size) [.ref (ad b)].toArray s ((rmK 1 0 0 25)).cells ((rmK 1 0 0 25)).slots (aA ad s.heap.size)) (F0 m 36 ls []) := by
          intro n
          induction n with
          | zero =>
            intro i hi x hxr d0 hd H locs hst ls hl
            obtain rfl : k = i := by omega
            refine lv_iload hx hb dX2_substitute_36 (lv_at hl 3 rfl) ?_
            refine lv_iconst (v := 3) hx hb dX2_substitute_38 (by decide) ?_
            refine lv_icmp_ge (tgt := 68) hx hb dX2_substitute_39 (by decide) (fun c_39 => ?_) (fun c_39 => absurd ((show (3 : Int32) ≤ nI (2 - k + 1 + k) by rw [show 2 - k + 1 + k = 3 by omega]; decide)) c_39)
            refine lv_aload_n hx hb dX2_substitute_68 rfl (lv_at hl 0 rfl) ?_
            refine w_getR am hst (k := 2) (b := ad (b + 6)) (by omega) (fun _ _ _ => cE_F hf) rfl inT2 (by decide) (fun _ _ _ => rfl) fRX2_20 dX2_substitute_69 ?_
            refine lv_iload_n hx hb dX2_substitute_72 rfl (lv_at hl 1 rfl) ?_
            refine lv_dload_n hx hb dX2_substitute_73 rfl (lv_at hl 2 rfl) ?_
            refine lv_aload_n hx hb dX2_substitute_74 rfl (lv_at hl 0 rfl) ?_
            refine w_getR am hst (k := 0) (b := ad (b + 1)) (by omega) (fun _ _ _ => cE_F hf) rfl inT2 (by decide) (fun _ _ _ => rfl) fRX2_11 dX2_substitute_75 ?_
            refine lv_iload_n hx hb dX2_substitute_78 rfl (lv_at hl 1 rfl) ?_
            refine w_aldA am hst hf (n := 2 - k) (nI_clamp (by omega)) (vp_in_nI (by omega) (by decide)) dX2_substitute_79 ?_
            refine lv_iload_n hx hb dX2_substitute_80 rfl (lv_at hl 1 rfl) ?_
            refine w_dald am hst (by omega) (fun _ _ _ => cE_Fr hf (by omega)) (n := 2 - k) (nI_clamp (by omega)) (vp_in_nI (by omega) (by decide)) dX2_substitute_81 (fun x2 hx2 => ?_)
            refine w_ddiv hd hx hb hxr hx2 dX2_substitute_82 (fun x3 d0 hx3 hd => ?_)
            refine w_dast am hst hx3 (by omega) (fun _ _ _ => cE_F6 hf) (n := 2 - k) (nI_clamp (by omega)) (vp_in_nI (by omega) (by decide)) dX2_substitute_83 (fun H locs hst => ?_)
            refine lv_iinc (v := nI (3 - (k + 1)) + (-1)) (lv' := [(1, .int (nI (3 - (k + 1)) + (-1))), (0, .ref (ad b)), (2, .double x), (4, .int (nI (2 - k + 1 + (k))))]) hx hb dX2_substitute_84 hl (k := 1) rfl (by rw [show 3 - (k + 1) = 2 - k by omega]; rfl) (by decide) rfl (fun ls hl => ?_)
            refine lv_goto (tgt := 2) hx hb dX2_substitute_87 (by decide) ?_
            have ih2 := ih_lp0 (k + 1) (by omega) d0 hd
            rw [show su0 b G (k + 1) = u2 (su0 b G k) (b + 6) (2 - k) (Dv (su1 b (2 - k) (su0 b G k) k) (su0 b G k (b + 1 + 1 + (2 - k)) (2 - k))) from congrArg (u2 (su0 b G k) (b + 6) (2 - k)) (if_neg (fun h => by rw [zB_0.mp c_11] at h; cases h))] at ih2
            exact ih2 _ _ hst ls (lv_sub hl [1, 0] rfl)
          | succ n ih_lp1 =>
            intro i hi x hxr d0 hd H locs hst ls hl
            refine lv_iload hx hb dX2_substitute_36 (lv_at hl 3 rfl) ?_
            refine lv_iconst (v := 3) hx hb dX2_substitute_38 (by decide) ?_
            refine lv_icmp_ge (tgt := 68) hx hb dX2_substitute_39 (by decide) (fun c_39 => absurd c_39 ((nI_ge (b := 3) (by omega) (by decide)))) (fun c_39 => ?_)
            refine lv_dload_n hx hb dX2_substitute_42 rfl (lv_at hl 2 rfl) ?_
            refine lv_aload_n hx hb dX2_substitute_43 rfl (lv_at hl 0 rfl) ?_
            refine w_getR am hst (k := 0) (b := ad (b + 1)) (by omega) (fun _ _ _ => cE_F hf) rfl inT2 (by decide) (fun _ _ _ => rfl) fRX2_11 dX2_substitute_44 ?_
            refine lv_iload_n hx hb dX2_substitute_47 rfl (lv_at hl 1 rfl) ?_
            refine w_aldA am hst hf (n := 2 - k) (nI_clamp (by omega)) (vp_in_nI (by omega) (by decide)) dX2_substitute_48 ?_
            refine lv_iload hx hb dX2_substitute_49 (lv_at hl 3 rfl) ?_
            refine w_dald am hst (by omega) (fun _ _ _ => cE_Fr hf (by omega)) (n := 2 - k + 1 + (i)) (nI_clamp (by omega)) (vp_in_nI (by omega) (by decide)) dX2_substitute_51 (fun x4 hx4 => ?_)
            refine lv_aload_n hx hb dX2_substitute_52 rfl (lv_at hl 0 rfl) ?_
            refine w_getR am hst (k := 2) (b := ad (b + 6)) (by omega) (fun _ _ _ => cE_F hf) rfl inT2 (by decide) (fun _ _ _ => rfl) fRX2_20 dX2_substitute_53 ?_
            refine lv_iload hx hb dX2_substitute_56 (lv_at hl 3 rfl) ?_
            refine w_dald am hst (by omega) (fun _ _ _ => cE_F6 hf) (n := 2 - k + 1 + (i)) (nI_clamp (by omega)) (vp_in_nI (by omega) (by decide)) dX2_substitute_58 (fun x5 hx5 => ?_)
            refine w_dmul hd hx hb hx4 hx5 dX2_substitute_59 (fun x6 d0 hx6 hd => ?_)
            refine w_dsub hd hx hb hxr hx6 dX2_substitute_60 (fun x7 d0 hx7 hd => ?_)
            refine lv_dstore_n (lv' := [(2, .double x7), (0, .ref (ad b)), (1, .int (nI (2 - k))), (4, .int (nI (2 - k + 1 + (i))))]) hx hb dX2_substitute_61 rfl hl (by decide) rfl (fun ls hl => ?_)
            refine lv_iinc (v := nI (2 - k + 1 + (i) + 1)) (lv' := [(4, .int (nI (2 - k + 1 + (i) + 1))), (2, .double x7), (0, .ref (ad b)), (1, .int (nI (2 - k)))]) hx hb dX2_substitute_62 hl (k := 3) rfl (nI_1 (2 - k + 1 + (i))) (by decide) rfl (fun ls hl => ?_)
            refine lv_goto (tgt := 36) hx hb dX2_substitute_65 (by decide) ?_
            exact ih_lp1 (i + 1) (by omega) x7 hx7 d0 hd _ _ hst ls (lv_sub hl [2, 3, 1, 0] rfl)
        exact lp1 k 0 (by omega) x1 hx1 d0 hd _ _ hst ls (lv_sub hl [2, 3, 1, 0] rfl)
      · skip
        refine lv_aload_n hx hb dX2_substitute_14 rfl (lv_at hl 0 rfl) ?_
        refine w_getR am hst (k := 2) (b := ad (b + 6)) (by omega) (fun _ _ _ => cE_F hf) rfl inT2 (by decide) (fun _ _ _ => rfl) fRX2_20 dX2_substitute_15 ?_
        refine lv_iload_n hx hb dX2_substitute_18 rfl (lv_at hl 1 rfl) ?_
        refine lv_dconst0 hx hb dX2_substitute_19 ?_
        refine w_dast am hst cn_k0 (by omega) (fun _ _ _ => cE_F6 hf) (n := 2 - k) (nI_clamp (by omega)) (vp_in_nI (by omega) (by decide)) dX2_substitute_20 (fun H locs hst => ?_)
        refine lv_goto (tgt := 84) hx hb dX2_substitute_21 (by decide) ?_
        refine lv_iinc (v := nI (3 - (k + 1)) + (-1)) (lv' := [(1, .int (nI (3 - (k + 1)) + (-1))), (0, .ref (ad b))]) hx hb dX2_substitute_84 hl (k := 1) rfl (by rw [show 3 - (k + 1) = 2 - k by omega]; rfl) (by decide) rfl (fun ls hl => ?_)
        refine lv_goto (tgt := 2) hx hb dX2_substitute_87 (by decide) ?_
        have ih2 := ih_lp0 (k + 1) (by omega) d0 hd
        rw [show su0 b G (k + 1) = u2 (su0 b G k) (b + 6) (2 - k) 0 from congrArg (u2 (su0 b G k) (b + 6) (2 - k)) (if_pos (zB_n0.mp c_11))] at ih2
        exact ih2 _ _ hst ls (lv_sub hl [1, 0] rfl)
  exact lp0 3 0 (by omega) d0 hd _ _ hst ls (lv_sub hl [1, 0] rfl)

set_option maxHeartbeats 4000000 in
set_option maxRecDepth 100000 in
theorem k_X2_reckon_n {l : Launch} {D : va_G} {cy ad : Nat → Nat} {I : Im} {G : Dm} {J : Jm} (hadI : adI ad) {b : Nat} (hf : b = 34 ∨ b = 41) : kD l yX2_reckon (.code yX2_reckon cX2_reckon 7 (some .int)) (rmK 3 0 0 64) D cy ad [.ref (ad b), .ref (ad 1), .null] I G J (qI D cy ad (nI (rkR b I sk0 G)) I (rkG b I sk0 G) J) := by
  refine start_D hadI (by decide +kernel) (Nat.le_of_ble_eq_true rfl) ?_
  intro p e s m below meth cd am hx hb hr hlk hst ls hl d0 hd
  have hl : lv_has ls 7 [(0, .ref (ad b)), (1, .ref (ad 1)), (2, .null)] := hl
  refine lv_aload_n hx hb dX2_reckon_0 rfl (lv_at hl 0 rfl) ?_
  refine c_v hst (r_V (As := []) (rest := []) am hst hl (k_X2_clear hadI hf) kRX2_23 imX2_clear slX2_clear ⟨Nat.le_of_ble_eq_true rfl, Nat.le_of_ble_eq_true rfl⟩ (by omega) (fun _ _ _ => cE_F hf) rfl rfl rfl (Nat.le_of_ble_eq_true rfl) dX2_reckon_1 ⟨Nat.le_of_ble_eq_true rfl, Nat.le_of_ble_eq_true rfl⟩) (fun H locs hst => ?_)
  refine lv_aload_n hx hb dX2_reckon_4 rfl (lv_at hl 1 rfl) ?_
  refine lv_astore_n (lv' := [(3, .ref (ad 1)), (0, .ref (ad b)), (1, .ref (ad 1)), (2, .null)]) hx hb dX2_reckon_5 rfl hl (by decide) rfl (fun ls hl => ?_)
  refine lv_aload_n hx hb dX2_reckon_6 rfl (lv_at hl 0 rfl) ?_
  refine w_alen am hst (t0 := 3) (v := 32) (by decide) _ (fun _ => cE_1) rfl rfl dX2_reckon_7 ?_
  refine lv_istore (lv' := [(4, .int 32), (3, .ref (ad 1)), (0, .ref (ad b)), (1, .ref (ad 1)), (2, .null)]) hx hb dX2_reckon_8 hl (by decide) rfl (fun ls hl => ?_)
  refine lv_iconst (v := 0) hx hb dX2_reckon_10 (by decide) ?_
  refine lv_istore (lv' := [(5, .int 0), (4, .int 32), (3, .ref (ad 1)), (0, .ref (ad b)), (1, .ref (ad 1)), (2, .null)]) hx hb dX2_reckon_11 hl (by decide) rfl (fun ls hl => ?_)
  have lp0 : ∀ (n i : Nat), n + i = 32 → ∀ d0 : Drawn, s.drawn.sameBut d0 lw_cs → ∀ (H : Heap) (locs : List Loc), St D cy ad s.heap I (rk1 b I sk0 G i) J H locs → ∀ ls, lv_has ls 7 [(0, .ref (ad b)), (1, .ref (ad 1)), (2, .null), (3, .ref (ad 1)), (4, .int 32), (5, .int (nI i))] → W p l e (rmK 3 0 0 64) (s.setDrawn d0) m [.ref (ad b), .ref (ad 1), .null].toArray below meth cd H locs 0 0 (MQD lw_cs below (qI D cy ad (nI (rkR b I sk0 G)) I (rkG b I sk0 G) J s.heap.size) [.ref (ad b), .ref (ad 1), .null].toArray s ((rmK 3 0 0 64)).cells ((rmK 3 0 0 64)).slots (aA ad s.heap.size)) (F0 m 13 ls []) := by
    intro n
    induction n with
    | zero =>
      intro i hi d0 hd H locs hst ls hl
      obtain rfl : 32 = i := by omega
      refine lv_iload hx hb dX2_reckon_13 (lv_at hl 5 rfl) ?_
      refine lv_iload hx hb dX2_reckon_15 (lv_at hl 4 rfl) ?_
      refine lv_icmp_ge (tgt := 52) hx hb dX2_reckon_17 (by decide) (fun c_17 => ?_) (fun c_17 => absurd ((show (32 : Int32) ≤ nI 32 by decide)) c_17)
      refine lv_aload_n hx hb dX2_reckon_52 rfl (lv_at hl 0 rfl) ?_
      refine c_iD hd hst (r_VD (As := []) (rest := []) am hst hl (k_X2_eliminate hadI hf) kRX2_36 imX2_eliminate slX2_eliminate ⟨Nat.le_of_ble_eq_true rfl, Nat.le_of_ble_eq_true rfl⟩ (by omega) (fun _ _ _ => cE_F hf) rfl rfl rfl (Nat.le_of_ble_eq_true rfl) dX2_reckon_53 ⟨Nat.le_of_ble_eq_true rfl, Nat.le_of_ble_eq_true rfl⟩) (fun d0 H locs hd hst => ?_)
      refine lv_istore_n (lv' := [(3, .int (nI (elR b (rk1 b I sk0 G 32) 3))), (0, .ref (ad b)), (1, .ref (ad 1)), (2, .null), (4, .int 32), (5, .int (nI 32))]) hx hb dX2_reckon_56 rfl hl (by decide) rfl (fun ls hl => ?_)
      refine lv_aload_n hx hb dX2_reckon_57 rfl (lv_at hl 1 rfl) ?_
      refine c_vD hd hst (r_VD (As := []) (rest := []) am hst hl (k_X2_substitute hadI hf) kRX2_40 imX2_substitute slX2_substitute ⟨Nat.le_of_ble_eq_true rfl, Nat.le_of_ble_eq_true rfl⟩ (by omega) (fun _ _ _ => cE_F hf) rfl rfl rfl (Nat.le_of_ble_eq_true rfl) dX2_reckon_58 ⟨Nat.le_of_ble_eq_true rfl, Nat.le_of_ble_eq_true rfl⟩) (fun d0 H locs hd hst => ?_)
      refine lv_iload_n hx hb dX2_reckon_61 rfl (lv_at hl 0 rfl) ?_
      exact e_iD hd hx hb hr hlk hst rfl rfl dX2_reckon_62
    | succ n ih_lp0 =>
      intro i hi d0 hd H locs hst ls hl
      refine lv_iload hx hb dX2_reckon_13 (lv_at hl 5 rfl) ?_
      refine lv_iload hx hb dX2_reckon_15 (lv_at hl 4 rfl) ?_
      refine lv_icmp_ge (tgt := 52) hx hb dX2_reckon_17 (by decide) (fun c_17 => absurd c_17 ((nI_ge (b := 32) (by omega) (by decide)))) (fun c_17 => ?_)
      refine lv_aload_n hx hb dX2_reckon_20 rfl (lv_at hl 3 rfl) ?_
      refine lv_iload hx hb dX2_reckon_21 (lv_at hl 5 rfl) ?_
      refine w_aldR am hst (n := i) (nI_clamp (by omega)) (vp_in_nI (by omega) (by decide)) dX2_reckon_23 ?_
      refine lv_astore (lv' := [(6, .ref (ad (2 + i))), (0, .ref (ad b)), (1, .ref (ad 1)), (2, .null), (3, .ref (ad 1)), (4, .int 32), (5, .int (nI i))]) hx hb dX2_reckon_24 hl (by decide) rfl (fun ls hl => ?_)
      refine lv_aload hx hb dX2_reckon_26 (lv_at hl 0 rfl) ?_
      refine c_i hst (r_N (As := []) (rest := []) am hst hl (k_X0_isFitted hadI (by omega)) kRX2_26 imX0_isFitted slX0_isFitted ⟨Nat.le_of_ble_eq_true rfl, Nat.le_of_ble_eq_true rfl⟩ (by omega) (fun _ _ _ => cE_B (by omega)) rfl rfl rfl (Nat.le_of_ble_eq_true rfl) dX2_reckon_28 ⟨Nat.le_of_ble_eq_true rfl, Nat.le_of_ble_eq_true rfl⟩) (fun H locs hst => ?_)
      refine lv_if_eq (tgt := 46) hx hb dX2_reckon_31 (by decide) (fun c_31 => ?_) (fun c_31 => ?_)
      · skip
        refine lv_iinc (v := nI (i + 1)) (lv' := [(5, .int (nI (i + 1))), (6, .ref (ad (2 + i))), (0, .ref (ad b)), (1, .ref (ad 1)), (2, .null), (3, .ref (ad 1)), (4, .int 32)]) hx hb dX2_reckon_46 hl (k := 6) rfl (nI_1 i) (by decide) rfl (fun ls hl => ?_)
        refine lv_goto (tgt := 13) hx hb dX2_reckon_49 (by decide) ?_
        have ih2 := ih_lp0 (i + 1) (by omega) d0 hd
        rw [show rk1 b I sk0 G (i + 1) = rk1 b I sk0 G i from if_neg (by rw [zB_0.mp c_31]; exact fun h => by cases h)] at ih2
        exact ih2 _ _ hst ls (lv_sub hl [2, 3, 4, 5, 6, 0] rfl)
      · skip
        refine lv_aload hx hb dX2_reckon_34 (lv_at hl 0 rfl) ?_
        refine lv_aload_nN hx hb dX2_reckon_36 rfl (lv_at hl 3 rfl) ?_
        refine lv_acmp_eq (rx := some (ad (2 + i))) (ry := none) (tgt := 46) hx hb dX2_reckon_37 (by decide) (fun h => absurd h (by simp)) (fun _ => ?_)
        refine lv_aload_n hx hb dX2_reckon_40 rfl (lv_at hl 1 rfl) ?_
        refine lv_aload hx hb dX2_reckon_41 (lv_at hl 0 rfl) ?_
        refine c_vD hd hst (r_VD (As := [.ref (ad (2 + i))]) (rest := []) am hst hl (k_X2_add hadI hf (by omega)) kRX2_32 imX2_add slX2_add ⟨Nat.le_of_ble_eq_true rfl, Nat.le_of_ble_eq_true rfl⟩ (by omega) (fun _ _ _ => cE_F hf) rfl rfl rfl (Nat.le_of_ble_eq_true rfl) dX2_reckon_43 ⟨Nat.le_of_ble_eq_true rfl, Nat.le_of_ble_eq_true rfl⟩) (fun d0 H locs hd hst => ?_)
        refine lv_iinc (v := nI (i + 1)) (lv' := [(5, .int (nI (i + 1))), (6, .ref (ad (2 + i))), (0, .ref (ad b)), (1, .ref (ad 1)), (2, .null), (3, .ref (ad 1)), (4, .int 32)]) hx hb dX2_reckon_46 hl (k := 6) rfl (nI_1 i) (by decide) rfl (fun ls hl => ?_)
        refine lv_goto (tgt := 13) hx hb dX2_reckon_49 (by decide) ?_
        have ih2 := ih_lp0 (i + 1) (by omega) d0 hd
        rw [show rk1 b I sk0 G (i + 1) = ad0 b I (2 + i) (rk1 b I sk0 G i) 3 from if_pos (by rw [zB_n0.mp c_31]; rfl)] at ih2
        exact ih2 _ _ hst ls (lv_sub hl [2, 3, 4, 5, 6, 0] rfl)
  exact lp0 32 0 (by omega) d0 hd _ _ hst ls (lv_sub hl [3, 4, 5, 2, 1, 0] rfl)

set_option maxHeartbeats 4000000 in
set_option maxRecDepth 100000 in
theorem k_X2_reckon_w {l : Launch} {D : va_G} {cy ad : Nat → Nat} {I : Im} {G : Dm} {J : Jm} (hadI : adI ad) {b : Nat} (hf : b = 34 ∨ b = 41) {w : Nat} (hw : w < 32) : kD l yX2_reckon (.code yX2_reckon cX2_reckon 7 (some .int)) (rmK 3 0 0 64) D cy ad [.ref (ad b), .ref (ad 1), .ref (ad (2 + w))] I G J (qI D cy ad (nI (rkR b I (sk1 w) G)) I (rkG b I (sk1 w) G) J) := by
  refine start_D hadI (by decide +kernel) (Nat.le_of_ble_eq_true rfl) ?_
  intro p e s m below meth cd am hx hb hr hlk hst ls hl d0 hd
  have hl : lv_has ls 7 [(0, .ref (ad b)), (1, .ref (ad 1)), (2, .ref (ad (2 + w)))] := hl
  refine lv_aload_n hx hb dX2_reckon_0 rfl (lv_at hl 0 rfl) ?_
  refine c_v hst (r_V (As := []) (rest := []) am hst hl (k_X2_clear hadI hf) kRX2_23 imX2_clear slX2_clear ⟨Nat.le_of_ble_eq_true rfl, Nat.le_of_ble_eq_true rfl⟩ (by omega) (fun _ _ _ => cE_F hf) rfl rfl rfl (Nat.le_of_ble_eq_true rfl) dX2_reckon_1 ⟨Nat.le_of_ble_eq_true rfl, Nat.le_of_ble_eq_true rfl⟩) (fun H locs hst => ?_)
  refine lv_aload_n hx hb dX2_reckon_4 rfl (lv_at hl 1 rfl) ?_
  refine lv_astore_n (lv' := [(3, .ref (ad 1)), (0, .ref (ad b)), (1, .ref (ad 1)), (2, .ref (ad (2 + w)))]) hx hb dX2_reckon_5 rfl hl (by decide) rfl (fun ls hl => ?_)
  refine lv_aload_n hx hb dX2_reckon_6 rfl (lv_at hl 0 rfl) ?_
  refine w_alen am hst (t0 := 3) (v := 32) (by decide) _ (fun _ => cE_1) rfl rfl dX2_reckon_7 ?_
  refine lv_istore (lv' := [(4, .int 32), (3, .ref (ad 1)), (0, .ref (ad b)), (1, .ref (ad 1)), (2, .ref (ad (2 + w)))]) hx hb dX2_reckon_8 hl (by decide) rfl (fun ls hl => ?_)
  refine lv_iconst (v := 0) hx hb dX2_reckon_10 (by decide) ?_
  refine lv_istore (lv' := [(5, .int 0), (4, .int 32), (3, .ref (ad 1)), (0, .ref (ad b)), (1, .ref (ad 1)), (2, .ref (ad (2 + w)))]) hx hb dX2_reckon_11 hl (by decide) rfl (fun ls hl => ?_)
  have lp0 : ∀ (n i : Nat), n + i = 32 → ∀ d0 : Drawn, s.drawn.sameBut d0 lw_cs → ∀ (H : Heap) (locs : List Loc), St D cy ad s.heap I (rk1 b I (sk1 w) G i) J H locs → ∀ ls, lv_has ls 7 [(0, .ref (ad b)), (1, .ref (ad 1)), (2, .ref (ad (2 + w))), (3, .ref (ad 1)), (4, .int 32), (5, .int (nI i))] → W p l e (rmK 3 0 0 64) (s.setDrawn d0) m [.ref (ad b), .ref (ad 1), .ref (ad (2 + w))].toArray below meth cd H locs 0 0 (MQD lw_cs below (qI D cy ad (nI (rkR b I (sk1 w) G)) I (rkG b I (sk1 w) G) J s.heap.size) [.ref (ad b), .ref (ad 1), .ref (ad (2 + w))].toArray s ((rmK 3 0 0 64)).cells ((rmK 3 0 0 64)).slots (aA ad s.heap.size)) (F0 m 13 ls []) := by
    intro n
    induction n with
    | zero =>
      intro i hi d0 hd H locs hst ls hl
      obtain rfl : 32 = i := by omega
      refine lv_iload hx hb dX2_reckon_13 (lv_at hl 5 rfl) ?_
      refine lv_iload hx hb dX2_reckon_15 (lv_at hl 4 rfl) ?_
      refine lv_icmp_ge (tgt := 52) hx hb dX2_reckon_17 (by decide) (fun c_17 => ?_) (fun c_17 => absurd ((show (32 : Int32) ≤ nI 32 by decide)) c_17)
      refine lv_aload_n hx hb dX2_reckon_52 rfl (lv_at hl 0 rfl) ?_
      refine c_iD hd hst (r_VD (As := []) (rest := []) am hst hl (k_X2_eliminate hadI hf) kRX2_36 imX2_eliminate slX2_eliminate ⟨Nat.le_of_ble_eq_true rfl, Nat.le_of_ble_eq_true rfl⟩ (by omega) (fun _ _ _ => cE_F hf) rfl rfl rfl (Nat.le_of_ble_eq_true rfl) dX2_reckon_53 ⟨Nat.le_of_ble_eq_true rfl, Nat.le_of_ble_eq_true rfl⟩) (fun d0 H locs hd hst => ?_)
      refine lv_istore_n (lv' := [(3, .int (nI (elR b (rk1 b I (sk1 w) G 32) 3))), (0, .ref (ad b)), (1, .ref (ad 1)), (2, .ref (ad (2 + w))), (4, .int 32), (5, .int (nI 32))]) hx hb dX2_reckon_56 rfl hl (by decide) rfl (fun ls hl => ?_)
      refine lv_aload_n hx hb dX2_reckon_57 rfl (lv_at hl 1 rfl) ?_
      refine c_vD hd hst (r_VD (As := []) (rest := []) am hst hl (k_X2_substitute hadI hf) kRX2_40 imX2_substitute slX2_substitute ⟨Nat.le_of_ble_eq_true rfl, Nat.le_of_ble_eq_true rfl⟩ (by omega) (fun _ _ _ => cE_F hf) rfl rfl rfl (Nat.le_of_ble_eq_true rfl) dX2_reckon_58 ⟨Nat.le_of_ble_eq_true rfl, Nat.le_of_ble_eq_true rfl⟩) (fun d0 H locs hd hst => ?_)
      refine lv_iload_n hx hb dX2_reckon_61 rfl (lv_at hl 0 rfl) ?_
      exact e_iD hd hx hb hr hlk hst rfl rfl dX2_reckon_62
    | succ n ih_lp0 =>
      intro i hi d0 hd H locs hst ls hl
      refine lv_iload hx hb dX2_reckon_13 (lv_at hl 5 rfl) ?_
      refine lv_iload hx hb dX2_reckon_15 (lv_at hl 4 rfl) ?_
      refine lv_icmp_ge (tgt := 52) hx hb dX2_reckon_17 (by decide) (fun c_17 => absurd c_17 ((nI_ge (b := 32) (by omega) (by decide)))) (fun c_17 => ?_)
      refine lv_aload_n hx hb dX2_reckon_20 rfl (lv_at hl 3 rfl) ?_
      refine lv_iload hx hb dX2_reckon_21 (lv_at hl 5 rfl) ?_
      refine w_aldR am hst (n := i) (nI_clamp (by omega)) (vp_in_nI (by omega) (by decide)) dX2_reckon_23 ?_
      refine lv_astore (lv' := [(6, .ref (ad (2 + i))), (0, .ref (ad b)), (1, .ref (ad 1)), (2, .ref (ad (2 + w))), (3, .ref (ad 1)), (4, .int 32), (5, .int (nI i))]) hx hb dX2_reckon_24 hl (by decide) rfl (fun ls hl => ?_)
      refine lv_aload hx hb dX2_reckon_26 (lv_at hl 0 rfl) ?_
      refine c_i hst (r_N (As := []) (rest := []) am hst hl (k_X0_isFitted hadI (by omega)) kRX2_26 imX0_isFitted slX0_isFitted ⟨Nat.le_of_ble_eq_true rfl, Nat.le_of_ble_eq_true rfl⟩ (by omega) (fun _ _ _ => cE_B (by omega)) rfl rfl rfl (Nat.le_of_ble_eq_true rfl) dX2_reckon_28 ⟨Nat.le_of_ble_eq_true rfl, Nat.le_of_ble_eq_true rfl⟩) (fun H locs hst => ?_)
      refine lv_if_eq (tgt := 46) hx hb dX2_reckon_31 (by decide) (fun c_31 => ?_) (fun c_31 => ?_)
      · skip
        refine lv_iinc (v := nI (i + 1)) (lv' := [(5, .int (nI (i + 1))), (6, .ref (ad (2 + i))), (0, .ref (ad b)), (1, .ref (ad 1)), (2, .ref (ad (2 + w))), (3, .ref (ad 1)), (4, .int 32)]) hx hb dX2_reckon_46 hl (k := 6) rfl (nI_1 i) (by decide) rfl (fun ls hl => ?_)
        refine lv_goto (tgt := 13) hx hb dX2_reckon_49 (by decide) ?_
        have ih2 := ih_lp0 (i + 1) (by omega) d0 hd
        rw [show rk1 b I (sk1 w) G (i + 1) = rk1 b I (sk1 w) G i from if_neg (by rw [zB_0.mp c_31]; exact fun h => by cases h)] at ih2
        exact ih2 _ _ hst ls (lv_sub hl [2, 3, 4, 5, 6, 0] rfl)
      · skip
        refine lv_aload hx hb dX2_reckon_34 (lv_at hl 0 rfl) ?_
        refine lv_aload_n hx hb dX2_reckon_36 rfl (lv_at hl 3 rfl) ?_
        refine lv_acmp_eq (rx := some (ad (2 + i))) (ry := some (ad (2 + w))) (tgt := 46) hx hb dX2_reckon_37 (by decide) (fun c_37 => ?_) (fun c_37 => ?_)
        · skip
          refine lv_iinc (v := nI (i + 1)) (lv' := [(5, .int (nI (i + 1))), (6, .ref (ad (2 + i))), (0, .ref (ad b)), (1, .ref (ad 1)), (2, .ref (ad (2 + w))), (3, .ref (ad 1)), (4, .int 32)]) hx hb dX2_reckon_46 hl (k := 6) rfl (nI_1 i) (by decide) rfl (fun ls hl => ?_)
          refine lv_goto (tgt := 13) hx hb dX2_reckon_49 (by decide) ?_
          have ih2 := ih_lp0 (i + 1) (by omega) d0 hd
          rw [show rk1 b I (sk1 w) G (i + 1) = rk1 b I (sk1 w) G i from if_neg (by rw [show i = w from Nat.add_left_cancel (hadI _ _ (by omega) (by omega) (Option.some.inj c_37))]; simp [sk1])] at ih2
          exact ih2 _ _ hst ls (lv_sub hl [2, 3, 4, 5, 6, 0] rfl)
        · skip
          refine lv_aload_n hx hb dX2_reckon_40 rfl (lv_at hl 1 rfl) ?_
          refine lv_aload hx hb dX2_reckon_41 (lv_at hl 0 rfl) ?_
          refine c_vD hd hst (r_VD (As := [.ref (ad (2 + i))]) (rest := []) am hst hl (k_X2_add hadI hf (by omega)) kRX2_32 imX2_add slX2_add ⟨Nat.le_of_ble_eq_true rfl, Nat.le_of_ble_eq_true rfl⟩ (by omega) (fun _ _ _ => cE_F hf) rfl rfl rfl (Nat.le_of_ble_eq_true rfl) dX2_reckon_43 ⟨Nat.le_of_ble_eq_true rfl, Nat.le_of_ble_eq_true rfl⟩) (fun d0 H locs hd hst => ?_)
          refine lv_iinc (v := nI (i + 1)) (lv' := [(5, .int (nI (i + 1))), (6, .ref (ad (2 + i))), (0, .ref (ad b)), (1, .ref (ad 1)), (2, .ref (ad (2 + w))), (3, .ref (ad 1)), (4, .int 32)]) hx hb dX2_reckon_46 hl (k := 6) rfl (nI_1 i) (by decide) rfl (fun ls hl => ?_)
          refine lv_goto (tgt := 13) hx hb dX2_reckon_49 (by decide) ?_
          have ih2 := ih_lp0 (i + 1) (by omega) d0 hd
          rw [show rk1 b I (sk1 w) G (i + 1) = ad0 b I (2 + i) (rk1 b I (sk1 w) G i) 3 from if_pos (by rw [zB_n0.mp c_31]; simp only [sk1, Bool.true_and, Bool.not_eq_true', decide_eq_false_iff_not]; exact fun h => c_37 (by rw [h]))] at ih2
          exact ih2 _ _ hst ls (lv_sub hl [2, 3, 4, 5, 6, 0] rfl)
  exact lp0 32 0 (by omega) d0 hd _ _ hst ls (lv_sub hl [3, 4, 5, 2, 1, 0] rfl)

set_option maxHeartbeats 4000000 in
set_option maxRecDepth 100000 in
theorem k_X2_foretell {l : Launch} {D : va_G} {cy ad : Nat → Nat} {I : Im} {G : Dm} {J : Jm} (hadI : adI ad) {b : Nat} (hf : b = 34 ∨ b = 41) {c : Nat} (hc : 2 ≤ c ∧ c < 34) : kD l yX2_foretell (.code yX2_foretell cX2_foretell 2 (some .double)) (rmK 2 0 0 41) D cy ad [.ref (ad b), .ref (ad c)] I G J (qD D cy ad (fore b I G c) I G J) := by
  refine start_D hadI (by decide +kernel) (Nat.le_of_ble_eq_true rfl) ?_
  intro p e s m below meth cd am hx hb hr hlk hst ls hl d0 hd
  have hl : lv_has ls 2 [(0, .ref (ad b)), (1, .ref (ad c))] := hl
  refine lv_aload_n hx hb dX2_foretell_0 rfl (lv_at hl 0 rfl) ?_
  refine w_getR am hst (k := 2) (b := ad (b + 6)) (by omega) (fun _ _ _ => cE_F hf) rfl inT2 (by decide) (fun _ _ _ => rfl) fRX2_20 dX2_foretell_1 ?_
  refine lv_iconst (v := 0) hx hb dX2_foretell_4 (by decide) ?_
  refine w_dald am hst (by omega) (fun _ _ _ => cE_F6 hf) (n := 0) rfl (vinL (by decide)) dX2_foretell_5 (fun x1 hx1 => ?_)
  refine lv_aload_n hx hb dX2_foretell_6 rfl (lv_at hl 1 rfl) ?_
  refine lv_iconst (v := 0) hx hb dX2_foretell_7 (by decide) ?_
  refine c_dD hd hst (r_ND (As := [.int (nI 0)]) (rest := [.double x1]) am hst hl (k_X0_term hadI hc (i := 0) (by omega)) kRX2_43 imX0_term slX0_term ⟨Nat.le_of_ble_eq_true rfl, Nat.le_of_ble_eq_true rfl⟩ (by omega) (fun _ _ _ => cE_B hc) rfl rfl rfl (Nat.le_of_ble_eq_true rfl) dX2_foretell_8 ⟨Nat.le_of_ble_eq_true rfl, Nat.le_of_ble_eq_true rfl⟩) (fun x2 d0 H locs hx2 hd hst => ?_)
  refine w_dmul hd hx hb hx1 hx2 dX2_foretell_11 (fun x3 d0 hx3 hd => ?_)
  refine lv_aload_n hx hb dX2_foretell_12 rfl (lv_at hl 0 rfl) ?_
  refine w_getR am hst (k := 2) (b := ad (b + 6)) (by omega) (fun _ _ _ => cE_F hf) rfl inT2 (by decide) (fun _ _ _ => rfl) fRX2_20 dX2_foretell_13 ?_
  refine lv_iconst (v := 1) hx hb dX2_foretell_16 (by decide) ?_
  refine w_dald am hst (by omega) (fun _ _ _ => cE_F6 hf) (n := 1) rfl (vinL (by decide)) dX2_foretell_17 (fun x4 hx4 => ?_)
  refine lv_aload_n hx hb dX2_foretell_18 rfl (lv_at hl 1 rfl) ?_
  refine lv_iconst (v := 1) hx hb dX2_foretell_19 (by decide) ?_
  refine c_dD hd hst (r_ND (As := [.int (nI 1)]) (rest := [.double x4, .double x3]) am hst hl (k_X0_term hadI hc (i := 1) (by omega)) kRX2_43 imX0_term slX0_term ⟨Nat.le_of_ble_eq_true rfl, Nat.le_of_ble_eq_true rfl⟩ (by omega) (fun _ _ _ => cE_B hc) rfl rfl rfl (Nat.le_of_ble_eq_true rfl) dX2_foretell_20 ⟨Nat.le_of_ble_eq_true rfl, Nat.le_of_ble_eq_true rfl⟩) (fun x5 d0 H locs hx5 hd hst => ?_)
  refine w_dmul hd hx hb hx4 hx5 dX2_foretell_23 (fun x6 d0 hx6 hd => ?_)
  refine w_dadd hd hx hb hx3 hx6 dX2_foretell_24 (fun x7 d0 hx7 hd => ?_)
  refine lv_aload_n hx hb dX2_foretell_25 rfl (lv_at hl 0 rfl) ?_
  refine w_getR am hst (k := 2) (b := ad (b + 6)) (by omega) (fun _ _ _ => cE_F hf) rfl inT2 (by decide) (fun _ _ _ => rfl) fRX2_20 dX2_foretell_26 ?_
  refine lv_iconst (v := 2) hx hb dX2_foretell_29 (by decide) ?_
  refine w_dald am hst (by omega) (fun _ _ _ => cE_F6 hf) (n := 2) rfl (vinL (by decide)) dX2_foretell_30 (fun x8 hx8 => ?_)
  refine lv_aload_n hx hb dX2_foretell_31 rfl (lv_at hl 1 rfl) ?_
  refine lv_iconst (v := 2) hx hb dX2_foretell_32 (by decide) ?_
  refine c_dD hd hst (r_ND (As := [.int (nI 2)]) (rest := [.double x8, .double x7]) am hst hl (k_X0_term hadI hc (i := 2) (by omega)) kRX2_43 imX0_term slX0_term ⟨Nat.le_of_ble_eq_true rfl, Nat.le_of_ble_eq_true rfl⟩ (by omega) (fun _ _ _ => cE_B hc) rfl rfl rfl (Nat.le_of_ble_eq_true rfl) dX2_foretell_33 ⟨Nat.le_of_ble_eq_true rfl, Nat.le_of_ble_eq_true rfl⟩) (fun x9 d0 H locs hx9 hd hst => ?_)
  refine w_dmul hd hx hb hx8 hx9 dX2_foretell_36 (fun x10 d0 hx10 hd => ?_)
  refine w_dadd hd hx hb hx7 hx10 dX2_foretell_37 (fun x11 d0 hx11 hd => ?_)
  exact e_dD hd hx hb hr hlk hst hx11 dX2_foretell_38
end
section
/-! references by days; the foretold values kept, how many are weak; powers, ways, divisors -/
def betw (I : Im) (G : Dm) (a b : Nat) (v : Int32) : UInt64 := Ad (G 52 a) (Dv (Mu (FP.i2d (v - I 51 a)) (Sb (G 52 b) (G 52 a))) (FP.i2d (I 51 b - I 51 a)))
def vaF (I : Im) (G : Dm) (v : Int32) : Nat → Nat → UInt64 → UInt64 | 0, _, x => x | n + 1, i, _ => if v = I 51 i then G 52 i else if i = 0 ∧ ¬ I 51 i ≤ v then G 52 i else if ¬ i = 0 ∧ ¬ v ≤ I 51 (i - 1) ∧ ¬ I 51 i ≤ v then betw I G (i - 1) i v else vaF I G v n (i + 1) (G 52 i)
def kf1 (I : Im) (G : Dm) : Nat → Dm | 0 => G | i + 1 => u2 (kf1 I G i) (2 + i) 7 (fore 34 I (kf1 I G i) (2 + i))
def enP (I : Im) (G : Dm) (X : UInt64) (i : Nat) : Bool := bFit I G (2 + i) && decide (¬ Op.cmpValue (FP.dcmp (G (2 + i) 7) X) CmpOp.l < 0)
def enQ (G : Dm) (L : UInt64) (i : Nat) : Bool := decide (¬ 0 ≤ Op.cmpValue (FP.dcmp (G (2 + i) 4) L) CmpOp.g)
def enC (I : Im) (G : Dm) (X : UInt64) : Nat → Nat | 0 => 0 | i + 1 => if enP I G X i = true then enC I G X i + 1 else enC I G X i
def enW (I : Im) (G : Dm) (X L : UInt64) : Nat → Nat | 0 => 0 | i + 1 => if (enP I G X i && enQ G L i) = true then enW I G X L i + 1 else enW I G X L i
def enR (I : Im) (G : Dm) (X L : UInt64) (a b : Int32) : Bool := decide (¬ a * nI (enC I G X 32) < nI (enW I G X L 32) * b)
def powL (b : Int64) : Nat → Int64 | 0 => 1 | n + 1 => powL b n * b
def wfC (N : Nat) : Nat → Int64 | 0 => 1 | k + 1 => wfC N k * (nI (N - k)).toInt64 / (nI (k + 1)).toInt64
def wfS (N : Nat) (a h : Int64) : Nat → Int64 | 0 => 0 | k + 1 => wfS N a h k + wfC N k * powL a k * powL h (N - k)
def gE : Nat → Int64 → Int64 → Int64 | 0, a, _ => a | n + 1, a, b => if b = 0 then a else gE n b (a - a / b * b)
set_option maxHeartbeats 4000000 in
set_option maxRecDepth 100000 in
theorem k_X3_between {l : Launch} {D : va_G} {cy ad : Nat → Nat} {I : Im} {G : Dm} {J : Jm} (hadI : adI ad) {a b : Nat} {v : Int32} (ha : a < 16) (hb16 : b < 16) : kD l yX3_between (.code yX3_between cX3_between 8 (some .double)) (rmK 0 0 0 0) D cy ad [.ref (ad 50), .int (nI a), .int (nI b), .int v] I G J (qD D cy ad (betw I G a b v) I G J) := by
  refine start_D hadI (by decide +kernel) (Nat.le_of_ble_eq_true rfl) ?_
  intro p e s m below meth cd am hx hb hr hlk hst ls hl d0 hd
  have hl : lv_has ls 8 [(0, .ref (ad 50)), (1, .int (nI a)), (2, .int (nI b)), (3, .int v)] := hl
  refine lv_iload_n hx hb dX3_between_0 rfl (lv_at hl 3 rfl) ?_
  refine lv_aload_n hx hb dX3_between_1 rfl (lv_at hl 0 rfl) ?_
  refine w_getR am hst (k := 0) (b := ad 51) (by decide) (fun _ _ _ => cE_50) rfl inT3 (by decide) (fun _ _ _ => rfl) fRX3_9 dX3_between_2 ?_
  refine lv_iload_n hx hb dX3_between_5 rfl (lv_at hl 1 rfl) ?_
  refine w_iald am hst (by decide) (fun _ _ _ => cE_51) (n := a) (nI_clamp (by omega)) (vp_in_nI (by omega) (by decide)) dX3_between_6 ?_
  refine lv_isub hx hb dX3_between_7 ?_
  refine w_i2d hx hb dX3_between_8 (fun x1 hx1 => ?_)
  refine lv_dstore (lv' := [(4, .double x1), (0, .ref (ad 50)), (1, .int (nI a)), (2, .int (nI b)), (3, .int v)]) hx hb dX3_between_9 hl (by decide) rfl (fun ls hl => ?_)
  refine lv_aload_n hx hb dX3_between_11 rfl (lv_at hl 1 rfl) ?_
  refine w_getR am hst (k := 0) (b := ad 51) (by decide) (fun _ _ _ => cE_50) rfl inT3 (by decide) (fun _ _ _ => rfl) fRX3_9 dX3_between_12 ?_
  refine lv_iload_n hx hb dX3_between_15 rfl (lv_at hl 3 rfl) ?_
  refine w_iald am hst (by decide) (fun _ _ _ => cE_51) (n := b) (nI_clamp (by omega)) (vp_in_nI (by omega) (by decide)) dX3_between_16 ?_
  refine lv_aload_n hx hb dX3_between_17 rfl (lv_at hl 1 rfl) ?_
  refine w_getR am hst (k := 0) (b := ad 51) (by decide) (fun _ _ _ => cE_50) rfl inT3 (by decide) (fun _ _ _ => rfl) fRX3_9 dX3_between_18 ?_
  refine lv_iload_n hx hb dX3_between_21 rfl (lv_at hl 2 rfl) ?_
  refine w_iald am hst (by decide) (fun _ _ _ => cE_51) (n := a) (nI_clamp (by omega)) (vp_in_nI (by omega) (by decide)) dX3_between_22 ?_
  refine lv_isub hx hb dX3_between_23 ?_
  refine w_i2d hx hb dX3_between_24 (fun x2 hx2 => ?_)
  refine lv_dstore (lv' := [(6, .double x2), (4, .double x1), (0, .ref (ad 50)), (1, .int (nI a)), (2, .int (nI b)), (3, .int v)]) hx hb dX3_between_25 hl (by decide) rfl (fun ls hl => ?_)
  refine lv_aload_n hx hb dX3_between_27 rfl (lv_at hl 2 rfl) ?_
  refine w_getR am hst (k := 1) (b := ad 52) (by decide) (fun _ _ _ => cE_50) rfl inT3 (by decide) (fun _ _ _ => rfl) fRX3_15 dX3_between_28 ?_
  refine lv_iload_n hx hb dX3_between_31 rfl (lv_at hl 3 rfl) ?_
  refine w_dald am hst (by decide) (fun _ _ _ => cE_52) (n := a) (nI_clamp (by omega)) (vp_in_nI (by omega) (by decide)) dX3_between_32 (fun x3 hx3 => ?_)
  refine lv_dload hx hb dX3_between_33 (lv_at hl 1 rfl) ?_
  refine lv_aload_n hx hb dX3_between_35 rfl (lv_at hl 2 rfl) ?_
  refine w_getR am hst (k := 1) (b := ad 52) (by decide) (fun _ _ _ => cE_50) rfl inT3 (by decide) (fun _ _ _ => rfl) fRX3_15 dX3_between_36 ?_
  refine lv_iload_n hx hb dX3_between_39 rfl (lv_at hl 4 rfl) ?_
  refine w_dald am hst (by decide) (fun _ _ _ => cE_52) (n := b) (nI_clamp (by omega)) (vp_in_nI (by omega) (by decide)) dX3_between_40 (fun x4 hx4 => ?_)
  refine lv_aload_n hx hb dX3_between_41 rfl (lv_at hl 2 rfl) ?_
  refine w_getR am hst (k := 1) (b := ad 52) (by decide) (fun _ _ _ => cE_50) rfl inT3 (by decide) (fun _ _ _ => rfl) fRX3_15 dX3_between_42 ?_
  refine lv_iload_n hx hb dX3_between_45 rfl (lv_at hl 3 rfl) ?_
  refine w_dald am hst (by decide) (fun _ _ _ => cE_52) (n := a) (nI_clamp (by omega)) (vp_in_nI (by omega) (by decide)) dX3_between_46 (fun x5 hx5 => ?_)
  refine w_dsub hd hx hb hx4 hx5 dX3_between_47 (fun x6 d0 hx6 hd => ?_)
  refine w_dmul hd hx hb hx1 hx6 dX3_between_48 (fun x7 d0 hx7 hd => ?_)
  refine lv_dload hx hb dX3_between_49 (lv_at hl 0 rfl) ?_
  refine w_ddiv hd hx hb hx7 hx2 dX3_between_51 (fun x8 d0 hx8 hd => ?_)
  refine w_dadd hd hx hb hx3 hx8 dX3_between_52 (fun x9 d0 hx9 hd => ?_)
  exact e_dD hd hx hb hr hlk hst hx9 dX3_between_53

set_option maxHeartbeats 4000000 in
set_option maxRecDepth 100000 in
theorem k_X3_valueAt {l : Launch} {D : va_G} {cy ad : Nat → Nat} {I : Im} {G : Dm} {J : Jm} (hadI : adI ad) {v : Int32} {cnt : Nat} (hcnt : I 50 2 = nI cnt) (hcnt2 : cnt ≤ 16) : kD l yX3_valueAt (.code yX3_valueAt cX3_valueAt 5 (some .double)) (rmK 1 0 0 27) D cy ad [.ref (ad 50), .int v] I G J (qD D cy ad (vaF I G v cnt 0 0) I G J) := by
  refine start_D hadI (by decide +kernel) (Nat.le_of_ble_eq_true rfl) ?_
  intro p e s m below meth cd am hx hb hr hlk hst ls hl d0 hd
  have hl : lv_has ls 5 [(0, .ref (ad 50)), (1, .int v)] := hl
  refine lv_dconst0 hx hb dX3_valueAt_0 ?_
  refine lv_dstore_n (lv' := [(2, .double FP.dconst0), (0, .ref (ad 50)), (1, .int v)]) hx hb dX3_valueAt_1 rfl hl (by decide) rfl (fun ls hl => ?_)
  refine lv_iconst (v := 0) hx hb dX3_valueAt_2 (by decide) ?_
  refine lv_istore (lv' := [(4, .int 0), (2, .double FP.dconst0), (0, .ref (ad 50)), (1, .int v)]) hx hb dX3_valueAt_3 hl (by decide) rfl (fun ls hl => ?_)
  have lp0 : ∀ (n i : Nat), n + i = cnt → ∀ x X : UInt64, cn x = X → vaF I G v n i X = vaF I G v cnt 0 0 → ∀ d0 : Drawn, s.drawn.sameBut d0 lw_cs → ∀ (H : Heap) (locs : List Loc), St D cy ad s.heap I G J H locs → ∀ ls, lv_has ls 5 [(0, .ref (ad 50)), (1, .int v), (2, .double x), (4, .int (nI i))] → W p l e (rmK 1 0 0 27) (s.setDrawn d0) m [.ref (ad 50), .int v].toArray below meth cd H locs 0 0 (MQD lw_cs below (qD D cy ad (vaF I G v cnt 0 0) I G J s.heap.size) [.ref (ad 50), .int v].toArray s ((rmK 1 0 0 27)).cells ((rmK 1 0 0 27)).slots (aA ad s.heap.size)) (F0 m 5 ls []) := by
    intro n
    induction n with
    | zero =>
      intro i hi x X hxX hR d0 hd H locs hst ls hl
      obtain rfl : cnt = i := by omega
      refine lv_iload hx hb dX3_valueAt_5 (lv_at hl 3 rfl) ?_
      refine lv_aload_n hx hb dX3_valueAt_7 rfl (lv_at hl 0 rfl) ?_
      refine w_getI am hst (k := 2) (by decide) (fun _ _ _ => cE_50) rfl inT3 (by decide) (fun _ _ _ => rfl) fRX3_23 dX3_valueAt_8 ?_
      rw [hcnt]
      refine lv_icmp_ge (tgt := 104) hx hb dX3_valueAt_11 (by decide) (fun c_11 => ?_) (fun c_11 => absurd ((nI_le (Nat.le_refl _) (by omega))) c_11)
      refine lv_dload_n hx hb dX3_valueAt_104 rfl (lv_at hl 2 rfl) ?_
      exact e_dD hd hx hb hr hlk hst (by rw [hxX]; exact hR) dX3_valueAt_105
    | succ n ih_lp0 =>
      intro i hi x X hxX hR d0 hd H locs hst ls hl
      refine lv_iload hx hb dX3_valueAt_5 (lv_at hl 3 rfl) ?_
      refine lv_aload_n hx hb dX3_valueAt_7 rfl (lv_at hl 0 rfl) ?_
      refine w_getI am hst (k := 2) (by decide) (fun _ _ _ => cE_50) rfl inT3 (by decide) (fun _ _ _ => rfl) fRX3_23 dX3_valueAt_8 ?_
      rw [hcnt]
      refine lv_icmp_ge (tgt := 104) hx hb dX3_valueAt_11 (by decide) (fun c_11 => absurd c_11 ((nI_ge (by omega) (by omega)))) (fun c_11 => ?_)
      refine lv_iload_n hx hb dX3_valueAt_14 rfl (lv_at hl 1 rfl) ?_
      refine lv_aload_n hx hb dX3_valueAt_15 rfl (lv_at hl 0 rfl) ?_
      refine w_getR am hst (k := 0) (b := ad 51) (by decide) (fun _ _ _ => cE_50) rfl inT3 (by decide) (fun _ _ _ => rfl) fRX3_9 dX3_valueAt_16 ?_
      refine lv_iload hx hb dX3_valueAt_19 (lv_at hl 3 rfl) ?_
      refine w_iald am hst (by decide) (fun _ _ _ => cE_51) (n := i) (nI_clamp (by omega)) (vp_in_nI (by omega) (by decide)) dX3_valueAt_21 ?_
      refine lv_icmp_eq (tgt := 41) hx hb dX3_valueAt_22 (by decide) (fun c_22 => ?_) (fun c_22 => ?_)
      · skip
        refine lv_aload_n hx hb dX3_valueAt_41 rfl (lv_at hl 0 rfl) ?_
        refine w_getR am hst (k := 1) (b := ad 52) (by decide) (fun _ _ _ => cE_50) rfl inT3 (by decide) (fun _ _ _ => rfl) fRX3_15 dX3_valueAt_42 ?_
        refine lv_iload hx hb dX3_valueAt_45 (lv_at hl 3 rfl) ?_
        refine w_dald am hst (by decide) (fun _ _ _ => cE_52) (n := i) (nI_clamp (by omega)) (vp_in_nI (by omega) (by decide)) dX3_valueAt_47 (fun x1 hx1 => ?_)
        exact e_dD hd hx hb hr hlk hst (by rw [hx1, ← hR, vaF, if_pos c_22]) dX3_valueAt_48
      · skip
        refine lv_iload hx hb dX3_valueAt_25 (lv_at hl 3 rfl) ?_
        refine lv_if_ne (tgt := 49) hx hb dX3_valueAt_27 (by decide) (fun c_27 => ?_) (fun c_27 => ?_)
        · skip
          refine lv_iload hx hb dX3_valueAt_49 (lv_at hl 3 rfl) ?_
          refine lv_if_le (tgt := 90) hx hb dX3_valueAt_51 (by decide) (fun c_51 => absurd c_51 ((nI_nle (Nat.pos_of_ne_zero (fun h => c_27 (by rw [h]; rfl))) (by omega)))) (fun c_51 => ?_)
          refine lv_aload_n hx hb dX3_valueAt_54 rfl (lv_at hl 0 rfl) ?_
          refine w_getR am hst (k := 0) (b := ad 51) (by decide) (fun _ _ _ => cE_50) rfl inT3 (by decide) (fun _ _ _ => rfl) fRX3_9 dX3_valueAt_55 ?_
          refine lv_iload hx hb dX3_valueAt_58 (lv_at hl 3 rfl) ?_
          refine lv_iconst (v := 1) hx hb dX3_valueAt_60 (by decide) ?_
          have hi1 : 0 < i := (Nat.pos_of_ne_zero (fun h => c_27 (by rw [h]; rfl)))
          refine lv_isub hx hb dX3_valueAt_61 ?_
          rw [show nI i - 1 = nI (i - 1) from pk_sub (b := 1) (by omega)]
          refine w_iald am hst (by decide) (fun _ _ _ => cE_51) (n := i - 1) (nI_clamp (by omega)) (vp_in_nI (by omega) (by decide)) dX3_valueAt_62 ?_
          refine lv_iload_n hx hb dX3_valueAt_63 rfl (lv_at hl 1 rfl) ?_
          refine lv_icmp_ge (tgt := 90) hx hb dX3_valueAt_64 (by decide) (fun c_64 => ?_) (fun c_64 => ?_)
          · skip
            refine lv_aload_n hx hb dX3_valueAt_90 rfl (lv_at hl 0 rfl) ?_
            refine w_getR am hst (k := 1) (b := ad 52) (by decide) (fun _ _ _ => cE_50) rfl inT3 (by decide) (fun _ _ _ => rfl) fRX3_15 dX3_valueAt_91 ?_
            refine lv_iload hx hb dX3_valueAt_94 (lv_at hl 3 rfl) ?_
            refine w_dald am hst (by decide) (fun _ _ _ => cE_52) (n := i) (nI_clamp (by omega)) (vp_in_nI (by omega) (by decide)) dX3_valueAt_96 (fun x2 hx2 => ?_)
            refine lv_dstore_n (lv' := [(2, .double x2), (0, .ref (ad 50)), (1, .int v), (4, .int (nI i))]) hx hb dX3_valueAt_97 rfl hl (by decide) rfl (fun ls hl => ?_)
            refine lv_iinc (v := nI (i + 1)) (lv' := [(4, .int (nI (i + 1))), (2, .double x2), (0, .ref (ad 50)), (1, .int v)]) hx hb dX3_valueAt_98 hl (k := 3) rfl (nI_1 i) (by decide) rfl (fun ls hl => ?_)
            refine lv_goto (tgt := 5) hx hb dX3_valueAt_101 (by decide) ?_
            exact ih_lp0 (i + 1) (by omega) x2 _ hx2 (by rw [← hR]; show _ = (if _ then _ else _); rw [if_neg c_22, if_neg (fun h => c_27 (by rw [h.1]; rfl)), if_neg (fun h => h.2.1 c_64)]) d0 hd _ _ hst ls (lv_sub hl [2, 3, 1, 0] rfl)
          · skip
            refine lv_iload_n hx hb dX3_valueAt_67 rfl (lv_at hl 1 rfl) ?_
            refine lv_aload_n hx hb dX3_valueAt_68 rfl (lv_at hl 0 rfl) ?_
            refine w_getR am hst (k := 0) (b := ad 51) (by decide) (fun _ _ _ => cE_50) rfl inT3 (by decide) (fun _ _ _ => rfl) fRX3_9 dX3_valueAt_69 ?_
            refine lv_iload hx hb dX3_valueAt_72 (lv_at hl 3 rfl) ?_
            refine w_iald am hst (by decide) (fun _ _ _ => cE_51) (n := i) (nI_clamp (by omega)) (vp_in_nI (by omega) (by decide)) dX3_valueAt_74 ?_
            refine lv_icmp_ge (tgt := 90) hx hb dX3_valueAt_75 (by decide) (fun c_75 => ?_) (fun c_75 => ?_)
            · skip
              refine lv_aload_n hx hb dX3_valueAt_90 rfl (lv_at hl 0 rfl) ?_
              refine w_getR am hst (k := 1) (b := ad 52) (by decide) (fun _ _ _ => cE_50) rfl inT3 (by decide) (fun _ _ _ => rfl) fRX3_15 dX3_valueAt_91 ?_
              refine lv_iload hx hb dX3_valueAt_94 (lv_at hl 3 rfl) ?_
              refine w_dald am hst (by decide) (fun _ _ _ => cE_52) (n := i) (nI_clamp (by omega)) (vp_in_nI (by omega) (by decide)) dX3_valueAt_96 (fun x3 hx3 => ?_)
              refine lv_dstore_n (lv' := [(2, .double x3), (0, .ref (ad 50)), (1, .int v), (4, .int (nI i))]) hx hb dX3_valueAt_97 rfl hl (by decide) rfl (fun ls hl => ?_)
              refine lv_iinc (v := nI (i + 1)) (lv' := [(4, .int (nI (i + 1))), (2, .double x3), (0, .ref (ad 50)), (1, .int v)]) hx hb dX3_valueAt_98 hl (k := 3) rfl (nI_1 i) (by decide) rfl (fun ls hl => ?_)
              refine lv_goto (tgt := 5) hx hb dX3_valueAt_101 (by decide) ?_
              exact ih_lp0 (i + 1) (by omega) x3 _ hx3 (by rw [← hR]; show _ = (if _ then _ else _); rw [if_neg c_22, if_neg (fun h => c_27 (by rw [h.1]; rfl)), if_neg (fun h => h.2.2 c_75)]) d0 hd _ _ hst ls (lv_sub hl [2, 3, 1, 0] rfl)
            · skip
              refine lv_aload_n hx hb dX3_valueAt_78 rfl (lv_at hl 0 rfl) ?_
              refine lv_iload hx hb dX3_valueAt_79 (lv_at hl 3 rfl) ?_
              refine lv_iconst (v := 1) hx hb dX3_valueAt_81 (by decide) ?_
              refine lv_isub hx hb dX3_valueAt_82 ?_
              rw [show nI i - 1 = nI (i - 1) from pk_sub (b := 1) (by omega)]
              refine lv_iload hx hb dX3_valueAt_83 (lv_at hl 3 rfl) ?_
              refine lv_iload_n hx hb dX3_valueAt_85 rfl (lv_at hl 1 rfl) ?_
              refine c_dD hd hst (r_VD (As := [.int (nI (i - 1)), .int (nI i), .int v]) (rest := []) am hst hl (k_X3_between hadI (a := i - 1) (b := i) (by omega) (by omega)) kRX3_26 imX3_between slX3_between ⟨Nat.le_of_ble_eq_true rfl, Nat.le_of_ble_eq_true rfl⟩ (by decide) (fun _ _ _ => cE_50) rfl rfl rfl (Nat.le_of_ble_eq_true rfl) dX3_valueAt_86 ⟨Nat.le_of_ble_eq_true rfl, Nat.le_of_ble_eq_true rfl⟩) (fun x4 d0 H locs hx4 hd hst => ?_)
              exact e_dD hd hx hb hr hlk hst (by rw [hx4, ← hR, vaF, if_neg c_22, if_neg (fun h => c_27 (by rw [h.1]; rfl)), if_pos ⟨fun h => c_27 (by rw [h]; rfl), c_64, c_75⟩]) dX3_valueAt_89
        · skip
          refine lv_iload_n hx hb dX3_valueAt_30 rfl (lv_at hl 1 rfl) ?_
          refine lv_aload_n hx hb dX3_valueAt_31 rfl (lv_at hl 0 rfl) ?_
          refine w_getR am hst (k := 0) (b := ad 51) (by decide) (fun _ _ _ => cE_50) rfl inT3 (by decide) (fun _ _ _ => rfl) fRX3_9 dX3_valueAt_32 ?_
          refine lv_iload hx hb dX3_valueAt_35 (lv_at hl 3 rfl) ?_
          refine w_iald am hst (by decide) (fun _ _ _ => cE_51) (n := i) (nI_clamp (by omega)) (vp_in_nI (by omega) (by decide)) dX3_valueAt_37 ?_
          refine lv_icmp_ge (tgt := 49) hx hb dX3_valueAt_38 (by decide) (fun c_38 => ?_) (fun c_38 => ?_)
          · skip
            refine lv_iload hx hb dX3_valueAt_49 (lv_at hl 3 rfl) ?_
            refine lv_if_le (tgt := 90) hx hb dX3_valueAt_51 (by decide) (fun c_51 => ?_) (fun c_51 => absurd ((by rw [c_27]; decide)) c_51)
            refine lv_aload_n hx hb dX3_valueAt_90 rfl (lv_at hl 0 rfl) ?_
            refine w_getR am hst (k := 1) (b := ad 52) (by decide) (fun _ _ _ => cE_50) rfl inT3 (by decide) (fun _ _ _ => rfl) fRX3_15 dX3_valueAt_91 ?_
            refine lv_iload hx hb dX3_valueAt_94 (lv_at hl 3 rfl) ?_
            refine w_dald am hst (by decide) (fun _ _ _ => cE_52) (n := i) (nI_clamp (by omega)) (vp_in_nI (by omega) (by decide)) dX3_valueAt_96 (fun x5 hx5 => ?_)
            refine lv_dstore_n (lv' := [(2, .double x5), (0, .ref (ad 50)), (1, .int v), (4, .int (nI i))]) hx hb dX3_valueAt_97 rfl hl (by decide) rfl (fun ls hl => ?_)
            refine lv_iinc (v := nI (i + 1)) (lv' := [(4, .int (nI (i + 1))), (2, .double x5), (0, .ref (ad 50)), (1, .int v)]) hx hb dX3_valueAt_98 hl (k := 3) rfl (nI_1 i) (by decide) rfl (fun ls hl => ?_)
            refine lv_goto (tgt := 5) hx hb dX3_valueAt_101 (by decide) ?_
            exact ih_lp0 (i + 1) (by omega) x5 _ hx5 (by rw [← hR]; show _ = (if _ then _ else _); rw [if_neg c_22, if_neg (fun h => h.2 c_38), if_neg (fun h => h.1 ((nI_eq (b := 0) (by omega) (by omega)).mp c_27))]) d0 hd _ _ hst ls (lv_sub hl [2, 3, 1, 0] rfl)
          · skip
            refine lv_aload_n hx hb dX3_valueAt_41 rfl (lv_at hl 0 rfl) ?_
            refine w_getR am hst (k := 1) (b := ad 52) (by decide) (fun _ _ _ => cE_50) rfl inT3 (by decide) (fun _ _ _ => rfl) fRX3_15 dX3_valueAt_42 ?_
            refine lv_iload hx hb dX3_valueAt_45 (lv_at hl 3 rfl) ?_
            refine w_dald am hst (by decide) (fun _ _ _ => cE_52) (n := i) (nI_clamp (by omega)) (vp_in_nI (by omega) (by decide)) dX3_valueAt_47 (fun x6 hx6 => ?_)
            exact e_dD hd hx hb hr hlk hst (by rw [hx6, ← hR, vaF, if_neg c_22, if_pos ⟨((nI_eq (b := 0) (by omega) (by omega)).mp c_27), c_38⟩]) dX3_valueAt_48
  exact lp0 cnt 0 (by omega) _ _ cn_k0 rfl d0 hd _ _ hst ls (lv_sub hl [2, 3, 1, 0] rfl)

set_option maxHeartbeats 4000000 in
set_option maxRecDepth 100000 in
theorem k_X4_keepForetold {l : Launch} {D : va_G} {cy ad : Nat → Nat} {I : Im} {G : Dm} {J : Jm} (hadI : adI ad)  : kD l yX4_keepForetold (.code yX4_keepForetold cX4_keepForetold 5 none) (rmK 3 0 0 62) D cy ad [.ref (ad 0)] I G J (qV D cy ad I (kf1 I G 32) J) := by
  refine start_D hadI (by decide +kernel) (Nat.le_of_ble_eq_true rfl) ?_
  intro p e s m below meth cd am hx hb hr hlk hst ls hl d0 hd
  have hl : lv_has ls 5 [(0, .ref (ad 0))] := hl
  refine lv_aload_n hx hb dX4_keepForetold_0 rfl (lv_at hl 0 rfl) ?_
  refine w_getR am hst (k := 1) (b := ad 1) (by decide) (fun _ _ _ => cE_S) rfl inT4 (by decide) (fun _ _ _ => rfl) fRX4_15 dX4_keepForetold_1 ?_
  refine lv_astore_n (lv' := [(1, .ref (ad 1)), (0, .ref (ad 0))]) hx hb dX4_keepForetold_4 rfl hl (by decide) rfl (fun ls hl => ?_)
  refine lv_aload_n hx hb dX4_keepForetold_5 rfl (lv_at hl 0 rfl) ?_
  refine w_alen am hst (t0 := 3) (v := 32) (by decide) _ (fun _ => cE_1) rfl rfl dX4_keepForetold_6 ?_
  refine lv_istore_n (lv' := [(2, .int 32), (1, .ref (ad 1)), (0, .ref (ad 0))]) hx hb dX4_keepForetold_7 rfl hl (by decide) rfl (fun ls hl => ?_)
  refine lv_iconst (v := 0) hx hb dX4_keepForetold_8 (by decide) ?_
  refine lv_istore_n (lv' := [(3, .int 0), (2, .int 32), (1, .ref (ad 1)), (0, .ref (ad 0))]) hx hb dX4_keepForetold_9 rfl hl (by decide) rfl (fun ls hl => ?_)
  have lp0 : ∀ (n i : Nat), n + i = 32 → ∀ d0 : Drawn, s.drawn.sameBut d0 lw_cs → ∀ (H : Heap) (locs : List Loc), St D cy ad s.heap I (kf1 I G i) J H locs → ∀ ls, lv_has ls 5 [(0, .ref (ad 0)), (1, .ref (ad 1)), (2, .int 32), (3, .int (nI i))] → W p l e (rmK 3 0 0 62) (s.setDrawn d0) m [.ref (ad 0)].toArray below meth cd H locs 0 0 (MQD lw_cs below (qV D cy ad I (kf1 I G 32) J s.heap.size) [.ref (ad 0)].toArray s ((rmK 3 0 0 62)).cells ((rmK 3 0 0 62)).slots (aA ad s.heap.size)) (F0 m 10 ls []) := by
    intro n
    induction n with
    | zero =>
      intro i hi d0 hd H locs hst ls hl
      obtain rfl : 32 = i := by omega
      refine lv_iload_n hx hb dX4_keepForetold_10 rfl (lv_at hl 3 rfl) ?_
      refine lv_iload_n hx hb dX4_keepForetold_11 rfl (lv_at hl 2 rfl) ?_
      refine lv_icmp_ge (tgt := 40) hx hb dX4_keepForetold_12 (by decide) (fun c_12 => ?_) (fun c_12 => absurd ((show (32 : Int32) ≤ nI 32 by decide)) c_12)
      exact e_vD hd hx hb hr hlk hst dX4_keepForetold_40
    | succ n ih_lp0 =>
      intro i hi d0 hd H locs hst ls hl
      refine lv_iload_n hx hb dX4_keepForetold_10 rfl (lv_at hl 3 rfl) ?_
      refine lv_iload_n hx hb dX4_keepForetold_11 rfl (lv_at hl 2 rfl) ?_
      refine lv_icmp_ge (tgt := 40) hx hb dX4_keepForetold_12 (by decide) (fun c_12 => absurd c_12 ((nI_ge (b := 32) (by omega) (by decide)))) (fun c_12 => ?_)
      refine lv_aload_n hx hb dX4_keepForetold_15 rfl (lv_at hl 1 rfl) ?_
      refine lv_iload_n hx hb dX4_keepForetold_16 rfl (lv_at hl 3 rfl) ?_
      refine w_aldR am hst (n := i) (nI_clamp (by omega)) (vp_in_nI (by omega) (by decide)) dX4_keepForetold_17 ?_
      refine lv_astore (lv' := [(4, .ref (ad (2 + i))), (0, .ref (ad 0)), (1, .ref (ad 1)), (2, .int 32), (3, .int (nI i))]) hx hb dX4_keepForetold_18 hl (by decide) rfl (fun ls hl => ?_)
      refine lv_aload hx hb dX4_keepForetold_20 (lv_at hl 0 rfl) ?_
      refine lv_aload_n hx hb dX4_keepForetold_22 rfl (lv_at hl 1 rfl) ?_
      refine w_getR am hst (k := 3) (b := ad 34) (by decide) (fun _ _ _ => cE_S) rfl inT4 (by decide) (fun _ _ _ => rfl) fRX4_23 dX4_keepForetold_23 ?_
      refine lv_aload hx hb dX4_keepForetold_26 (lv_at hl 0 rfl) ?_
      refine c_dD hd hst (r_ND (As := [.ref (ad (2 + i))]) (rest := [.ref (ad (2 + i))]) am hst hl (k_X2_foretell hadI (Or.inl rfl) (by omega)) kRX4_114 imX2_foretell slX2_foretell ⟨Nat.le_of_ble_eq_true rfl, Nat.le_of_ble_eq_true rfl⟩ (by omega) (fun _ _ _ => cE_F (Or.inl rfl)) rfl rfl rfl (Nat.le_of_ble_eq_true rfl) dX4_keepForetold_28 ⟨Nat.le_of_ble_eq_true rfl, Nat.le_of_ble_eq_true rfl⟩) (fun x1 d0 H locs hx1 hd hst => ?_)
      refine w_putDN am hst (k := 7) hx1 (by omega) (fun _ _ _ => cE_B (by omega)) rfl inT0 tyX0 tyX0_ok nmX0 (by decide) fRX4_202 (fun _ _ _ => rfl) (fun _ _ _ => Nat.le_of_ble_eq_true rfl) rfl rfl dX4_keepForetold_31 (fun H locs hst => ?_)
      refine lv_iinc (v := nI (i + 1)) (lv' := [(3, .int (nI (i + 1))), (4, .ref (ad (2 + i))), (0, .ref (ad 0)), (1, .ref (ad 1)), (2, .int 32)]) hx hb dX4_keepForetold_34 hl (k := 4) rfl (nI_1 i) (by decide) rfl (fun ls hl => ?_)
      refine lv_goto (tgt := 10) hx hb dX4_keepForetold_37 (by decide) ?_
      exact ih_lp0 (i + 1) (by omega) d0 hd _ _ hst ls (lv_sub hl [2, 3, 4, 0] rfl)
  exact lp0 32 0 (by omega) d0 hd _ _ hst ls (lv_sub hl [3, 2, 1, 0] rfl)

set_option maxHeartbeats 4000000 in
set_option maxRecDepth 100000 in
theorem k_X4_isEnough {l : Launch} {D : va_G} {cy ad : Nat → Nat} {I : Im} {G : Dm} {J : Jm} (hadI : adI ad) {x X y L : UInt64} {a b : Int32} (hxX : cn x = X) (hyL : cn y = L) : kM l yX4_isEnough (.code yX4_isEnough cX4_isEnough 13 (some .boolean)) (rmK 2 0 0 40) D cy ad [.ref (ad 0), .double x, .double y, .int a, .int b] I G J (qI D cy ad (zB (enR I G X L a b)) I G J) := by
  refine start_M hadI (by decide +kernel) (Nat.le_of_ble_eq_true rfl) ?_
  intro p e s m below meth cd am hx hb hr hlk hst ls hl
  have hl : lv_has ls 13 [(0, .ref (ad 0)), (1, .double x), (3, .double y), (5, .int a), (6, .int b)] := hl
  refine lv_iconst (v := 0) hx hb dX4_isEnough_0 (by decide) ?_
  refine lv_istore (lv' := [(7, .int 0), (0, .ref (ad 0)), (1, .double x), (3, .double y), (5, .int a), (6, .int b)]) hx hb dX4_isEnough_1 hl (by decide) rfl (fun ls hl => ?_)
  refine lv_iconst (v := 0) hx hb dX4_isEnough_3 (by decide) ?_
  refine lv_istore (lv' := [(8, .int 0), (7, .int 0), (0, .ref (ad 0)), (1, .double x), (3, .double y), (5, .int a), (6, .int b)]) hx hb dX4_isEnough_4 hl (by decide) rfl (fun ls hl => ?_)
  refine lv_aload_n hx hb dX4_isEnough_6 rfl (lv_at hl 2 rfl) ?_
  refine w_getR am hst (k := 1) (b := ad 1) (by decide) (fun _ _ _ => cE_S) rfl inT4 (by decide) (fun _ _ _ => rfl) fRX4_15 dX4_isEnough_7 ?_
  refine lv_astore (lv' := [(9, .ref (ad 1)), (8, .int 0), (7, .int 0), (0, .ref (ad 0)), (1, .double x), (3, .double y), (5, .int a), (6, .int b)]) hx hb dX4_isEnough_10 hl (by decide) rfl (fun ls hl => ?_)
  refine lv_aload hx hb dX4_isEnough_12 (lv_at hl 0 rfl) ?_
  refine w_alen am hst (t0 := 3) (v := 32) (by decide) _ (fun _ => cE_1) rfl rfl dX4_isEnough_14 ?_
  refine lv_istore (lv' := [(10, .int 32), (9, .ref (ad 1)), (8, .int 0), (7, .int 0), (0, .ref (ad 0)), (1, .double x), (3, .double y), (5, .int a), (6, .int b)]) hx hb dX4_isEnough_15 hl (by decide) rfl (fun ls hl => ?_)
  refine lv_iconst (v := 0) hx hb dX4_isEnough_17 (by decide) ?_
  refine lv_istore (lv' := [(11, .int 0), (10, .int 32), (9, .ref (ad 1)), (8, .int 0), (7, .int 0), (0, .ref (ad 0)), (1, .double x), (3, .double y), (5, .int a), (6, .int b)]) hx hb dX4_isEnough_18 hl (by decide) rfl (fun ls hl => ?_)
  have lp0 : ∀ (n i : Nat), n + i = 32 → ∀ (H : Heap) (locs : List Loc), St D cy ad s.heap I G J H locs → ∀ ls, lv_has ls 13 [(0, .ref (ad 0)), (1, .double x), (3, .double y), (5, .int a), (6, .int b), (7, .int (nI (enC I G X i))), (8, .int (nI (enW I G X L i))), (9, .ref (ad 1)), (10, .int 32), (11, .int (nI i))] → W p l e (rmK 2 0 0 40) (s.setDrawn s.drawn) m [.ref (ad 0), .double x, .double y, .int a, .int b].toArray below meth cd H locs 0 0 (MQ below (qI D cy ad (zB (enR I G X L a b)) I G J s.heap.size) [.ref (ad 0), .double x, .double y, .int a, .int b].toArray s ((rmK 2 0 0 40)).cells ((rmK 2 0 0 40)).slots (aA ad s.heap.size)) (F0 m 20 ls []) := by
    intro n
    induction n with
    | zero =>
      intro i hi H locs hst ls hl
      obtain rfl : 32 = i := by omega
      refine lv_iload hx hb dX4_isEnough_20 (lv_at hl 9 rfl) ?_
      refine lv_iload hx hb dX4_isEnough_22 (lv_at hl 8 rfl) ?_
      refine lv_icmp_ge (tgt := 74) hx hb dX4_isEnough_24 (by decide) (fun c_24 => ?_) (fun c_24 => absurd ((show (32 : Int32) ≤ nI 32 by decide)) c_24)
      refine lv_iload hx hb dX4_isEnough_74 (lv_at hl 6 rfl) ?_
      refine lv_iload hx hb dX4_isEnough_76 (lv_at hl 4 rfl) ?_
      refine lv_imul hx hb dX4_isEnough_78 ?_
      refine lv_iload hx hb dX4_isEnough_79 (lv_at hl 3 rfl) ?_
      refine lv_iload hx hb dX4_isEnough_81 (lv_at hl 5 rfl) ?_
      refine lv_imul hx hb dX4_isEnough_83 ?_
      refine lv_icmp_gt (tgt := 91) hx hb dX4_isEnough_84 (by decide) (fun c_84 => ?_) (fun c_84 => ?_)
      · skip
        refine lv_iconst (v := 0) hx hb dX4_isEnough_91 (by decide) ?_
        exact e_i hx hb hr hlk hst rfl (by simp only [enR, zB, c_84, not_true_eq_false, not_false_eq_true, decide_true, decide_false, Bool.true_and, Bool.false_and, Bool.and_true, Bool.and_false, Bool.and_self, if_true, if_false, ite_true, ite_false, reduceIte, Bool.false_eq_true]) dX4_isEnough_92
      · skip
        refine lv_iconst (v := 1) hx hb dX4_isEnough_87 (by decide) ?_
        refine lv_goto (tgt := 92) hx hb dX4_isEnough_88 (by decide) ?_
        exact e_i hx hb hr hlk hst rfl (by simp only [enR, zB, c_84, not_true_eq_false, not_false_eq_true, decide_true, decide_false, Bool.true_and, Bool.false_and, Bool.and_true, Bool.and_false, Bool.and_self, if_true, if_false, ite_true, ite_false, reduceIte, Bool.false_eq_true]) dX4_isEnough_92
    | succ n ih_lp0 =>
      intro i hi H locs hst ls hl
      refine lv_iload hx hb dX4_isEnough_20 (lv_at hl 9 rfl) ?_
      refine lv_iload hx hb dX4_isEnough_22 (lv_at hl 8 rfl) ?_
      refine lv_icmp_ge (tgt := 74) hx hb dX4_isEnough_24 (by decide) (fun c_24 => absurd c_24 ((nI_ge (b := 32) (by omega) (by decide)))) (fun c_24 => ?_)
      refine lv_aload hx hb dX4_isEnough_27 (lv_at hl 7 rfl) ?_
      refine lv_iload hx hb dX4_isEnough_29 (lv_at hl 9 rfl) ?_
      refine w_aldR am hst (n := i) (nI_clamp (by omega)) (vp_in_nI (by omega) (by decide)) dX4_isEnough_31 ?_
      refine lv_astore (lv' := [(12, .ref (ad (2 + i))), (0, .ref (ad 0)), (1, .double x), (3, .double y), (5, .int a), (6, .int b), (7, .int (nI (enC I G X i))), (8, .int (nI (enW I G X L i))), (9, .ref (ad 1)), (10, .int 32), (11, .int (nI i))]) hx hb dX4_isEnough_32 hl (by decide) rfl (fun ls hl => ?_)
      refine lv_aload hx hb dX4_isEnough_34 (lv_at hl 0 rfl) ?_
      refine c_i hst (r_N (As := []) (rest := []) am hst hl (k_X0_isFitted hadI (by omega)) kRX4_205 imX0_isFitted slX0_isFitted ⟨Nat.le_of_ble_eq_true rfl, Nat.le_of_ble_eq_true rfl⟩ (by omega) (fun _ _ _ => cE_B (by omega)) rfl rfl rfl (Nat.le_of_ble_eq_true rfl) dX4_isEnough_36 ⟨Nat.le_of_ble_eq_true rfl, Nat.le_of_ble_eq_true rfl⟩) (fun H locs hst => ?_)
      refine lv_if_eq (tgt := 68) hx hb dX4_isEnough_39 (by decide) (fun c_39 => ?_) (fun c_39 => ?_)
      · skip
        refine lv_iinc (v := nI (i + 1)) (lv' := [(11, .int (nI (i + 1))), (12, .ref (ad (2 + i))), (0, .ref (ad 0)), (1, .double x), (3, .double y), (5, .int a), (6, .int b), (7, .int (nI (enC I G X i))), (8, .int (nI (enW I G X L i))), (9, .ref (ad 1)), (10, .int 32)]) hx hb dX4_isEnough_68 hl (k := 10) rfl (nI_1 i) (by decide) rfl (fun ls hl => ?_)
        refine lv_goto (tgt := 20) hx hb dX4_isEnough_71 (by decide) ?_
        have ih2 := ih_lp0 (i + 1) (by omega) 
        rw [show enC I G X (i + 1) = enC I G X i from if_neg (by rw [show enP I G X i = false from by unfold enP; rw [zB_0.mp c_39]; rfl]; exact Bool.false_ne_true), show enW I G X L (i + 1) = enW I G X L i from if_neg (by rw [show enP I G X i = false from by unfold enP; rw [zB_0.mp c_39]; rfl]; exact Bool.false_ne_true)] at ih2
        exact ih2 _ _ hst ls (lv_sub hl [2, 3, 4, 5, 6, 7, 8, 9, 10, 0] rfl)
      · skip
        refine lv_aload hx hb dX4_isEnough_42 (lv_at hl 0 rfl) ?_
        refine w_getDN am hst (k := 7) (by omega) (fun _ _ _ => cE_B (by omega)) rfl inT0 (by decide) (fun _ _ _ => rfl) fRX4_202 dX4_isEnough_44 (fun x1 hx1 => ?_)
        refine lv_dload_n hx hb dX4_isEnough_47 rfl (lv_at hl 2 rfl) ?_
        refine w_dcmp hx hb hx1 hxX dX4_isEnough_48 ?_
        refine lv_if_lt (tgt := 68) hx hb dX4_isEnough_49 (by decide) (fun c_49 => ?_) (fun c_49 => ?_)
        · skip
          refine lv_iinc (v := nI (i + 1)) (lv' := [(11, .int (nI (i + 1))), (12, .ref (ad (2 + i))), (0, .ref (ad 0)), (1, .double x), (3, .double y), (5, .int a), (6, .int b), (7, .int (nI (enC I G X i))), (8, .int (nI (enW I G X L i))), (9, .ref (ad 1)), (10, .int 32)]) hx hb dX4_isEnough_68 hl (k := 10) rfl (nI_1 i) (by decide) rfl (fun ls hl => ?_)
          refine lv_goto (tgt := 20) hx hb dX4_isEnough_71 (by decide) ?_
          have ih2 := ih_lp0 (i + 1) (by omega) 
          rw [show enC I G X (i + 1) = enC I G X i from if_neg (by rw [show enP I G X i = false from by unfold enP; rw [zB_n0.mp c_39]; simp only [c_49, not_true_eq_false, not_false_eq_true, decide_true, decide_false, Bool.true_and, Bool.false_and, Bool.and_true, Bool.and_false, Bool.and_self, if_true, if_false, ite_true, ite_false, reduceIte, Bool.false_eq_true]]; exact Bool.false_ne_true), show enW I G X L (i + 1) = enW I G X L i from if_neg (by rw [show enP I G X i = false from by unfold enP; rw [zB_n0.mp c_39]; simp only [c_49, not_true_eq_false, not_false_eq_true, decide_true, decide_false, Bool.true_and, Bool.false_and, Bool.and_true, Bool.and_false, Bool.and_self, if_true, if_false, ite_true, ite_false, reduceIte, Bool.false_eq_true]]; exact Bool.false_ne_true)] at ih2
          exact ih2 _ _ hst ls (lv_sub hl [2, 3, 4, 5, 6, 7, 8, 9, 10, 0] rfl)
        · skip
          refine lv_iinc (v := nI (enC I G X i + 1)) (lv' := [(7, .int (nI (enC I G X i + 1))), (12, .ref (ad (2 + i))), (0, .ref (ad 0)), (1, .double x), (3, .double y), (5, .int a), (6, .int b), (8, .int (nI (enW I G X L i))), (9, .ref (ad 1)), (10, .int 32), (11, .int (nI i))]) hx hb dX4_isEnough_52 hl (k := 6) rfl (nI_1 (enC I G X i)) (by decide) rfl (fun ls hl => ?_)
          refine lv_aload hx hb dX4_isEnough_55 (lv_at hl 1 rfl) ?_
          refine w_getDN am hst (k := 4) (by omega) (fun _ _ _ => cE_B (by omega)) rfl inT0 (by decide) (fun _ _ _ => rfl) fRX4_96 dX4_isEnough_57 (fun x2 hx2 => ?_)
          refine lv_dload_n hx hb dX4_isEnough_60 rfl (lv_at hl 4 rfl) ?_
          refine w_dcmp hx hb hx2 hyL dX4_isEnough_61 ?_
          refine lv_if_ge (tgt := 68) hx hb dX4_isEnough_62 (by decide) (fun c_62 => ?_) (fun c_62 => ?_)
          · skip
            refine lv_iinc (v := nI (i + 1)) (lv' := [(11, .int (nI (i + 1))), (7, .int (nI (enC I G X i + 1))), (12, .ref (ad (2 + i))), (0, .ref (ad 0)), (1, .double x), (3, .double y), (5, .int a), (6, .int b), (8, .int (nI (enW I G X L i))), (9, .ref (ad 1)), (10, .int 32)]) hx hb dX4_isEnough_68 hl (k := 10) rfl (nI_1 i) (by decide) rfl (fun ls hl => ?_)
            refine lv_goto (tgt := 20) hx hb dX4_isEnough_71 (by decide) ?_
            have ih2 := ih_lp0 (i + 1) (by omega) 
            rw [show enC I G X (i + 1) = enC I G X i + 1 from if_pos (by unfold enP; rw [zB_n0.mp c_39]; simp only [c_49, not_true_eq_false, not_false_eq_true, decide_true, decide_false, Bool.true_and, Bool.false_and, Bool.and_true, Bool.and_false, Bool.and_self, if_true, if_false, ite_true, ite_false, reduceIte, Bool.false_eq_true]), show enW I G X L (i + 1) = enW I G X L i from if_neg (by rw [show enP I G X i = true from by unfold enP; rw [zB_n0.mp c_39]; simp only [c_49, not_true_eq_false, not_false_eq_true, decide_true, decide_false, Bool.true_and, Bool.false_and, Bool.and_true, Bool.and_false, Bool.and_self, if_true, if_false, ite_true, ite_false, reduceIte, Bool.false_eq_true]]; simp only [enQ, c_62, not_true_eq_false, not_false_eq_true, decide_true, decide_false, Bool.true_and, Bool.false_and, Bool.and_true, Bool.and_false, Bool.and_self, if_true, if_false, ite_true, ite_false, reduceIte, Bool.false_eq_true])] at ih2
            exact ih2 _ _ hst ls (lv_sub hl [3, 4, 5, 6, 7, 1, 8, 9, 10, 0] rfl)
          · skip
            refine lv_iinc (v := nI (enW I G X L i + 1)) (lv' := [(8, .int (nI (enW I G X L i + 1))), (7, .int (nI (enC I G X i + 1))), (12, .ref (ad (2 + i))), (0, .ref (ad 0)), (1, .double x), (3, .double y), (5, .int a), (6, .int b), (9, .ref (ad 1)), (10, .int 32), (11, .int (nI i))]) hx hb dX4_isEnough_65 hl (k := 7) rfl (nI_1 (enW I G X L i)) (by decide) rfl (fun ls hl => ?_)
            refine lv_iinc (v := nI (i + 1)) (lv' := [(11, .int (nI (i + 1))), (8, .int (nI (enW I G X L i + 1))), (7, .int (nI (enC I G X i + 1))), (12, .ref (ad (2 + i))), (0, .ref (ad 0)), (1, .double x), (3, .double y), (5, .int a), (6, .int b), (9, .ref (ad 1)), (10, .int 32)]) hx hb dX4_isEnough_68 hl (k := 10) rfl (nI_1 i) (by decide) rfl (fun ls hl => ?_)
            refine lv_goto (tgt := 20) hx hb dX4_isEnough_71 (by decide) ?_
            have ih2 := ih_lp0 (i + 1) (by omega) 
            rw [show enC I G X (i + 1) = enC I G X i + 1 from if_pos (by unfold enP; rw [zB_n0.mp c_39]; simp only [c_49, not_true_eq_false, not_false_eq_true, decide_true, decide_false, Bool.true_and, Bool.false_and, Bool.and_true, Bool.and_false, Bool.and_self, if_true, if_false, ite_true, ite_false, reduceIte, Bool.false_eq_true]), show enW I G X L (i + 1) = enW I G X L i + 1 from if_pos (by rw [show enP I G X i = true from by unfold enP; rw [zB_n0.mp c_39]; simp only [c_49, not_true_eq_false, not_false_eq_true, decide_true, decide_false, Bool.true_and, Bool.false_and, Bool.and_true, Bool.and_false, Bool.and_self, if_true, if_false, ite_true, ite_false, reduceIte, Bool.false_eq_true]]; simp only [enQ, c_62, not_true_eq_false, not_false_eq_true, decide_true, decide_false, Bool.true_and, Bool.false_and, Bool.and_true, Bool.and_false, Bool.and_self, if_true, if_false, ite_true, ite_false, reduceIte, Bool.false_eq_true])] at ih2
            exact ih2 _ _ hst ls (lv_sub hl [4, 5, 6, 7, 8, 2, 1, 9, 10, 0] rfl)
  exact lp0 32 0 (by omega) _ _ hst ls (lv_sub hl [5, 6, 7, 8, 9, 4, 3, 2, 1, 0] rfl)

set_option maxHeartbeats 4000000 in
set_option maxRecDepth 100000 in
theorem k_X4_power {l : Launch} {D : va_G} {cy ad : Nat → Nat} {I : Im} {G : Dm} {J : Jm} (hadI : adI ad) {b : Int32} {N : Nat} (hN : N < 100) : kM l yX4_power (.code yX4_power cX4_power 5 (some .long)) (rmK 0 0 0 0) D cy ad [.int b, .int (nI N)] I G J (qL D cy ad (powL b.toInt64 N) I G J) := by
  refine start_M hadI (by decide +kernel) (Nat.le_of_ble_eq_true rfl) ?_
  intro p e s m below meth cd am hx hb hr hlk hst ls hl
  have hl : lv_has ls 5 [(0, .int b), (1, .int (nI N))] := hl
  refine lv_lconst (v := 1) hx hb dX4_power_0 (by decide) ?_
  refine lv_lstore_n (lv' := [(2, .long 1), (0, .int b), (1, .int (nI N))]) hx hb dX4_power_1 rfl hl (by decide) rfl (fun ls hl => ?_)
  refine lv_iconst (v := 0) hx hb dX4_power_2 (by decide) ?_
  refine lv_istore (lv' := [(4, .int 0), (2, .long 1), (0, .int b), (1, .int (nI N))]) hx hb dX4_power_3 hl (by decide) rfl (fun ls hl => ?_)
  have lp0 : ∀ (n i : Nat), n + i = N → ∀ (H : Heap) (locs : List Loc), St D cy ad s.heap I G J H locs → ∀ ls, lv_has ls 5 [(0, .int b), (1, .int (nI N)), (2, .long (powL b.toInt64 i)), (4, .int (nI i))] → W p l e (rmK 0 0 0 0) (s.setDrawn s.drawn) m [.int b, .int (nI N)].toArray below meth cd H locs 0 0 (MQ below (qL D cy ad (powL b.toInt64 N) I G J s.heap.size) [.int b, .int (nI N)].toArray s ((rmK 0 0 0 0)).cells ((rmK 0 0 0 0)).slots (aA ad s.heap.size)) (F0 m 5 ls []) := by
    intro n
    induction n with
    | zero =>
      intro i hi H locs hst ls hl
      obtain rfl : N = i := by omega
      refine lv_iload hx hb dX4_power_5 (lv_at hl 3 rfl) ?_
      refine lv_iload_n hx hb dX4_power_7 rfl (lv_at hl 1 rfl) ?_
      refine lv_icmp_ge (tgt := 22) hx hb dX4_power_8 (by decide) (fun c_8 => ?_) (fun c_8 => absurd ((nI_le (Nat.le_refl _) (by omega))) c_8)
      refine lv_lload_n hx hb dX4_power_22 rfl (lv_at hl 2 rfl) ?_
      exact e_l hx hb hr hlk hst rfl dX4_power_23
    | succ n ih_lp0 =>
      intro i hi H locs hst ls hl
      refine lv_iload hx hb dX4_power_5 (lv_at hl 3 rfl) ?_
      refine lv_iload_n hx hb dX4_power_7 rfl (lv_at hl 1 rfl) ?_
      refine lv_icmp_ge (tgt := 22) hx hb dX4_power_8 (by decide) (fun c_8 => absurd c_8 ((nI_ge (by omega) (by omega)))) (fun c_8 => ?_)
      refine lv_lload_n hx hb dX4_power_11 rfl (lv_at hl 2 rfl) ?_
      refine lv_iload_n hx hb dX4_power_12 rfl (lv_at hl 0 rfl) ?_
      refine lv_i2l hx hb dX4_power_13 rfl ?_
      refine lv_lmul hx hb dX4_power_14 ?_
      refine lv_lstore_n (lv' := [(2, .long ((powL b.toInt64 i) * ((b).toInt64))), (0, .int b), (1, .int (nI N)), (4, .int (nI i))]) hx hb dX4_power_15 rfl hl (by decide) rfl (fun ls hl => ?_)
      refine lv_iinc (v := nI (i + 1)) (lv' := [(4, .int (nI (i + 1))), (2, .long ((powL b.toInt64 i) * ((b).toInt64))), (0, .int b), (1, .int (nI N))]) hx hb dX4_power_16 hl (k := 3) rfl (nI_1 i) (by decide) rfl (fun ls hl => ?_)
      refine lv_goto (tgt := 5) hx hb dX4_power_19 (by decide) ?_
      exact ih_lp0 (i + 1) (by omega) _ _ hst ls (lv_sub hl [2, 3, 1, 0] rfl)
  exact lp0 N 0 (by omega) _ _ hst ls (lv_sub hl [2, 3, 1, 0] rfl)

set_option maxHeartbeats 4000000 in
set_option maxRecDepth 100000 in
theorem k_X4_waysOfFew {l : Launch} {D : va_G} {cy ad : Nat → Nat} {I : Im} {G : Dm} {J : Jm} (hadI : adI ad) {N u : Nat} {a h : Int32} (hN : N ≤ 12) (hu : u < 2 ^ 31) : kM l yX4_waysOfFew (.code yX4_waysOfFew cX4_waysOfFew 9 (some .long)) (rmK 1 0 0 24) D cy ad [.int (nI N), .int (nI u), .int a, .int h] I G J (qL D cy ad (wfS N a.toInt64 h.toInt64 (min N u + 1)) I G J) := by
  refine start_M hadI (by decide +kernel) (Nat.le_of_ble_eq_true rfl) ?_
  intro p e s m below meth cd am hx hb hr hlk hst ls hl
  have hl : lv_has ls 9 [(0, .int (nI N)), (1, .int (nI u)), (2, .int a), (3, .int h)] := hl
  refine lv_lconst (v := 0) hx hb dX4_waysOfFew_0 (by decide) ?_
  refine lv_lstore (lv' := [(4, .long 0), (0, .int (nI N)), (1, .int (nI u)), (2, .int a), (3, .int h)]) hx hb dX4_waysOfFew_1 hl (by decide) rfl (fun ls hl => ?_)
  refine lv_lconst (v := 1) hx hb dX4_waysOfFew_3 (by decide) ?_
  refine lv_lstore (lv' := [(6, .long 1), (4, .long 0), (0, .int (nI N)), (1, .int (nI u)), (2, .int a), (3, .int h)]) hx hb dX4_waysOfFew_4 hl (by decide) rfl (fun ls hl => ?_)
  refine lv_iconst (v := 0) hx hb dX4_waysOfFew_6 (by decide) ?_
  refine lv_istore (lv' := [(8, .int 0), (6, .long 1), (4, .long 0), (0, .int (nI N)), (1, .int (nI u)), (2, .int a), (3, .int h)]) hx hb dX4_waysOfFew_7 hl (by decide) rfl (fun ls hl => ?_)
  have lp0 : ∀ (n k : Nat), n + k = (min N u + 1) → ∀ (H : Heap) (locs : List Loc), St D cy ad s.heap I G J H locs → ∀ ls, lv_has ls 9 [(0, .int (nI N)), (1, .int (nI u)), (2, .int a), (3, .int h), (4, .long (wfS N a.toInt64 h.toInt64 k)), (6, .long (wfC N k)), (8, .int (nI k))] → W p l e (rmK 1 0 0 24) (s.setDrawn s.drawn) m [.int (nI N), .int (nI u), .int a, .int h].toArray below meth cd H locs 0 0 (MQ below (qL D cy ad (wfS N a.toInt64 h.toInt64 (min N u + 1)) I G J s.heap.size) [.int (nI N), .int (nI u), .int a, .int h].toArray s ((rmK 1 0 0 24)).cells ((rmK 1 0 0 24)).slots (aA ad s.heap.size)) (F0 m 9 ls []) := by
    intro n
    induction n with
    | zero =>
      intro k hi H locs hst ls hl
      obtain rfl : (min N u + 1) = k := by omega
      rcases Nat.lt_or_ge u N with q | q
      · skip
        refine lv_iload hx hb dX4_waysOfFew_9 (lv_at hl 6 rfl) ?_
        refine lv_iload_n hx hb dX4_waysOfFew_11 rfl (lv_at hl 0 rfl) ?_
        refine lv_icmp_gt (tgt := 66) hx hb dX4_waysOfFew_12 (by decide) (fun c_12 => absurd c_12 ((nI_nlt (by omega) (by omega)))) (fun c_12 => ?_)
        refine lv_iload hx hb dX4_waysOfFew_15 (lv_at hl 6 rfl) ?_
        refine lv_iload_n hx hb dX4_waysOfFew_17 rfl (lv_at hl 1 rfl) ?_
        refine lv_icmp_gt (tgt := 66) hx hb dX4_waysOfFew_18 (by decide) (fun c_18 => ?_) (fun c_18 => absurd ((nI_lt (by omega) (by omega))) c_18)
        refine lv_lload hx hb dX4_waysOfFew_66 (lv_at hl 4 rfl) ?_
        exact e_l hx hb hr hlk hst rfl dX4_waysOfFew_68
      · skip
        refine lv_iload hx hb dX4_waysOfFew_9 (lv_at hl 6 rfl) ?_
        refine lv_iload_n hx hb dX4_waysOfFew_11 rfl (lv_at hl 0 rfl) ?_
        refine lv_icmp_gt (tgt := 66) hx hb dX4_waysOfFew_12 (by decide) (fun c_12 => ?_) (fun c_12 => absurd ((nI_lt (by omega) (by omega))) c_12)
        refine lv_lload hx hb dX4_waysOfFew_66 (lv_at hl 4 rfl) ?_
        exact e_l hx hb hr hlk hst rfl dX4_waysOfFew_68
    | succ n ih_lp0 =>
      intro k hi H locs hst ls hl
      refine lv_iload hx hb dX4_waysOfFew_9 (lv_at hl 6 rfl) ?_
      refine lv_iload_n hx hb dX4_waysOfFew_11 rfl (lv_at hl 0 rfl) ?_
      refine lv_icmp_gt (tgt := 66) hx hb dX4_waysOfFew_12 (by decide) (fun c_12 => absurd c_12 ((nI_nlt (by omega) (by omega)))) (fun c_12 => ?_)
      refine lv_iload hx hb dX4_waysOfFew_15 (lv_at hl 6 rfl) ?_
      refine lv_iload_n hx hb dX4_waysOfFew_17 rfl (lv_at hl 1 rfl) ?_
      refine lv_icmp_gt (tgt := 66) hx hb dX4_waysOfFew_18 (by decide) (fun c_18 => absurd c_18 ((nI_nlt (by omega) (by omega)))) (fun c_18 => ?_)
      refine lv_lload hx hb dX4_waysOfFew_21 (lv_at hl 4 rfl) ?_
      refine lv_lload hx hb dX4_waysOfFew_23 (lv_at hl 5 rfl) ?_
      refine lv_iload_n hx hb dX4_waysOfFew_25 rfl (lv_at hl 2 rfl) ?_
      refine lv_iload hx hb dX4_waysOfFew_26 (lv_at hl 6 rfl) ?_
      refine c_l hst (r_S (As := [.int a, .int (nI k)]) (rest := [.long (wfC N k), .long (wfS N a.toInt64 h.toInt64 k)]) am hst hl (k_X4_power hadI (N := k) (by omega)) kRX4_141 smX4_power ⟨Nat.le_of_ble_eq_true rfl, Nat.le_of_ble_eq_true rfl⟩ rfl rfl (Nat.le_of_ble_eq_true rfl) dX4_waysOfFew_28 ⟨Nat.le_of_ble_eq_true rfl, Nat.le_of_ble_eq_true rfl⟩) (fun H locs hst => ?_)
      refine lv_lmul hx hb dX4_waysOfFew_31 ?_
      refine lv_iload_n hx hb dX4_waysOfFew_32 rfl (lv_at hl 3 rfl) ?_
      refine lv_iload_n hx hb dX4_waysOfFew_33 rfl (lv_at hl 0 rfl) ?_
      refine lv_iload hx hb dX4_waysOfFew_34 (lv_at hl 6 rfl) ?_
      refine lv_isub hx hb dX4_waysOfFew_36 ?_
      rw [show nI N - nI k = nI (N - k) from pk_sub (by omega)]
      refine c_l hst (r_S (As := [.int h, .int (nI (N - k))]) (rest := [.long ((wfC N k) * (powL (a).toInt64 k)), .long (wfS N a.toInt64 h.toInt64 k)]) am hst hl (k_X4_power hadI (N := N - k) (by omega)) kRX4_141 smX4_power ⟨Nat.le_of_ble_eq_true rfl, Nat.le_of_ble_eq_true rfl⟩ rfl rfl (Nat.le_of_ble_eq_true rfl) dX4_waysOfFew_37 ⟨Nat.le_of_ble_eq_true rfl, Nat.le_of_ble_eq_true rfl⟩) (fun H locs hst => ?_)
      refine lv_lmul hx hb dX4_waysOfFew_40 ?_
      refine lv_ladd hx hb dX4_waysOfFew_41 ?_
      refine lv_lstore (lv' := [(4, .long ((wfS N a.toInt64 h.toInt64 k) + (((wfC N k) * (powL (a).toInt64 k)) * (powL (h).toInt64 (N - k))))), (0, .int (nI N)), (1, .int (nI u)), (2, .int a), (3, .int h), (6, .long (wfC N k)), (8, .int (nI k))]) hx hb dX4_waysOfFew_42 hl (by decide) rfl (fun ls hl => ?_)
      refine lv_lload hx hb dX4_waysOfFew_44 (lv_at hl 5 rfl) ?_
      refine lv_iload_n hx hb dX4_waysOfFew_46 rfl (lv_at hl 1 rfl) ?_
      refine lv_iload hx hb dX4_waysOfFew_47 (lv_at hl 6 rfl) ?_
      refine lv_isub hx hb dX4_waysOfFew_49 ?_
      rw [show nI N - nI k = nI (N - k) from pk_sub (by omega)]
      refine lv_i2l hx hb dX4_waysOfFew_50 rfl ?_
      refine lv_lmul hx hb dX4_waysOfFew_51 ?_
      refine lv_iload hx hb dX4_waysOfFew_52 (lv_at hl 6 rfl) ?_
      refine lv_iconst (v := 1) hx hb dX4_waysOfFew_54 (by decide) ?_
      refine lv_iadd hx hb dX4_waysOfFew_55 ?_
      rw [nI_1]
      refine lv_i2l hx hb dX4_waysOfFew_56 rfl ?_
      refine lv_ldiv hx hb dX4_waysOfFew_57 (fun h => by have h2 : (lN (k + 1)) = lN 0 := (nI_l (by omega)).symm.trans h; exact absurd ((lN_eq (by omega) (by omega)).mp h2) (by omega)) ?_
      refine lv_lstore (lv' := [(6, .long (((wfC N k) * ((nI (N - k)).toInt64)) / ((nI (k + 1)).toInt64))), (4, .long ((wfS N a.toInt64 h.toInt64 k) + (((wfC N k) * (powL (a).toInt64 k)) * (powL (h).toInt64 (N - k))))), (0, .int (nI N)), (1, .int (nI u)), (2, .int a), (3, .int h), (8, .int (nI k))]) hx hb dX4_waysOfFew_58 hl (by decide) rfl (fun ls hl => ?_)
      refine lv_iinc (v := nI (k + 1)) (lv' := [(8, .int (nI (k + 1))), (6, .long (((wfC N k) * ((nI (N - k)).toInt64)) / ((nI (k + 1)).toInt64))), (4, .long ((wfS N a.toInt64 h.toInt64 k) + (((wfC N k) * (powL (a).toInt64 k)) * (powL (h).toInt64 (N - k))))), (0, .int (nI N)), (1, .int (nI u)), (2, .int a), (3, .int h)]) hx hb dX4_waysOfFew_60 hl (k := 6) rfl (nI_1 k) (by decide) rfl (fun ls hl => ?_)
      refine lv_goto (tgt := 9) hx hb dX4_waysOfFew_63 (by decide) ?_
      exact ih_lp0 (k + 1) (by omega) _ _ hst ls (lv_sub hl [3, 4, 5, 6, 2, 1, 0] rfl)
  exact lp0 ((min N u + 1)) 0 (by omega) _ _ hst ls (lv_sub hl [3, 4, 5, 6, 2, 1, 0] rfl)

theorem lg_cmp0 {x y : Int64} : lg_cmp x y = 0 ↔ x = y := lg_cmp_eq x y
set_option maxHeartbeats 4000000 in
set_option maxRecDepth 100000 in
theorem k_X4_commonDivisor {l : Launch} {D : va_G} {cy ad : Nat → Nat} {I : Im} {G : Dm} {J : Jm} (hadI : adI ad) {a b : Int64} : kM l yX4_commonDivisor (.code yX4_commonDivisor cX4_commonDivisor 11 (some .long)) (rmK 0 0 0 0) D cy ad [.long a, .long b] I G J (qL D cy ad (gE 1000 a b) I G J) := by
  refine start_M hadI (by decide +kernel) (Nat.le_of_ble_eq_true rfl) ?_
  intro p e s m below meth cd am hx hb hr hlk hst ls hl
  have hl : lv_has ls 11 [(0, .long a), (2, .long b)] := hl
  refine lv_lload_n hx hb dX4_commonDivisor_0 rfl (lv_at hl 0 rfl) ?_
  refine lv_lstore (lv' := [(4, .long a), (0, .long a), (2, .long b)]) hx hb dX4_commonDivisor_1 hl (by decide) rfl (fun ls hl => ?_)
  refine lv_lload_n hx hb dX4_commonDivisor_3 rfl (lv_at hl 2 rfl) ?_
  refine lv_lstore (lv' := [(6, .long b), (4, .long a), (0, .long a), (2, .long b)]) hx hb dX4_commonDivisor_4 hl (by decide) rfl (fun ls hl => ?_)
  refine lv_iconst (v := 0) hx hb dX4_commonDivisor_6 (by decide) ?_
  refine lv_istore (lv' := [(8, .int 0), (6, .long b), (4, .long a), (0, .long a), (2, .long b)]) hx hb dX4_commonDivisor_7 hl (by decide) rfl (fun ls hl => ?_)
  have lp0 : ∀ (n i : Nat), n + i = 1000 → ∀ x y : Int64, gE n x y = gE 1000 a b → ∀ (H : Heap) (locs : List Loc), St D cy ad s.heap I G J H locs → ∀ ls, lv_has ls 11 [(0, .long a), (2, .long b), (4, .long x), (6, .long y), (8, .int (nI i))] → W p l e (rmK 0 0 0 0) (s.setDrawn s.drawn) m [.long a, .long b].toArray below meth cd H locs 0 0 (MQ below (qL D cy ad (gE 1000 a b) I G J s.heap.size) [.long a, .long b].toArray s ((rmK 0 0 0 0)).cells ((rmK 0 0 0 0)).slots (aA ad s.heap.size)) (F0 m 9 ls []) := by
    intro n
    induction n with
    | zero =>
      intro i hi x y hR H locs hst ls hl
      obtain rfl : 1000 = i := by omega
      refine lv_iload hx hb dX4_commonDivisor_9 (lv_at hl 4 rfl) ?_
      refine lv_sipush (v := 1000) hx hb dX4_commonDivisor_11 (by decide) ?_
      refine lv_icmp_ge (tgt := 45) hx hb dX4_commonDivisor_14 (by decide) (fun c_14 => ?_) (fun c_14 => absurd ((show (1000 : Int32) ≤ nI 1000 by decide)) c_14)
      refine lv_lload hx hb dX4_commonDivisor_45 (lv_at hl 2 rfl) ?_
      exact e_l hx hb hr hlk hst hR dX4_commonDivisor_47
    | succ n ih_lp0 =>
      intro i hi x y hR H locs hst ls hl
      refine lv_iload hx hb dX4_commonDivisor_9 (lv_at hl 4 rfl) ?_
      refine lv_sipush (v := 1000) hx hb dX4_commonDivisor_11 (by decide) ?_
      refine lv_icmp_ge (tgt := 45) hx hb dX4_commonDivisor_14 (by decide) (fun c_14 => absurd c_14 ((nI_ge (b := 1000) (by omega) (by decide)))) (fun c_14 => ?_)
      refine lv_lload hx hb dX4_commonDivisor_17 (lv_at hl 3 rfl) ?_
      refine lv_lconst (v := 0) hx hb dX4_commonDivisor_19 (by decide) ?_
      refine W.lcmp hx hb dX4_commonDivisor_20 ?_
      refine lv_if_eq (tgt := 45) hx hb dX4_commonDivisor_21 (by decide) (fun c_21 => ?_) (fun c_21 => ?_)
      · skip
        refine lv_lload hx hb dX4_commonDivisor_45 (lv_at hl 2 rfl) ?_
        exact e_l hx hb hr hlk hst (by rw [← hR, gE, if_pos (lg_cmp0.mp c_21)]) dX4_commonDivisor_47
      · skip
        refine lv_lload hx hb dX4_commonDivisor_24 (lv_at hl 2 rfl) ?_
        refine lv_lload hx hb dX4_commonDivisor_26 (lv_at hl 3 rfl) ?_
        refine lv_lrem hx hb dX4_commonDivisor_28 (fun h => c_21 (lg_cmp0.mpr h)) ?_
        refine lv_lstore (lv' := [(9, .long (x - x / y * y)), (0, .long a), (2, .long b), (4, .long x), (6, .long y), (8, .int (nI i))]) hx hb dX4_commonDivisor_29 hl (by decide) rfl (fun ls hl => ?_)
        refine lv_lload hx hb dX4_commonDivisor_31 (lv_at hl 4 rfl) ?_
        refine lv_lstore (lv' := [(4, .long y), (9, .long (x - x / y * y)), (0, .long a), (2, .long b), (6, .long y), (8, .int (nI i))]) hx hb dX4_commonDivisor_33 hl (by decide) rfl (fun ls hl => ?_)
        refine lv_lload hx hb dX4_commonDivisor_35 (lv_at hl 1 rfl) ?_
        refine lv_lstore (lv' := [(6, .long (x - x / y * y)), (4, .long y), (9, .long (x - x / y * y)), (0, .long a), (2, .long b), (8, .int (nI i))]) hx hb dX4_commonDivisor_37 hl (by decide) rfl (fun ls hl => ?_)
        refine lv_iinc (v := nI (i + 1)) (lv' := [(8, .int (nI (i + 1))), (6, .long (x - x / y * y)), (4, .long y), (9, .long (x - x / y * y)), (0, .long a), (2, .long b)]) hx hb dX4_commonDivisor_39 hl (k := 5) rfl (nI_1 i) (by decide) rfl (fun ls hl => ?_)
        refine lv_goto (tgt := 9) hx hb dX4_commonDivisor_42 (by decide) ?_
        exact ih_lp0 (i + 1) (by omega) _ _ (by rw [← hR]; show _ = (if _ then _ else _); rw [if_neg (fun h => c_21 (lg_cmp0.mpr h))]) _ _ hst ls (lv_sub hl [4, 5, 2, 1, 0] rfl)
  exact lp0 1000 0 (by omega) _ _ rfl _ _ hst ls (lv_sub hl [3, 4, 2, 1, 0] rfl)
end
section
/-! the public methods of the class: what they answer and what they throw -/
def prC (I : Im) (G : Dm) (X : UInt64) (i : Nat) : Bool := decide (¬ I (2 + i) 5 = 0) && (decide (I (2 + i) 6 = 0) && decide (¬ 0 ≤ Op.cmpValue (FP.dcmp (G (2 + i) 4) X) CmpOp.g))
def prI (I : Im) (G : Dm) (X : UInt64) : Nat → Im | 0 => I | i + 1 => if prC (prI I G X i) G X i = true then u2 (prI I G X i) (2 + i) 6 1 else prI I G X i
def prN (I : Im) (G : Dm) (X : UInt64) : Nat → Nat | 0 => 0 | i + 1 => if prC (prI I G X i) G X i = true then prN I G X i + 1 else prN I G X i
def stF (I : Im) (G : Dm) (L : UInt64) (a b : Int32) : Nat → Nat → Int32 | 0, _ => -1 | n + 1, i => if enR I G (Dv (FP.i2d (nI i)) 4616189618054758400) L a b = true then nI i else stF I G L a b n (i + 1)
def l2dC (x : Int64) : UInt64 := cn (FP.l2d x)
theorem w_l2d {p : Program} {l : Launch} {e : Env} {R : Room} {s : State} {m : MethodId} {args : Array Value} {below : List Frame} {meth : Method} {c : Code} {H : Heap} {locs : List Loc} {cells slots : Nat} {Q : State → Prop} {cc : ByteArray} {d0 : Drawn} {pc : Nat} {ls : Array Slot} {rest : List Value} (hx : p.tables.exec = Jvm.exec) (hb : c.code = cc) {x : Int64} (hdg : decode cc pc = .ok (.l2d, 1))
    (kk : ∀ v : UInt64, cn v = l2dC x → W p l e R (s.setDrawn d0) m args below meth c H locs cells slots Q (F0 m (pc + 1) ls (.double v :: rest))) :
    W p l e R (s.setDrawn d0) m args below meth c H locs cells slots Q (F0 m pc ls (.long x :: rest)) := lv_l2d hx hb hdg (kk _ rfl)
set_option maxHeartbeats 4000000 in
set_option maxRecDepth 100000 in
theorem k_X4_board {l : Launch} {D : va_G} {cy ad : Nat → Nat} {I : Im} {G : Dm} {J : Jm} (hadI : adI ad) {n : Nat} (hn : I 0 2 = nI n) (hn2 : n < 32) : kM l yX4_board (.code yX4_board cX4_board 1 (some .int)) (rmK 0 0 0 0) D cy ad [.ref (ad 0)] I G J (qI D cy ad (nI n) (u2 I 0 2 (nI (n + 1))) G J) := by
  refine start_M hadI (by decide +kernel) (Nat.le_of_ble_eq_true rfl) ?_
  intro p e s m below meth cd am hx hb hr hlk hst ls hl
  have hl : lv_has ls 1 [(0, .ref (ad 0))] := hl
  refine lv_aload_n hx hb dX4_board_0 rfl (lv_at hl 0 rfl) ?_
  refine w_getI am hst (k := 2) (by decide) (fun _ _ _ => cE_S) rfl inT4 (by decide) (fun _ _ _ => rfl) fRX4_50 dX4_board_1 ?_
  rw [hn]
  refine lv_bipush (v := 32) hx hb dX4_board_4 (by decide) ?_
  refine lv_icmp_lt (tgt := 19) hx hb dX4_board_6 (by decide) (fun c_6 => ?_) (fun c_6 => absurd ((nI_lt (b := 32) hn2 (by omega))) c_6)
  refine lv_aload_n hx hb dX4_board_19 rfl (lv_at hl 0 rfl) ?_
  refine lv_dup hx hb dX4_board_20 rfl ?_
  refine w_getI am hst (k := 2) (by decide) (fun _ _ _ => cE_S) rfl inT4 (by decide) (fun _ _ _ => rfl) fRX4_50 dX4_board_21 ?_
  rw [hn]
  refine lv_iconst (v := 1) hx hb dX4_board_24 (by decide) ?_
  refine lv_iadd hx hb dX4_board_25 ?_
  rw [nI_1]
  refine w_putI am hst (k := 2) (by decide) (fun _ _ _ => cE_S) rfl inT4 tyX4 tyX4_ok nmX4 (by decide) fRX4_50 (fun _ _ _ => rfl) (fun _ _ _ => Nat.le_of_ble_eq_true rfl) rfl rfl rfl rfl dX4_board_26 (fun H locs hst => ?_)
  refine lv_aload_n hx hb dX4_board_29 rfl (lv_at hl 0 rfl) ?_
  refine w_getI am hst (k := 2) (by decide) (fun _ _ _ => cE_S) rfl inT4 (by decide) (fun _ _ _ => rfl) fRX4_50 dX4_board_30 ?_
  rw [u2_eq]
  refine lv_iconst (v := 1) hx hb dX4_board_33 (by decide) ?_
  refine lv_isub hx hb dX4_board_34 ?_
  rw [nI_pred]
  exact e_i hx hb hr hlk hst rfl rfl dX4_board_35

set_option maxHeartbeats 4000000 in
set_option maxRecDepth 100000 in
theorem x_X4_board {l : Launch} {D : va_G} {cy ad : Nat → Nat} {I : Im} {G : Dm} {J : Jm} (hadI : adI ad) (hno : l.stackTraces = false) (hv : ¬ I 0 2 < 32) : kX l yX4_board (.code yX4_board cX4_board 1 (some .int)) (rmK 6 1 6 90) D cy ad [.ref (ad 0)] I G J xISE := by
  refine start_X hadI (by decide +kernel) (Nat.le_of_ble_eq_true rfl) ?_
  intro p e s m below meth cd am hx hb hout hlk hst ls hl
  have hl : lv_has ls 1 [(0, .ref (ad 0))] := hl
  refine lv_aload_n hx hb dX4_board_0 rfl (lv_at hl 0 rfl) ?_
  refine w_getI am hst (k := 2) (by decide) (fun _ _ _ => cE_S) rfl inT4 (by decide) (fun _ _ _ => rfl) fRX4_50 dX4_board_1 ?_
  refine lv_bipush (v := 32) hx hb dX4_board_4 (by decide) ?_
  refine lv_icmp_lt (tgt := 19) hx hb dX4_board_6 (by decide) (fun c_6 => absurd c_6 hv) (fun c_6 => ?_)
  exact x_throw (text := "no room for a board") hno am hst hout hlk hl tx_ISE tg_ISE rfl (by decide) dX4_board_9 dX4_board_12 dX4_board_13 dX4_board_15 dX4_board_18 (Nat.le_of_ble_eq_true rfl) (Nat.le_of_ble_eq_true rfl) (Nat.le_of_ble_eq_true rfl) (Nat.le_of_ble_eq_true rfl) (Nat.le_of_ble_eq_true rfl) (Nat.le_of_ble_eq_true rfl)

set_option maxHeartbeats 4000000 in
set_option maxRecDepth 100000 in
theorem k_X4_row {l : Launch} {D : va_G} {cy ad : Nat → Nat} {I : Im} {G : Dm} {J : Jm} (hadI : adI ad) {n k : Nat} (hn : I 0 2 = nI n) (hk : k < n) (hn2 : n ≤ 32) {r : Nat} {x X : UInt64} (hxX : cn x = X) (hin : bIn X 0 1000 = true) (hrc : I (2 + k) 0 = nI r) (hr8 : r < 8) : kD l yX4_row (.code yX4_row cX4_row 5 (some .int)) (rmK 1 0 0 23) D cy ad [.ref (ad 0), .int (nI k), .double x] I G J (qI D cy ad (nI (r + 1)) (u2 I (2 + k) 0 (nI (r + 1))) (u2 G (2 + k) 1 (Ad (G (2 + k) 1) X)) J) := by
  refine start_D hadI (by decide +kernel) (Nat.le_of_ble_eq_true rfl) ?_
  intro p e s m below meth cd am hx hb hr hlk hst ls hl d0 hd
  have hl : lv_has ls 5 [(0, .ref (ad 0)), (1, .int (nI k)), (2, .double x)] := hl
  refine lv_aload_n hx hb dX4_row_0 rfl (lv_at hl 0 rfl) ?_
  refine lv_iload_n hx hb dX4_row_1 rfl (lv_at hl 1 rfl) ?_
  refine c_r hst (r_V (As := [.int (nI k)]) (rest := []) am hst hl (k_X4_boardAt hadI hn hk hn2) kRX4_60 imX4_boardAt slX4_boardAt ⟨Nat.le_of_ble_eq_true rfl, Nat.le_of_ble_eq_true rfl⟩ (by decide) (fun _ _ _ => cE_S) rfl rfl rfl (Nat.le_of_ble_eq_true rfl) dX4_row_2 ⟨Nat.le_of_ble_eq_true rfl, Nat.le_of_ble_eq_true rfl⟩) (fun H locs hst => ?_)
  refine lv_astore (lv' := [(4, .ref (ad (2 + k))), (0, .ref (ad 0)), (1, .int (nI k)), (2, .double x)]) hx hb dX4_row_5 hl (by decide) rfl (fun ls hl => ?_)
  refine lv_dload_n hx hb dX4_row_7 rfl (lv_at hl 3 rfl) ?_
  refine lv_iconst (v := 0) hx hb dX4_row_8 (by decide) ?_
  refine lv_sipush (v := 1000) hx hb dX4_row_9 (by decide) ?_
  refine c_i hst (r_S (As := [.double x, .int 0, .int 1000]) (rest := []) am hst hl (k_X4_isWithin hadI hxX) kRX4_64 smX4_isWithin ⟨Nat.le_of_ble_eq_true rfl, Nat.le_of_ble_eq_true rfl⟩ rfl rfl (Nat.le_of_ble_eq_true rfl) dX4_row_12 ⟨Nat.le_of_ble_eq_true rfl, Nat.le_of_ble_eq_true rfl⟩) (fun H locs hst => ?_)
  refine c_v hst (r_S (As := [.int (zB (bIn X 0 1000))]) (rest := []) am hst hl (k_X4_need hadI (zB_n0.mpr hin)) kRX4_68 smX4_need ⟨Nat.le_of_ble_eq_true rfl, Nat.le_of_ble_eq_true rfl⟩ rfl rfl (Nat.le_of_ble_eq_true rfl) dX4_row_15 ⟨Nat.le_of_ble_eq_true rfl, Nat.le_of_ble_eq_true rfl⟩) (fun H locs hst => ?_)
  refine lv_aload hx hb dX4_row_18 (lv_at hl 0 rfl) ?_
  refine w_getIN am hst (k := 0) (by omega) (fun _ _ _ => cE_B (show 2 ≤ 2 + k ∧ 2 + k < 34 by omega)) rfl inT0 (by decide) (fun _ _ _ => rfl) fRX4_72 dX4_row_20 ?_
  rw [hrc]
  refine lv_bipush (v := 8) hx hb dX4_row_23 (by decide) ?_
  refine lv_icmp_lt (tgt := 38) hx hb dX4_row_25 (by decide) (fun c_25 => ?_) (fun c_25 => absurd ((nI_lt (b := 8) hr8 (by omega))) c_25)
  refine lv_aload hx hb dX4_row_38 (lv_at hl 0 rfl) ?_
  refine lv_aload hx hb dX4_row_40 (lv_at hl 0 rfl) ?_
  refine w_getDN am hst (k := 1) (by omega) (fun _ _ _ => cE_B (show 2 ≤ 2 + k ∧ 2 + k < 34 by omega)) rfl inT0 (by decide) (fun _ _ _ => rfl) fRX4_77 dX4_row_42 (fun x1 hx1 => ?_)
  refine lv_dload_n hx hb dX4_row_45 rfl (lv_at hl 3 rfl) ?_
  refine w_dadd hd hx hb hx1 hxX dX4_row_46 (fun x2 d0 hx2 hd => ?_)
  refine w_putDN am hst (k := 1) hx2 (by omega) (fun _ _ _ => cE_B (show 2 ≤ 2 + k ∧ 2 + k < 34 by omega)) rfl inT0 tyX0 tyX0_ok nmX0 (by decide) fRX4_77 (fun _ _ _ => rfl) (fun _ _ _ => Nat.le_of_ble_eq_true rfl) rfl rfl dX4_row_47 (fun H locs hst => ?_)
  refine lv_aload hx hb dX4_row_50 (lv_at hl 0 rfl) ?_
  refine lv_dup hx hb dX4_row_52 rfl ?_
  refine w_getIN am hst (k := 0) (by omega) (fun _ _ _ => cE_B (show 2 ≤ 2 + k ∧ 2 + k < 34 by omega)) rfl inT0 (by decide) (fun _ _ _ => rfl) fRX4_72 dX4_row_53 ?_
  rw [hrc]
  refine lv_iconst (v := 1) hx hb dX4_row_56 (by decide) ?_
  refine lv_iadd hx hb dX4_row_57 ?_
  rw [nI_1]
  refine w_putIN am hst (k := 0) (by omega) (fun _ _ _ => cE_B (show 2 ≤ 2 + k ∧ 2 + k < 34 by omega)) rfl inT0 tyX0 tyX0_ok nmX0 (by decide) fRX4_72 (fun _ _ _ => rfl) (fun _ _ _ => Nat.le_of_ble_eq_true rfl) rfl rfl rfl rfl dX4_row_58 (fun H locs hst => ?_)
  refine lv_aload hx hb dX4_row_61 (lv_at hl 0 rfl) ?_
  refine w_getIN am hst (k := 0) (by omega) (fun _ _ _ => cE_B (show 2 ≤ 2 + k ∧ 2 + k < 34 by omega)) rfl inT0 (by decide) (fun _ _ _ => rfl) fRX4_72 dX4_row_63 ?_
  exact e_iD hd hx hb hr hlk hst rfl (u2_eq _ _ _ _) dX4_row_66

set_option maxHeartbeats 4000000 in
set_option maxRecDepth 100000 in
theorem x1_X4_row {l : Launch} {D : va_G} {cy ad : Nat → Nat} {I : Im} {G : Dm} {J : Jm} (hadI : adI ad) (hno : l.stackTraces = false) {v : Int32} (hv : v < 0 ∨ ¬ v < I 0 2) {x : UInt64} : kX l yX4_row (.code yX4_row cX4_row 5 (some .int)) (rmK 7 1 6 111) D cy ad [.ref (ad 0), .int v, .double x] I G J xIOOBE := by
  refine start_X hadI (by decide +kernel) (Nat.le_of_ble_eq_true rfl) ?_
  intro p e s m below meth cd am hx hb hout hlk hst ls hl
  have hl : lv_has ls 5 [(0, .ref (ad 0)), (1, .int v), (2, .double x)] := hl
  refine lv_aload_n hx hb dX4_row_0 rfl (lv_at hl 0 rfl) ?_
  refine lv_iload_n hx hb dX4_row_1 rfl (lv_at hl 1 rfl) ?_
  exact x_call hst hout hlk (Nat.le_of_ble_eq_true rfl) (Nat.le_of_ble_eq_true rfl) (r_VX (As := [.int v]) (rest := []) am hst hl (x_X4_boardAt hadI hno hv) kRX4_60 imX4_boardAt slX4_boardAt ⟨rfl, rfl⟩ ⟨Nat.le_of_ble_eq_true rfl, Nat.le_of_ble_eq_true rfl⟩ (by decide) (fun _ _ _ => cE_S) rfl rfl rfl (Nat.le_of_ble_eq_true rfl) dX4_row_2 ⟨Nat.le_of_ble_eq_true rfl, Nat.le_of_ble_eq_true rfl⟩)

set_option maxHeartbeats 4000000 in
set_option maxRecDepth 100000 in
theorem x2_X4_row {l : Launch} {D : va_G} {cy ad : Nat → Nat} {I : Im} {G : Dm} {J : Jm} (hadI : adI ad) (hno : l.stackTraces = false) {n k : Nat} (hn : I 0 2 = nI n) (hk : k < n) (hn2 : n ≤ 32) {x X : UInt64} (hxX : cn x = X) (hin : bIn X 0 1000 = false) : kX l yX4_row (.code yX4_row cX4_row 5 (some .int)) (rmK 7 1 6 111) D cy ad [.ref (ad 0), .int (nI k), .double x] I G J xIAE := by
  refine start_X hadI (by decide +kernel) (Nat.le_of_ble_eq_true rfl) ?_
  intro p e s m below meth cd am hx hb hout hlk hst ls hl
  have hl : lv_has ls 5 [(0, .ref (ad 0)), (1, .int (nI k)), (2, .double x)] := hl
  refine lv_aload_n hx hb dX4_row_0 rfl (lv_at hl 0 rfl) ?_
  refine lv_iload_n hx hb dX4_row_1 rfl (lv_at hl 1 rfl) ?_
  refine c_r hst (r_V (As := [.int (nI k)]) (rest := []) am hst hl (k_X4_boardAt hadI hn hk hn2) kRX4_60 imX4_boardAt slX4_boardAt ⟨Nat.le_of_ble_eq_true rfl, Nat.le_of_ble_eq_true rfl⟩ (by decide) (fun _ _ _ => cE_S) rfl rfl rfl (Nat.le_of_ble_eq_true rfl) dX4_row_2 ⟨Nat.le_of_ble_eq_true rfl, Nat.le_of_ble_eq_true rfl⟩) (fun H locs hst => ?_)
  refine lv_astore (lv' := [(4, .ref (ad (2 + k))), (0, .ref (ad 0)), (1, .int (nI k)), (2, .double x)]) hx hb dX4_row_5 hl (by decide) rfl (fun ls hl => ?_)
  refine lv_dload_n hx hb dX4_row_7 rfl (lv_at hl 3 rfl) ?_
  refine lv_iconst (v := 0) hx hb dX4_row_8 (by decide) ?_
  refine lv_sipush (v := 1000) hx hb dX4_row_9 (by decide) ?_
  refine c_i hst (r_S (As := [.double x, .int 0, .int 1000]) (rest := []) am hst hl (k_X4_isWithin hadI hxX) kRX4_64 smX4_isWithin ⟨Nat.le_of_ble_eq_true rfl, Nat.le_of_ble_eq_true rfl⟩ rfl rfl (Nat.le_of_ble_eq_true rfl) dX4_row_12 ⟨Nat.le_of_ble_eq_true rfl, Nat.le_of_ble_eq_true rfl⟩) (fun H locs hst => ?_)
  exact x_call hst hout hlk (Nat.le_of_ble_eq_true rfl) (Nat.le_of_ble_eq_true rfl) (r_SX (As := [.int (zB (bIn X 0 1000))]) (rest := []) am hst hl (x_X4_need hadI hno (zB_0.mpr hin)) kRX4_68 smX4_need ⟨rfl, rfl⟩ ⟨Nat.le_of_ble_eq_true rfl, Nat.le_of_ble_eq_true rfl⟩ rfl rfl (Nat.le_of_ble_eq_true rfl) dX4_row_15 ⟨Nat.le_of_ble_eq_true rfl, Nat.le_of_ble_eq_true rfl⟩)

set_option maxHeartbeats 4000000 in
set_option maxRecDepth 100000 in
theorem x3_X4_row {l : Launch} {D : va_G} {cy ad : Nat → Nat} {I : Im} {G : Dm} {J : Jm} (hadI : adI ad) (hno : l.stackTraces = false) {n k : Nat} (hn : I 0 2 = nI n) (hk : k < n) (hn2 : n ≤ 32) {x X : UInt64} (hxX : cn x = X) (hin : bIn X 0 1000 = true) (hr8 : ¬ I (2 + k) 0 < 8) : kX l yX4_row (.code yX4_row cX4_row 5 (some .int)) (rmK 7 1 6 111) D cy ad [.ref (ad 0), .int (nI k), .double x] I G J xISE := by
  refine start_X hadI (by decide +kernel) (Nat.le_of_ble_eq_true rfl) ?_
  intro p e s m below meth cd am hx hb hout hlk hst ls hl
  have hl : lv_has ls 5 [(0, .ref (ad 0)), (1, .int (nI k)), (2, .double x)] := hl
  refine lv_aload_n hx hb dX4_row_0 rfl (lv_at hl 0 rfl) ?_
  refine lv_iload_n hx hb dX4_row_1 rfl (lv_at hl 1 rfl) ?_
  refine c_r hst (r_V (As := [.int (nI k)]) (rest := []) am hst hl (k_X4_boardAt hadI hn hk hn2) kRX4_60 imX4_boardAt slX4_boardAt ⟨Nat.le_of_ble_eq_true rfl, Nat.le_of_ble_eq_true rfl⟩ (by decide) (fun _ _ _ => cE_S) rfl rfl rfl (Nat.le_of_ble_eq_true rfl) dX4_row_2 ⟨Nat.le_of_ble_eq_true rfl, Nat.le_of_ble_eq_true rfl⟩) (fun H locs hst => ?_)
  refine lv_astore (lv' := [(4, .ref (ad (2 + k))), (0, .ref (ad 0)), (1, .int (nI k)), (2, .double x)]) hx hb dX4_row_5 hl (by decide) rfl (fun ls hl => ?_)
  refine lv_dload_n hx hb dX4_row_7 rfl (lv_at hl 3 rfl) ?_
  refine lv_iconst (v := 0) hx hb dX4_row_8 (by decide) ?_
  refine lv_sipush (v := 1000) hx hb dX4_row_9 (by decide) ?_
  refine c_i hst (r_S (As := [.double x, .int 0, .int 1000]) (rest := []) am hst hl (k_X4_isWithin hadI hxX) kRX4_64 smX4_isWithin ⟨Nat.le_of_ble_eq_true rfl, Nat.le_of_ble_eq_true rfl⟩ rfl rfl (Nat.le_of_ble_eq_true rfl) dX4_row_12 ⟨Nat.le_of_ble_eq_true rfl, Nat.le_of_ble_eq_true rfl⟩) (fun H locs hst => ?_)
  refine c_v hst (r_S (As := [.int (zB (bIn X 0 1000))]) (rest := []) am hst hl (k_X4_need hadI (zB_n0.mpr hin)) kRX4_68 smX4_need ⟨Nat.le_of_ble_eq_true rfl, Nat.le_of_ble_eq_true rfl⟩ rfl rfl (Nat.le_of_ble_eq_true rfl) dX4_row_15 ⟨Nat.le_of_ble_eq_true rfl, Nat.le_of_ble_eq_true rfl⟩) (fun H locs hst => ?_)
  refine lv_aload hx hb dX4_row_18 (lv_at hl 0 rfl) ?_
  refine w_getIN am hst (k := 0) (by omega) (fun _ _ _ => cE_B (show 2 ≤ 2 + k ∧ 2 + k < 34 by omega)) rfl inT0 (by decide) (fun _ _ _ => rfl) fRX4_72 dX4_row_20 ?_
  refine lv_bipush (v := 8) hx hb dX4_row_23 (by decide) ?_
  refine lv_icmp_lt (tgt := 38) hx hb dX4_row_25 (by decide) (fun c_25 => absurd c_25 hr8) (fun c_25 => ?_)
  exact x_throw (text := "no room for a row") hno am hst hout hlk hl tx_ISE tg_ISE rfl (by decide) dX4_row_28 dX4_row_31 dX4_row_32 dX4_row_34 dX4_row_37 (Nat.le_of_ble_eq_true rfl) (Nat.le_of_ble_eq_true rfl) (Nat.le_of_ble_eq_true rfl) (Nat.le_of_ble_eq_true rfl) (Nat.le_of_ble_eq_true rfl) (Nat.le_of_ble_eq_true rfl)

set_option maxHeartbeats 4000000 in
set_option maxRecDepth 100000 in
theorem k_X4_echo {l : Launch} {D : va_G} {cy ad : Nat → Nat} {I : Im} {G : Dm} {J : Jm} (hadI : adI ad) {n k : Nat} (hn : I 0 2 = nI n) (hk : k < n) (hn2 : n ≤ 32) {x X y Y : UInt64} (hxX : cn x = X) (hyY : cn y = Y) (hin1 : bIn X 0 100 = true) (hin2 : bIn Y 0 10 = true) : kD l yX4_echo (.code yX4_echo cX4_echo 7 none) (rmK 1 0 0 23) D cy ad [.ref (ad 0), .int (nI k), .double x, .double y] I G J (qV D cy ad I (u2 G (2 + k) 2 (Mu (Mu Y X) X)) J) := by
  refine start_D hadI (by decide +kernel) (Nat.le_of_ble_eq_true rfl) ?_
  intro p e s m below meth cd am hx hb hr hlk hst ls hl d0 hd
  have hl : lv_has ls 7 [(0, .ref (ad 0)), (1, .int (nI k)), (2, .double x), (4, .double y)] := hl
  refine lv_aload_n hx hb dX4_echo_0 rfl (lv_at hl 0 rfl) ?_
  refine lv_iload_n hx hb dX4_echo_1 rfl (lv_at hl 1 rfl) ?_
  refine c_r hst (r_V (As := [.int (nI k)]) (rest := []) am hst hl (k_X4_boardAt hadI hn hk hn2) kRX4_60 imX4_boardAt slX4_boardAt ⟨Nat.le_of_ble_eq_true rfl, Nat.le_of_ble_eq_true rfl⟩ (by decide) (fun _ _ _ => cE_S) rfl rfl rfl (Nat.le_of_ble_eq_true rfl) dX4_echo_2 ⟨Nat.le_of_ble_eq_true rfl, Nat.le_of_ble_eq_true rfl⟩) (fun H locs hst => ?_)
  refine lv_astore (lv' := [(6, .ref (ad (2 + k))), (0, .ref (ad 0)), (1, .int (nI k)), (2, .double x), (4, .double y)]) hx hb dX4_echo_5 hl (by decide) rfl (fun ls hl => ?_)
  refine lv_dload_n hx hb dX4_echo_7 rfl (lv_at hl 3 rfl) ?_
  refine lv_iconst (v := 0) hx hb dX4_echo_8 (by decide) ?_
  refine lv_bipush (v := 100) hx hb dX4_echo_9 (by decide) ?_
  refine c_i hst (r_S (As := [.double x, .int 0, .int 100]) (rest := []) am hst hl (k_X4_isWithin hadI hxX) kRX4_64 smX4_isWithin ⟨Nat.le_of_ble_eq_true rfl, Nat.le_of_ble_eq_true rfl⟩ rfl rfl (Nat.le_of_ble_eq_true rfl) dX4_echo_11 ⟨Nat.le_of_ble_eq_true rfl, Nat.le_of_ble_eq_true rfl⟩) (fun H locs hst => ?_)
  refine lv_if_eq (tgt := 32) hx hb dX4_echo_14 (by decide) (fun c_14 => absurd c_14 (zB_n0.mpr hin1)) (fun c_14 => ?_)
  refine lv_dload hx hb dX4_echo_17 (lv_at hl 4 rfl) ?_
  refine lv_iconst (v := 0) hx hb dX4_echo_19 (by decide) ?_
  refine lv_bipush (v := 10) hx hb dX4_echo_20 (by decide) ?_
  refine c_i hst (r_S (As := [.double y, .int 0, .int 10]) (rest := []) am hst hl (k_X4_isWithin hadI hyY) kRX4_64 smX4_isWithin ⟨Nat.le_of_ble_eq_true rfl, Nat.le_of_ble_eq_true rfl⟩ rfl rfl (Nat.le_of_ble_eq_true rfl) dX4_echo_22 ⟨Nat.le_of_ble_eq_true rfl, Nat.le_of_ble_eq_true rfl⟩) (fun H locs hst => ?_)
  refine lv_if_eq (tgt := 32) hx hb dX4_echo_25 (by decide) (fun c_25 => absurd c_25 (zB_n0.mpr hin2)) (fun c_25 => ?_)
  refine lv_iconst (v := 1) hx hb dX4_echo_28 (by decide) ?_
  refine lv_goto (tgt := 33) hx hb dX4_echo_29 (by decide) ?_
  refine c_v hst (r_S (As := [.int 1]) (rest := []) am hst hl (k_X4_need hadI (by decide)) kRX4_68 smX4_need ⟨Nat.le_of_ble_eq_true rfl, Nat.le_of_ble_eq_true rfl⟩ rfl rfl (Nat.le_of_ble_eq_true rfl) dX4_echo_33 ⟨Nat.le_of_ble_eq_true rfl, Nat.le_of_ble_eq_true rfl⟩) (fun H locs hst => ?_)
  refine lv_aload hx hb dX4_echo_36 (lv_at hl 0 rfl) ?_
  refine lv_dload hx hb dX4_echo_38 (lv_at hl 4 rfl) ?_
  refine lv_dload_n hx hb dX4_echo_40 rfl (lv_at hl 3 rfl) ?_
  refine w_dmul hd hx hb hyY hxX dX4_echo_41 (fun x1 d0 hx1 hd => ?_)
  refine lv_dload_n hx hb dX4_echo_42 rfl (lv_at hl 3 rfl) ?_
  refine w_dmul hd hx hb hx1 hxX dX4_echo_43 (fun x2 d0 hx2 hd => ?_)
  refine w_putDN am hst (k := 2) hx2 (by omega) (fun _ _ _ => cE_B (show 2 ≤ 2 + k ∧ 2 + k < 34 by omega)) rfl inT0 tyX0 tyX0_ok nmX0 (by decide) fRX4_81 (fun _ _ _ => rfl) (fun _ _ _ => Nat.le_of_ble_eq_true rfl) rfl rfl dX4_echo_44 (fun H locs hst => ?_)
  exact e_vD hd hx hb hr hlk hst dX4_echo_47

set_option maxHeartbeats 4000000 in
set_option maxRecDepth 100000 in
theorem x1_X4_echo {l : Launch} {D : va_G} {cy ad : Nat → Nat} {I : Im} {G : Dm} {J : Jm} (hadI : adI ad) (hno : l.stackTraces = false) {v : Int32} (hv : v < 0 ∨ ¬ v < I 0 2) {x y : UInt64} : kX l yX4_echo (.code yX4_echo cX4_echo 7 none) (rmK 7 1 6 111) D cy ad [.ref (ad 0), .int v, .double x, .double y] I G J xIOOBE := by
  refine start_X hadI (by decide +kernel) (Nat.le_of_ble_eq_true rfl) ?_
  intro p e s m below meth cd am hx hb hout hlk hst ls hl
  have hl : lv_has ls 7 [(0, .ref (ad 0)), (1, .int v), (2, .double x), (4, .double y)] := hl
  refine lv_aload_n hx hb dX4_echo_0 rfl (lv_at hl 0 rfl) ?_
  refine lv_iload_n hx hb dX4_echo_1 rfl (lv_at hl 1 rfl) ?_
  exact x_call hst hout hlk (Nat.le_of_ble_eq_true rfl) (Nat.le_of_ble_eq_true rfl) (r_VX (As := [.int v]) (rest := []) am hst hl (x_X4_boardAt hadI hno hv) kRX4_60 imX4_boardAt slX4_boardAt ⟨rfl, rfl⟩ ⟨Nat.le_of_ble_eq_true rfl, Nat.le_of_ble_eq_true rfl⟩ (by decide) (fun _ _ _ => cE_S) rfl rfl rfl (Nat.le_of_ble_eq_true rfl) dX4_echo_2 ⟨Nat.le_of_ble_eq_true rfl, Nat.le_of_ble_eq_true rfl⟩)

set_option maxHeartbeats 4000000 in
set_option maxRecDepth 100000 in
theorem x2_X4_echo {l : Launch} {D : va_G} {cy ad : Nat → Nat} {I : Im} {G : Dm} {J : Jm} (hadI : adI ad) (hno : l.stackTraces = false) {n k : Nat} (hn : I 0 2 = nI n) (hk : k < n) (hn2 : n ≤ 32) {x X y Y : UInt64} (hxX : cn x = X) (hyY : cn y = Y) (hin : (bIn X 0 100 && bIn Y 0 10) = false) : kX l yX4_echo (.code yX4_echo cX4_echo 7 none) (rmK 7 1 6 111) D cy ad [.ref (ad 0), .int (nI k), .double x, .double y] I G J xIAE := by
  refine start_X hadI (by decide +kernel) (Nat.le_of_ble_eq_true rfl) ?_
  intro p e s m below meth cd am hx hb hout hlk hst ls hl
  have hl : lv_has ls 7 [(0, .ref (ad 0)), (1, .int (nI k)), (2, .double x), (4, .double y)] := hl
  refine lv_aload_n hx hb dX4_echo_0 rfl (lv_at hl 0 rfl) ?_
  refine lv_iload_n hx hb dX4_echo_1 rfl (lv_at hl 1 rfl) ?_
  refine c_r hst (r_V (As := [.int (nI k)]) (rest := []) am hst hl (k_X4_boardAt hadI hn hk hn2) kRX4_60 imX4_boardAt slX4_boardAt ⟨Nat.le_of_ble_eq_true rfl, Nat.le_of_ble_eq_true rfl⟩ (by decide) (fun _ _ _ => cE_S) rfl rfl rfl (Nat.le_of_ble_eq_true rfl) dX4_echo_2 ⟨Nat.le_of_ble_eq_true rfl, Nat.le_of_ble_eq_true rfl⟩) (fun H locs hst => ?_)
  refine lv_astore (lv' := [(6, .ref (ad (2 + k))), (0, .ref (ad 0)), (1, .int (nI k)), (2, .double x), (4, .double y)]) hx hb dX4_echo_5 hl (by decide) rfl (fun ls hl => ?_)
  refine lv_dload_n hx hb dX4_echo_7 rfl (lv_at hl 3 rfl) ?_
  refine lv_iconst (v := 0) hx hb dX4_echo_8 (by decide) ?_
  refine lv_bipush (v := 100) hx hb dX4_echo_9 (by decide) ?_
  refine c_i hst (r_S (As := [.double x, .int 0, .int 100]) (rest := []) am hst hl (k_X4_isWithin hadI hxX) kRX4_64 smX4_isWithin ⟨Nat.le_of_ble_eq_true rfl, Nat.le_of_ble_eq_true rfl⟩ rfl rfl (Nat.le_of_ble_eq_true rfl) dX4_echo_11 ⟨Nat.le_of_ble_eq_true rfl, Nat.le_of_ble_eq_true rfl⟩) (fun H locs hst => ?_)
  refine lv_if_eq (tgt := 32) hx hb dX4_echo_14 (by decide) (fun c_14 => ?_) (fun c_14 => ?_)
  · skip
    refine lv_iconst (v := 0) hx hb dX4_echo_32 (by decide) ?_
    exact x_call hst hout hlk (Nat.le_of_ble_eq_true rfl) (Nat.le_of_ble_eq_true rfl) (r_SX (As := [.int 0]) (rest := []) am hst hl (x_X4_need hadI hno (rfl)) kRX4_68 smX4_need ⟨rfl, rfl⟩ ⟨Nat.le_of_ble_eq_true rfl, Nat.le_of_ble_eq_true rfl⟩ rfl rfl (Nat.le_of_ble_eq_true rfl) dX4_echo_33 ⟨Nat.le_of_ble_eq_true rfl, Nat.le_of_ble_eq_true rfl⟩)
  · skip
    refine lv_dload hx hb dX4_echo_17 (lv_at hl 4 rfl) ?_
    refine lv_iconst (v := 0) hx hb dX4_echo_19 (by decide) ?_
    refine lv_bipush (v := 10) hx hb dX4_echo_20 (by decide) ?_
    refine c_i hst (r_S (As := [.double y, .int 0, .int 10]) (rest := []) am hst hl (k_X4_isWithin hadI hyY) kRX4_64 smX4_isWithin ⟨Nat.le_of_ble_eq_true rfl, Nat.le_of_ble_eq_true rfl⟩ rfl rfl (Nat.le_of_ble_eq_true rfl) dX4_echo_22 ⟨Nat.le_of_ble_eq_true rfl, Nat.le_of_ble_eq_true rfl⟩) (fun H locs hst => ?_)
    refine lv_if_eq (tgt := 32) hx hb dX4_echo_25 (by decide) (fun c_25 => ?_) (fun c_25 => absurd ((by rw [zB_n0.mp c_14, Bool.true_and] at hin; exact zB_0.mpr hin)) c_25)
    refine lv_iconst (v := 0) hx hb dX4_echo_32 (by decide) ?_
    exact x_call hst hout hlk (Nat.le_of_ble_eq_true rfl) (Nat.le_of_ble_eq_true rfl) (r_SX (As := [.int 0]) (rest := []) am hst hl (x_X4_need hadI hno (rfl)) kRX4_68 smX4_need ⟨rfl, rfl⟩ ⟨Nat.le_of_ble_eq_true rfl, Nat.le_of_ble_eq_true rfl⟩ rfl rfl (Nat.le_of_ble_eq_true rfl) dX4_echo_33 ⟨Nat.le_of_ble_eq_true rfl, Nat.le_of_ble_eq_true rfl⟩)

set_option maxHeartbeats 4000000 in
set_option maxRecDepth 100000 in
theorem k_X4_knots {l : Launch} {D : va_G} {cy ad : Nat → Nat} {I : Im} {G : Dm} {J : Jm} (hadI : adI ad) {n k : Nat} (hn : I 0 2 = nI n) (hk : k < n) (hn2 : n ≤ 32) {x X : UInt64} (hxX : cn x = X) (hin : bIn X 0 1 = true) : kM l yX4_knots (.code yX4_knots cX4_knots 5 none) (rmK 1 0 0 23) D cy ad [.ref (ad 0), .int (nI k), .double x] I G J (qV D cy ad I (u2 G (2 + k) 3 X) J) := by
  refine start_M hadI (by decide +kernel) (Nat.le_of_ble_eq_true rfl) ?_
  intro p e s m below meth cd am hx hb hr hlk hst ls hl
  have hl : lv_has ls 5 [(0, .ref (ad 0)), (1, .int (nI k)), (2, .double x)] := hl
  refine lv_aload_n hx hb dX4_knots_0 rfl (lv_at hl 0 rfl) ?_
  refine lv_iload_n hx hb dX4_knots_1 rfl (lv_at hl 1 rfl) ?_
  refine c_r hst (r_V (As := [.int (nI k)]) (rest := []) am hst hl (k_X4_boardAt hadI hn hk hn2) kRX4_60 imX4_boardAt slX4_boardAt ⟨Nat.le_of_ble_eq_true rfl, Nat.le_of_ble_eq_true rfl⟩ (by decide) (fun _ _ _ => cE_S) rfl rfl rfl (Nat.le_of_ble_eq_true rfl) dX4_knots_2 ⟨Nat.le_of_ble_eq_true rfl, Nat.le_of_ble_eq_true rfl⟩) (fun H locs hst => ?_)
  refine lv_astore (lv' := [(4, .ref (ad (2 + k))), (0, .ref (ad 0)), (1, .int (nI k)), (2, .double x)]) hx hb dX4_knots_5 hl (by decide) rfl (fun ls hl => ?_)
  refine lv_dload_n hx hb dX4_knots_7 rfl (lv_at hl 3 rfl) ?_
  refine lv_iconst (v := 0) hx hb dX4_knots_8 (by decide) ?_
  refine lv_iconst (v := 1) hx hb dX4_knots_9 (by decide) ?_
  refine c_i hst (r_S (As := [.double x, .int 0, .int 1]) (rest := []) am hst hl (k_X4_isWithin hadI hxX) kRX4_64 smX4_isWithin ⟨Nat.le_of_ble_eq_true rfl, Nat.le_of_ble_eq_true rfl⟩ rfl rfl (Nat.le_of_ble_eq_true rfl) dX4_knots_10 ⟨Nat.le_of_ble_eq_true rfl, Nat.le_of_ble_eq_true rfl⟩) (fun H locs hst => ?_)
  refine c_v hst (r_S (As := [.int (zB (bIn X 0 1))]) (rest := []) am hst hl (k_X4_need hadI (zB_n0.mpr hin)) kRX4_68 smX4_need ⟨Nat.le_of_ble_eq_true rfl, Nat.le_of_ble_eq_true rfl⟩ rfl rfl (Nat.le_of_ble_eq_true rfl) dX4_knots_13 ⟨Nat.le_of_ble_eq_true rfl, Nat.le_of_ble_eq_true rfl⟩) (fun H locs hst => ?_)
  refine lv_aload hx hb dX4_knots_16 (lv_at hl 0 rfl) ?_
  refine lv_dload_n hx hb dX4_knots_18 rfl (lv_at hl 3 rfl) ?_
  refine w_putDN am hst (k := 3) hxX (by omega) (fun _ _ _ => cE_B (show 2 ≤ 2 + k ∧ 2 + k < 34 by omega)) rfl inT0 tyX0 tyX0_ok nmX0 (by decide) fRX4_84 (fun _ _ _ => rfl) (fun _ _ _ => Nat.le_of_ble_eq_true rfl) rfl rfl dX4_knots_19 (fun H locs hst => ?_)
  exact e_v hx hb hr hlk hst dX4_knots_22

set_option maxHeartbeats 4000000 in
set_option maxRecDepth 100000 in
theorem x1_X4_knots {l : Launch} {D : va_G} {cy ad : Nat → Nat} {I : Im} {G : Dm} {J : Jm} (hadI : adI ad) (hno : l.stackTraces = false) {v : Int32} (hv : v < 0 ∨ ¬ v < I 0 2) {x : UInt64} : kX l yX4_knots (.code yX4_knots cX4_knots 5 none) (rmK 7 1 6 111) D cy ad [.ref (ad 0), .int v, .double x] I G J xIOOBE := by
  refine start_X hadI (by decide +kernel) (Nat.le_of_ble_eq_true rfl) ?_
  intro p e s m below meth cd am hx hb hout hlk hst ls hl
  have hl : lv_has ls 5 [(0, .ref (ad 0)), (1, .int v), (2, .double x)] := hl
  refine lv_aload_n hx hb dX4_knots_0 rfl (lv_at hl 0 rfl) ?_
  refine lv_iload_n hx hb dX4_knots_1 rfl (lv_at hl 1 rfl) ?_
  exact x_call hst hout hlk (Nat.le_of_ble_eq_true rfl) (Nat.le_of_ble_eq_true rfl) (r_VX (As := [.int v]) (rest := []) am hst hl (x_X4_boardAt hadI hno hv) kRX4_60 imX4_boardAt slX4_boardAt ⟨rfl, rfl⟩ ⟨Nat.le_of_ble_eq_true rfl, Nat.le_of_ble_eq_true rfl⟩ (by decide) (fun _ _ _ => cE_S) rfl rfl rfl (Nat.le_of_ble_eq_true rfl) dX4_knots_2 ⟨Nat.le_of_ble_eq_true rfl, Nat.le_of_ble_eq_true rfl⟩)

set_option maxHeartbeats 4000000 in
set_option maxRecDepth 100000 in
theorem x2_X4_knots {l : Launch} {D : va_G} {cy ad : Nat → Nat} {I : Im} {G : Dm} {J : Jm} (hadI : adI ad) (hno : l.stackTraces = false) {n k : Nat} (hn : I 0 2 = nI n) (hk : k < n) (hn2 : n ≤ 32) {x X : UInt64} (hxX : cn x = X) (hin : bIn X 0 1 = false) : kX l yX4_knots (.code yX4_knots cX4_knots 5 none) (rmK 7 1 6 111) D cy ad [.ref (ad 0), .int (nI k), .double x] I G J xIAE := by
  refine start_X hadI (by decide +kernel) (Nat.le_of_ble_eq_true rfl) ?_
  intro p e s m below meth cd am hx hb hout hlk hst ls hl
  have hl : lv_has ls 5 [(0, .ref (ad 0)), (1, .int (nI k)), (2, .double x)] := hl
  refine lv_aload_n hx hb dX4_knots_0 rfl (lv_at hl 0 rfl) ?_
  refine lv_iload_n hx hb dX4_knots_1 rfl (lv_at hl 1 rfl) ?_
  refine c_r hst (r_V (As := [.int (nI k)]) (rest := []) am hst hl (k_X4_boardAt hadI hn hk hn2) kRX4_60 imX4_boardAt slX4_boardAt ⟨Nat.le_of_ble_eq_true rfl, Nat.le_of_ble_eq_true rfl⟩ (by decide) (fun _ _ _ => cE_S) rfl rfl rfl (Nat.le_of_ble_eq_true rfl) dX4_knots_2 ⟨Nat.le_of_ble_eq_true rfl, Nat.le_of_ble_eq_true rfl⟩) (fun H locs hst => ?_)
  refine lv_astore (lv' := [(4, .ref (ad (2 + k))), (0, .ref (ad 0)), (1, .int (nI k)), (2, .double x)]) hx hb dX4_knots_5 hl (by decide) rfl (fun ls hl => ?_)
  refine lv_dload_n hx hb dX4_knots_7 rfl (lv_at hl 3 rfl) ?_
  refine lv_iconst (v := 0) hx hb dX4_knots_8 (by decide) ?_
  refine lv_iconst (v := 1) hx hb dX4_knots_9 (by decide) ?_
  refine c_i hst (r_S (As := [.double x, .int 0, .int 1]) (rest := []) am hst hl (k_X4_isWithin hadI hxX) kRX4_64 smX4_isWithin ⟨Nat.le_of_ble_eq_true rfl, Nat.le_of_ble_eq_true rfl⟩ rfl rfl (Nat.le_of_ble_eq_true rfl) dX4_knots_10 ⟨Nat.le_of_ble_eq_true rfl, Nat.le_of_ble_eq_true rfl⟩) (fun H locs hst => ?_)
  exact x_call hst hout hlk (Nat.le_of_ble_eq_true rfl) (Nat.le_of_ble_eq_true rfl) (r_SX (As := [.int (zB (bIn X 0 1))]) (rest := []) am hst hl (x_X4_need hadI hno (zB_0.mpr hin)) kRX4_68 smX4_need ⟨rfl, rfl⟩ ⟨Nat.le_of_ble_eq_true rfl, Nat.le_of_ble_eq_true rfl⟩ rfl rfl (Nat.le_of_ble_eq_true rfl) dX4_knots_13 ⟨Nat.le_of_ble_eq_true rfl, Nat.le_of_ble_eq_true rfl⟩)

set_option maxHeartbeats 4000000 in
set_option maxRecDepth 100000 in
theorem k_X4_broken {l : Launch} {D : va_G} {cy ad : Nat → Nat} {I : Im} {G : Dm} {J : Jm} (hadI : adI ad) {n k : Nat} (hn : I 0 2 = nI n) (hk : k < n) (hn2 : n ≤ 32) {x X : UInt64} (hxX : cn x = X) (hin : bIn X 0 1000 = true) (h5 : I (2 + k) 5 = 0) (h6 : I (2 + k) 6 = 0) : kM l yX4_broken (.code yX4_broken cX4_broken 5 none) (rmK 1 0 0 23) D cy ad [.ref (ad 0), .int (nI k), .double x] I G J (qV D cy ad (u2 I (2 + k) 5 1) (u2 G (2 + k) 4 X) J) := by
  refine start_M hadI (by decide +kernel) (Nat.le_of_ble_eq_true rfl) ?_
  intro p e s m below meth cd am hx hb hr hlk hst ls hl
  have hl : lv_has ls 5 [(0, .ref (ad 0)), (1, .int (nI k)), (2, .double x)] := hl
  refine lv_aload_n hx hb dX4_broken_0 rfl (lv_at hl 0 rfl) ?_
  refine lv_iload_n hx hb dX4_broken_1 rfl (lv_at hl 1 rfl) ?_
  refine c_r hst (r_V (As := [.int (nI k)]) (rest := []) am hst hl (k_X4_boardAt hadI hn hk hn2) kRX4_60 imX4_boardAt slX4_boardAt ⟨Nat.le_of_ble_eq_true rfl, Nat.le_of_ble_eq_true rfl⟩ (by decide) (fun _ _ _ => cE_S) rfl rfl rfl (Nat.le_of_ble_eq_true rfl) dX4_broken_2 ⟨Nat.le_of_ble_eq_true rfl, Nat.le_of_ble_eq_true rfl⟩) (fun H locs hst => ?_)
  refine lv_astore (lv' := [(4, .ref (ad (2 + k))), (0, .ref (ad 0)), (1, .int (nI k)), (2, .double x)]) hx hb dX4_broken_5 hl (by decide) rfl (fun ls hl => ?_)
  refine lv_dload_n hx hb dX4_broken_7 rfl (lv_at hl 3 rfl) ?_
  refine lv_iconst (v := 0) hx hb dX4_broken_8 (by decide) ?_
  refine lv_sipush (v := 1000) hx hb dX4_broken_9 (by decide) ?_
  refine c_i hst (r_S (As := [.double x, .int 0, .int 1000]) (rest := []) am hst hl (k_X4_isWithin hadI hxX) kRX4_64 smX4_isWithin ⟨Nat.le_of_ble_eq_true rfl, Nat.le_of_ble_eq_true rfl⟩ rfl rfl (Nat.le_of_ble_eq_true rfl) dX4_broken_12 ⟨Nat.le_of_ble_eq_true rfl, Nat.le_of_ble_eq_true rfl⟩) (fun H locs hst => ?_)
  refine c_v hst (r_S (As := [.int (zB (bIn X 0 1000))]) (rest := []) am hst hl (k_X4_need hadI (zB_n0.mpr hin)) kRX4_68 smX4_need ⟨Nat.le_of_ble_eq_true rfl, Nat.le_of_ble_eq_true rfl⟩ rfl rfl (Nat.le_of_ble_eq_true rfl) dX4_broken_15 ⟨Nat.le_of_ble_eq_true rfl, Nat.le_of_ble_eq_true rfl⟩) (fun H locs hst => ?_)
  refine lv_aload hx hb dX4_broken_18 (lv_at hl 0 rfl) ?_
  refine w_getIN am hst (k := 5) (by omega) (fun _ _ _ => cE_B (show 2 ≤ 2 + k ∧ 2 + k < 34 by omega)) rfl inT0 (by decide) (fun _ _ _ => rfl) fRX4_87 dX4_broken_20 ?_
  refine lv_if_ne (tgt := 34) hx hb dX4_broken_23 (by decide) (fun c_23 => absurd h5 c_23) (fun c_23 => ?_)
  refine lv_aload hx hb dX4_broken_26 (lv_at hl 0 rfl) ?_
  refine w_getIN am hst (k := 6) (by omega) (fun _ _ _ => cE_B (show 2 ≤ 2 + k ∧ 2 + k < 34 by omega)) rfl inT0 (by decide) (fun _ _ _ => rfl) fRX4_91 dX4_broken_28 ?_
  refine lv_if_eq (tgt := 44) hx hb dX4_broken_31 (by decide) (fun c_31 => ?_) (fun c_31 => absurd h6 c_31)
  refine lv_aload hx hb dX4_broken_44 (lv_at hl 0 rfl) ?_
  refine lv_dload_n hx hb dX4_broken_46 rfl (lv_at hl 3 rfl) ?_
  refine w_putDN am hst (k := 4) hxX (by omega) (fun _ _ _ => cE_B (show 2 ≤ 2 + k ∧ 2 + k < 34 by omega)) rfl inT0 tyX0 tyX0_ok nmX0 (by decide) fRX4_96 (fun _ _ _ => rfl) (fun _ _ _ => Nat.le_of_ble_eq_true rfl) rfl rfl dX4_broken_47 (fun H locs hst => ?_)
  refine lv_aload hx hb dX4_broken_50 (lv_at hl 0 rfl) ?_
  refine lv_iconst (v := 1) hx hb dX4_broken_52 (by decide) ?_
  refine w_putIN am hst (k := 5) (by omega) (fun _ _ _ => cE_B (show 2 ≤ 2 + k ∧ 2 + k < 34 by omega)) rfl inT0 tyX0 tyX0_ok nmX0 (by decide) fRX4_87 (fun _ _ _ => rfl) (fun _ _ _ => Nat.le_of_ble_eq_true rfl) rfl rfl rfl rfl dX4_broken_53 (fun H locs hst => ?_)
  exact e_v hx hb hr hlk hst dX4_broken_56

set_option maxHeartbeats 4000000 in
set_option maxRecDepth 100000 in
theorem x1_X4_broken {l : Launch} {D : va_G} {cy ad : Nat → Nat} {I : Im} {G : Dm} {J : Jm} (hadI : adI ad) (hno : l.stackTraces = false) {v : Int32} (hv : v < 0 ∨ ¬ v < I 0 2) {x : UInt64} : kX l yX4_broken (.code yX4_broken cX4_broken 5 none) (rmK 7 1 6 111) D cy ad [.ref (ad 0), .int v, .double x] I G J xIOOBE := by
  refine start_X hadI (by decide +kernel) (Nat.le_of_ble_eq_true rfl) ?_
  intro p e s m below meth cd am hx hb hout hlk hst ls hl
  have hl : lv_has ls 5 [(0, .ref (ad 0)), (1, .int v), (2, .double x)] := hl
  refine lv_aload_n hx hb dX4_broken_0 rfl (lv_at hl 0 rfl) ?_
  refine lv_iload_n hx hb dX4_broken_1 rfl (lv_at hl 1 rfl) ?_
  exact x_call hst hout hlk (Nat.le_of_ble_eq_true rfl) (Nat.le_of_ble_eq_true rfl) (r_VX (As := [.int v]) (rest := []) am hst hl (x_X4_boardAt hadI hno hv) kRX4_60 imX4_boardAt slX4_boardAt ⟨rfl, rfl⟩ ⟨Nat.le_of_ble_eq_true rfl, Nat.le_of_ble_eq_true rfl⟩ (by decide) (fun _ _ _ => cE_S) rfl rfl rfl (Nat.le_of_ble_eq_true rfl) dX4_broken_2 ⟨Nat.le_of_ble_eq_true rfl, Nat.le_of_ble_eq_true rfl⟩)

set_option maxHeartbeats 4000000 in
set_option maxRecDepth 100000 in
theorem x2_X4_broken {l : Launch} {D : va_G} {cy ad : Nat → Nat} {I : Im} {G : Dm} {J : Jm} (hadI : adI ad) (hno : l.stackTraces = false) {n k : Nat} (hn : I 0 2 = nI n) (hk : k < n) (hn2 : n ≤ 32) {x X : UInt64} (hxX : cn x = X) (hin : bIn X 0 1000 = false) : kX l yX4_broken (.code yX4_broken cX4_broken 5 none) (rmK 7 1 6 111) D cy ad [.ref (ad 0), .int (nI k), .double x] I G J xIAE := by
  refine start_X hadI (by decide +kernel) (Nat.le_of_ble_eq_true rfl) ?_
  intro p e s m below meth cd am hx hb hout hlk hst ls hl
  have hl : lv_has ls 5 [(0, .ref (ad 0)), (1, .int (nI k)), (2, .double x)] := hl
  refine lv_aload_n hx hb dX4_broken_0 rfl (lv_at hl 0 rfl) ?_
  refine lv_iload_n hx hb dX4_broken_1 rfl (lv_at hl 1 rfl) ?_
  refine c_r hst (r_V (As := [.int (nI k)]) (rest := []) am hst hl (k_X4_boardAt hadI hn hk hn2) kRX4_60 imX4_boardAt slX4_boardAt ⟨Nat.le_of_ble_eq_true rfl, Nat.le_of_ble_eq_true rfl⟩ (by decide) (fun _ _ _ => cE_S) rfl rfl rfl (Nat.le_of_ble_eq_true rfl) dX4_broken_2 ⟨Nat.le_of_ble_eq_true rfl, Nat.le_of_ble_eq_true rfl⟩) (fun H locs hst => ?_)
  refine lv_astore (lv' := [(4, .ref (ad (2 + k))), (0, .ref (ad 0)), (1, .int (nI k)), (2, .double x)]) hx hb dX4_broken_5 hl (by decide) rfl (fun ls hl => ?_)
  refine lv_dload_n hx hb dX4_broken_7 rfl (lv_at hl 3 rfl) ?_
  refine lv_iconst (v := 0) hx hb dX4_broken_8 (by decide) ?_
  refine lv_sipush (v := 1000) hx hb dX4_broken_9 (by decide) ?_
  refine c_i hst (r_S (As := [.double x, .int 0, .int 1000]) (rest := []) am hst hl (k_X4_isWithin hadI hxX) kRX4_64 smX4_isWithin ⟨Nat.le_of_ble_eq_true rfl, Nat.le_of_ble_eq_true rfl⟩ rfl rfl (Nat.le_of_ble_eq_true rfl) dX4_broken_12 ⟨Nat.le_of_ble_eq_true rfl, Nat.le_of_ble_eq_true rfl⟩) (fun H locs hst => ?_)
  exact x_call hst hout hlk (Nat.le_of_ble_eq_true rfl) (Nat.le_of_ble_eq_true rfl) (r_SX (As := [.int (zB (bIn X 0 1000))]) (rest := []) am hst hl (x_X4_need hadI hno (zB_0.mpr hin)) kRX4_68 smX4_need ⟨rfl, rfl⟩ ⟨Nat.le_of_ble_eq_true rfl, Nat.le_of_ble_eq_true rfl⟩ rfl rfl (Nat.le_of_ble_eq_true rfl) dX4_broken_15 ⟨Nat.le_of_ble_eq_true rfl, Nat.le_of_ble_eq_true rfl⟩)

set_option maxHeartbeats 4000000 in
set_option maxRecDepth 100000 in
theorem x3_X4_broken {l : Launch} {D : va_G} {cy ad : Nat → Nat} {I : Im} {G : Dm} {J : Jm} (hadI : adI ad) (hno : l.stackTraces = false) {n k : Nat} (hn : I 0 2 = nI n) (hk : k < n) (hn2 : n ≤ 32) {x X : UInt64} (hxX : cn x = X) (hin : bIn X 0 1000 = true) (hv : ¬ I (2 + k) 5 = 0 ∨ ¬ I (2 + k) 6 = 0) : kX l yX4_broken (.code yX4_broken cX4_broken 5 none) (rmK 7 1 6 111) D cy ad [.ref (ad 0), .int (nI k), .double x] I G J xISE := by
  refine start_X hadI (by decide +kernel) (Nat.le_of_ble_eq_true rfl) ?_
  intro p e s m below meth cd am hx hb hout hlk hst ls hl
  have hl : lv_has ls 5 [(0, .ref (ad 0)), (1, .int (nI k)), (2, .double x)] := hl
  refine lv_aload_n hx hb dX4_broken_0 rfl (lv_at hl 0 rfl) ?_
  refine lv_iload_n hx hb dX4_broken_1 rfl (lv_at hl 1 rfl) ?_
  refine c_r hst (r_V (As := [.int (nI k)]) (rest := []) am hst hl (k_X4_boardAt hadI hn hk hn2) kRX4_60 imX4_boardAt slX4_boardAt ⟨Nat.le_of_ble_eq_true rfl, Nat.le_of_ble_eq_true rfl⟩ (by decide) (fun _ _ _ => cE_S) rfl rfl rfl (Nat.le_of_ble_eq_true rfl) dX4_broken_2 ⟨Nat.le_of_ble_eq_true rfl, Nat.le_of_ble_eq_true rfl⟩) (fun H locs hst => ?_)
  refine lv_astore (lv' := [(4, .ref (ad (2 + k))), (0, .ref (ad 0)), (1, .int (nI k)), (2, .double x)]) hx hb dX4_broken_5 hl (by decide) rfl (fun ls hl => ?_)
  refine lv_dload_n hx hb dX4_broken_7 rfl (lv_at hl 3 rfl) ?_
  refine lv_iconst (v := 0) hx hb dX4_broken_8 (by decide) ?_
  refine lv_sipush (v := 1000) hx hb dX4_broken_9 (by decide) ?_
  refine c_i hst (r_S (As := [.double x, .int 0, .int 1000]) (rest := []) am hst hl (k_X4_isWithin hadI hxX) kRX4_64 smX4_isWithin ⟨Nat.le_of_ble_eq_true rfl, Nat.le_of_ble_eq_true rfl⟩ rfl rfl (Nat.le_of_ble_eq_true rfl) dX4_broken_12 ⟨Nat.le_of_ble_eq_true rfl, Nat.le_of_ble_eq_true rfl⟩) (fun H locs hst => ?_)
  refine c_v hst (r_S (As := [.int (zB (bIn X 0 1000))]) (rest := []) am hst hl (k_X4_need hadI (zB_n0.mpr hin)) kRX4_68 smX4_need ⟨Nat.le_of_ble_eq_true rfl, Nat.le_of_ble_eq_true rfl⟩ rfl rfl (Nat.le_of_ble_eq_true rfl) dX4_broken_15 ⟨Nat.le_of_ble_eq_true rfl, Nat.le_of_ble_eq_true rfl⟩) (fun H locs hst => ?_)
  refine lv_aload hx hb dX4_broken_18 (lv_at hl 0 rfl) ?_
  refine w_getIN am hst (k := 5) (by omega) (fun _ _ _ => cE_B (show 2 ≤ 2 + k ∧ 2 + k < 34 by omega)) rfl inT0 (by decide) (fun _ _ _ => rfl) fRX4_87 dX4_broken_20 ?_
  refine lv_if_ne (tgt := 34) hx hb dX4_broken_23 (by decide) (fun c_23 => ?_) (fun c_23 => ?_)
  · skip
    exact x_throw (text := "broken before, or out") hno am hst hout hlk hl tx_ISE tg_ISE rfl (by decide) dX4_broken_34 dX4_broken_37 dX4_broken_38 dX4_broken_40 dX4_broken_43 (Nat.le_of_ble_eq_true rfl) (Nat.le_of_ble_eq_true rfl) (Nat.le_of_ble_eq_true rfl) (Nat.le_of_ble_eq_true rfl) (Nat.le_of_ble_eq_true rfl) (Nat.le_of_ble_eq_true rfl)
  · skip
    refine lv_aload hx hb dX4_broken_26 (lv_at hl 0 rfl) ?_
    refine w_getIN am hst (k := 6) (by omega) (fun _ _ _ => cE_B (show 2 ≤ 2 + k ∧ 2 + k < 34 by omega)) rfl inT0 (by decide) (fun _ _ _ => rfl) fRX4_91 dX4_broken_28 ?_
    refine lv_if_eq (tgt := 44) hx hb dX4_broken_31 (by decide) (fun c_31 => absurd c_31 ((hv.resolve_left (fun h => h c_23)))) (fun c_31 => ?_)
    exact x_throw (text := "broken before, or out") hno am hst hout hlk hl tx_ISE tg_ISE rfl (by decide) dX4_broken_34 dX4_broken_37 dX4_broken_38 dX4_broken_40 dX4_broken_43 (Nat.le_of_ble_eq_true rfl) (Nat.le_of_ble_eq_true rfl) (Nat.le_of_ble_eq_true rfl) (Nat.le_of_ble_eq_true rfl) (Nat.le_of_ble_eq_true rfl) (Nat.le_of_ble_eq_true rfl)

set_option maxHeartbeats 4000000 in
set_option maxRecDepth 100000 in
theorem k_X4_fit {l : Launch} {D : va_G} {cy ad : Nat → Nat} {I : Im} {G : Dm} {J : Jm} (hadI : adI ad)  : kD l yX4_fit (.code yX4_fit cX4_fit 1 (some .int)) (rmK 4 0 0 90) D cy ad [.ref (ad 0)] I G J (qI D cy ad (nI (rkR 34 I sk0 G)) I (rkG 34 I sk0 G) J) := by
  refine start_D hadI (by decide +kernel) (Nat.le_of_ble_eq_true rfl) ?_
  intro p e s m below meth cd am hx hb hr hlk hst ls hl d0 hd
  have hl : lv_has ls 1 [(0, .ref (ad 0))] := hl
  refine lv_aload_n hx hb dX4_fit_0 rfl (lv_at hl 0 rfl) ?_
  refine w_getR am hst (k := 3) (b := ad 34) (by decide) (fun _ _ _ => cE_S) rfl inT4 (by decide) (fun _ _ _ => rfl) fRX4_23 dX4_fit_1 ?_
  refine lv_aload_n hx hb dX4_fit_4 rfl (lv_at hl 0 rfl) ?_
  refine w_getR am hst (k := 1) (b := ad 1) (by decide) (fun _ _ _ => cE_S) rfl inT4 (by decide) (fun _ _ _ => rfl) fRX4_15 dX4_fit_5 ?_
  refine lv_null hx hb dX4_fit_8 ?_
  refine c_iD hd hst (r_ND (As := [.ref (ad 1), .null]) (rest := []) am hst hl (k_X2_reckon_n hadI (Or.inl rfl)) kRX4_99 imX2_reckon slX2_reckon ⟨Nat.le_of_ble_eq_true rfl, Nat.le_of_ble_eq_true rfl⟩ (by omega) (fun _ _ _ => cE_F (Or.inl rfl)) rfl rfl rfl (Nat.le_of_ble_eq_true rfl) dX4_fit_9 ⟨Nat.le_of_ble_eq_true rfl, Nat.le_of_ble_eq_true rfl⟩) (fun d0 H locs hd hst => ?_)
  exact e_iD hd hx hb hr hlk hst rfl rfl dX4_fit_12

set_option maxHeartbeats 4000000 in
set_option maxRecDepth 100000 in
theorem k_X4_number {l : Launch} {D : va_G} {cy ad : Nat → Nat} {I : Im} {G : Dm} {J : Jm} (hadI : adI ad) {k : Nat} (hk : k < 3) : kM l yX4_number (.code yX4_number cX4_number 2 (some .double)) (rmK 0 0 0 0) D cy ad [.ref (ad 0), .int (nI k)] I G J (qD D cy ad (G 40 k) I G J) := by
  refine start_M hadI (by decide +kernel) (Nat.le_of_ble_eq_true rfl) ?_
  intro p e s m below meth cd am hx hb hr hlk hst ls hl
  have hl : lv_has ls 2 [(0, .ref (ad 0)), (1, .int (nI k))] := hl
  refine lv_iload_n hx hb dX4_number_0 rfl (lv_at hl 1 rfl) ?_
  refine lv_if_lt (tgt := 9) hx hb dX4_number_1 (by decide) (fun c_1 => absurd c_1 (nI_pos (by omega))) (fun c_1 => ?_)
  refine lv_iload_n hx hb dX4_number_4 rfl (lv_at hl 1 rfl) ?_
  refine lv_iconst (v := 3) hx hb dX4_number_5 (by decide) ?_
  refine lv_icmp_lt (tgt := 19) hx hb dX4_number_6 (by decide) (fun c_6 => ?_) (fun c_6 => absurd (nI_lt (b := 3) hk (by omega)) c_6)
  refine lv_aload_n hx hb dX4_number_19 rfl (lv_at hl 0 rfl) ?_
  refine w_getR am hst (k := 3) (b := ad 34) (by decide) (fun _ _ _ => cE_S) rfl inT4 (by decide) (fun _ _ _ => rfl) fRX4_23 dX4_number_20 ?_
  refine w_getRN am hst (k := 2) (b := ad (34 + 6)) (by omega) (fun _ _ _ => cE_F (Or.inl rfl)) rfl inT2 (by decide) (fun _ _ _ => rfl) fRX4_108 dX4_number_23 ?_
  refine lv_iload_n hx hb dX4_number_26 rfl (lv_at hl 1 rfl) ?_
  refine w_dald am hst (by omega) (fun _ _ _ => cE_F6 (Or.inl rfl)) (n := k) (nI_clamp (by omega)) (vp_in_nI (by omega) (by decide)) dX4_number_27 (fun x1 hx1 => ?_)
  exact e_d hx hb hr hlk hst hx1 dX4_number_28

set_option maxHeartbeats 4000000 in
set_option maxRecDepth 100000 in
theorem x_X4_number {l : Launch} {D : va_G} {cy ad : Nat → Nat} {I : Im} {G : Dm} {J : Jm} (hadI : adI ad) (hno : l.stackTraces = false) {v : Int32} (hv : v < 0 ∨ ¬ v < 3) : kX l yX4_number (.code yX4_number cX4_number 2 (some .double)) (rmK 6 1 6 90) D cy ad [.ref (ad 0), .int v] I G J xIOOBE := by
  refine start_X hadI (by decide +kernel) (Nat.le_of_ble_eq_true rfl) ?_
  intro p e s m below meth cd am hx hb hout hlk hst ls hl
  have hl : lv_has ls 2 [(0, .ref (ad 0)), (1, .int v)] := hl
  refine lv_iload_n hx hb dX4_number_0 rfl (lv_at hl 1 rfl) ?_
  refine lv_if_lt (tgt := 9) hx hb dX4_number_1 (by decide) (fun c_1 => ?_) (fun c_1 => ?_)
  · skip
    exact x_throw (text := "no such number") hno am hst hout hlk hl tx_IOOBE tg_IOOBE rfl (by decide) dX4_number_9 dX4_number_12 dX4_number_13 dX4_number_15 dX4_number_18 (Nat.le_of_ble_eq_true rfl) (Nat.le_of_ble_eq_true rfl) (Nat.le_of_ble_eq_true rfl) (Nat.le_of_ble_eq_true rfl) (Nat.le_of_ble_eq_true rfl) (Nat.le_of_ble_eq_true rfl)
  · skip
    refine lv_iload_n hx hb dX4_number_4 rfl (lv_at hl 1 rfl) ?_
    refine lv_iconst (v := 3) hx hb dX4_number_5 (by decide) ?_
    refine lv_icmp_lt (tgt := 19) hx hb dX4_number_6 (by decide) (fun c_6 => absurd c_6 (hv.resolve_left c_1)) (fun c_6 => ?_)
    exact x_throw (text := "no such number") hno am hst hout hlk hl tx_IOOBE tg_IOOBE rfl (by decide) dX4_number_9 dX4_number_12 dX4_number_13 dX4_number_15 dX4_number_18 (Nat.le_of_ble_eq_true rfl) (Nat.le_of_ble_eq_true rfl) (Nat.le_of_ble_eq_true rfl) (Nat.le_of_ble_eq_true rfl) (Nat.le_of_ble_eq_true rfl) (Nat.le_of_ble_eq_true rfl)

set_option maxHeartbeats 4000000 in
set_option maxRecDepth 100000 in
theorem k_X4_foretold {l : Launch} {D : va_G} {cy ad : Nat → Nat} {I : Im} {G : Dm} {J : Jm} (hadI : adI ad) {n k : Nat} (hn : I 0 2 = nI n) (hk : k < n) (hn2 : n ≤ 32) (hcp : bCompl I G (2 + k) = true) : kD l yX4_foretold (.code yX4_foretold cX4_foretold 2 (some .double)) (rmK 3 0 0 62) D cy ad [.ref (ad 0), .int (nI k)] I G J (qD D cy ad (fore 34 I G (2 + k)) I G J) := by
  refine start_D hadI (by decide +kernel) (Nat.le_of_ble_eq_true rfl) ?_
  intro p e s m below meth cd am hx hb hr hlk hst ls hl d0 hd
  have hl : lv_has ls 2 [(0, .ref (ad 0)), (1, .int (nI k))] := hl
  refine lv_aload_n hx hb dX4_foretold_0 rfl (lv_at hl 0 rfl) ?_
  refine w_getR am hst (k := 3) (b := ad 34) (by decide) (fun _ _ _ => cE_S) rfl inT4 (by decide) (fun _ _ _ => rfl) fRX4_23 dX4_foretold_1 ?_
  refine lv_aload_n hx hb dX4_foretold_4 rfl (lv_at hl 0 rfl) ?_
  refine lv_iload_n hx hb dX4_foretold_5 rfl (lv_at hl 1 rfl) ?_
  refine c_r hst (r_V (As := [.int (nI k)]) (rest := [.ref (ad 34)]) am hst hl (k_X4_completeBoardAt hadI hn hk hn2 hcp) kRX4_111 imX4_completeBoardAt slX4_completeBoardAt ⟨Nat.le_of_ble_eq_true rfl, Nat.le_of_ble_eq_true rfl⟩ (by decide) (fun _ _ _ => cE_S) rfl rfl rfl (Nat.le_of_ble_eq_true rfl) dX4_foretold_6 ⟨Nat.le_of_ble_eq_true rfl, Nat.le_of_ble_eq_true rfl⟩) (fun H locs hst => ?_)
  refine c_dD hd hst (r_ND (As := [.ref (ad (2 + k))]) (rest := []) am hst hl (k_X2_foretell hadI (Or.inl rfl) (show 2 ≤ 2 + k ∧ 2 + k < 34 by omega)) kRX4_114 imX2_foretell slX2_foretell ⟨Nat.le_of_ble_eq_true rfl, Nat.le_of_ble_eq_true rfl⟩ (by omega) (fun _ _ _ => cE_F (Or.inl rfl)) rfl rfl rfl (Nat.le_of_ble_eq_true rfl) dX4_foretold_9 ⟨Nat.le_of_ble_eq_true rfl, Nat.le_of_ble_eq_true rfl⟩) (fun x1 d0 H locs hx1 hd hst => ?_)
  exact e_dD hd hx hb hr hlk hst hx1 dX4_foretold_12

set_option maxHeartbeats 4000000 in
set_option maxRecDepth 100000 in
theorem x1_X4_foretold {l : Launch} {D : va_G} {cy ad : Nat → Nat} {I : Im} {G : Dm} {J : Jm} (hadI : adI ad) (hno : l.stackTraces = false) {v : Int32} (hv : v < 0 ∨ ¬ v < I 0 2) : kX l yX4_foretold (.code yX4_foretold cX4_foretold 2 (some .double)) (rmK 8 1 6 133) D cy ad [.ref (ad 0), .int v] I G J xIOOBE := by
  refine start_X hadI (by decide +kernel) (Nat.le_of_ble_eq_true rfl) ?_
  intro p e s m below meth cd am hx hb hout hlk hst ls hl
  have hl : lv_has ls 2 [(0, .ref (ad 0)), (1, .int v)] := hl
  refine lv_aload_n hx hb dX4_foretold_0 rfl (lv_at hl 0 rfl) ?_
  refine w_getR am hst (k := 3) (b := ad 34) (by decide) (fun _ _ _ => cE_S) rfl inT4 (by decide) (fun _ _ _ => rfl) fRX4_23 dX4_foretold_1 ?_
  refine lv_aload_n hx hb dX4_foretold_4 rfl (lv_at hl 0 rfl) ?_
  refine lv_iload_n hx hb dX4_foretold_5 rfl (lv_at hl 1 rfl) ?_
  exact x_call hst hout hlk (Nat.le_of_ble_eq_true rfl) (Nat.le_of_ble_eq_true rfl) (r_VX (As := [.int v]) (rest := [.ref (ad 34)]) am hst hl (x1_X4_completeBoardAt hadI hno hv) kRX4_111 imX4_completeBoardAt slX4_completeBoardAt ⟨rfl, rfl⟩ ⟨Nat.le_of_ble_eq_true rfl, Nat.le_of_ble_eq_true rfl⟩ (by decide) (fun _ _ _ => cE_S) rfl rfl rfl (Nat.le_of_ble_eq_true rfl) dX4_foretold_6 ⟨Nat.le_of_ble_eq_true rfl, Nat.le_of_ble_eq_true rfl⟩)

set_option maxHeartbeats 4000000 in
set_option maxRecDepth 100000 in
theorem x2_X4_foretold {l : Launch} {D : va_G} {cy ad : Nat → Nat} {I : Im} {G : Dm} {J : Jm} (hadI : adI ad) (hno : l.stackTraces = false) {n k : Nat} (hn : I 0 2 = nI n) (hk : k < n) (hn2 : n ≤ 32) (hcp : bCompl I G (2 + k) = false) : kX l yX4_foretold (.code yX4_foretold cX4_foretold 2 (some .double)) (rmK 8 1 6 133) D cy ad [.ref (ad 0), .int (nI k)] I G J xISE := by
  refine start_X hadI (by decide +kernel) (Nat.le_of_ble_eq_true rfl) ?_
  intro p e s m below meth cd am hx hb hout hlk hst ls hl
  have hl : lv_has ls 2 [(0, .ref (ad 0)), (1, .int (nI k))] := hl
  refine lv_aload_n hx hb dX4_foretold_0 rfl (lv_at hl 0 rfl) ?_
  refine w_getR am hst (k := 3) (b := ad 34) (by decide) (fun _ _ _ => cE_S) rfl inT4 (by decide) (fun _ _ _ => rfl) fRX4_23 dX4_foretold_1 ?_
  refine lv_aload_n hx hb dX4_foretold_4 rfl (lv_at hl 0 rfl) ?_
  refine lv_iload_n hx hb dX4_foretold_5 rfl (lv_at hl 1 rfl) ?_
  exact x_call hst hout hlk (Nat.le_of_ble_eq_true rfl) (Nat.le_of_ble_eq_true rfl) (r_VX (As := [.int (nI k)]) (rest := [.ref (ad 34)]) am hst hl (x2_X4_completeBoardAt hadI hno hn hk hn2 hcp) kRX4_111 imX4_completeBoardAt slX4_completeBoardAt ⟨rfl, rfl⟩ ⟨Nat.le_of_ble_eq_true rfl, Nat.le_of_ble_eq_true rfl⟩ (by decide) (fun _ _ _ => cE_S) rfl rfl rfl (Nat.le_of_ble_eq_true rfl) dX4_foretold_6 ⟨Nat.le_of_ble_eq_true rfl, Nat.le_of_ble_eq_true rfl⟩)

set_option maxHeartbeats 4000000 in
set_option maxRecDepth 100000 in
theorem k_X4_leftOut {l : Launch} {D : va_G} {cy ad : Nat → Nat} {I : Im} {G : Dm} {J : Jm} (hadI : adI ad) {n k : Nat} (hn : I 0 2 = nI n) (hk : k < n) (hn2 : n ≤ 32) (hcp : bCompl I G (2 + k) = true) : kD l yX4_leftOut (.code yX4_leftOut cX4_leftOut 3 (some .double)) (rmK 4 0 0 90) D cy ad [.ref (ad 0), .int (nI k)] I G J (qD D cy ad (fore 41 I (rkG 41 I (sk1 k) G) (2 + k)) I (rkG 41 I (sk1 k) G) J) := by
  refine start_D hadI (by decide +kernel) (Nat.le_of_ble_eq_true rfl) ?_
  intro p e s m below meth cd am hx hb hr hlk hst ls hl d0 hd
  have hl : lv_has ls 3 [(0, .ref (ad 0)), (1, .int (nI k))] := hl
  refine lv_aload_n hx hb dX4_leftOut_0 rfl (lv_at hl 0 rfl) ?_
  refine lv_iload_n hx hb dX4_leftOut_1 rfl (lv_at hl 1 rfl) ?_
  refine c_r hst (r_V (As := [.int (nI k)]) (rest := []) am hst hl (k_X4_completeBoardAt hadI hn hk hn2 hcp) kRX4_111 imX4_completeBoardAt slX4_completeBoardAt ⟨Nat.le_of_ble_eq_true rfl, Nat.le_of_ble_eq_true rfl⟩ (by decide) (fun _ _ _ => cE_S) rfl rfl rfl (Nat.le_of_ble_eq_true rfl) dX4_leftOut_2 ⟨Nat.le_of_ble_eq_true rfl, Nat.le_of_ble_eq_true rfl⟩) (fun H locs hst => ?_)
  refine lv_astore_n (lv' := [(2, .ref (ad (2 + k))), (0, .ref (ad 0)), (1, .int (nI k))]) hx hb dX4_leftOut_5 rfl hl (by decide) rfl (fun ls hl => ?_)
  refine lv_aload_n hx hb dX4_leftOut_6 rfl (lv_at hl 1 rfl) ?_
  refine w_getR am hst (k := 4) (b := ad 41) (by decide) (fun _ _ _ => cE_S) rfl inT4 (by decide) (fun _ _ _ => rfl) fRX4_27 dX4_leftOut_7 ?_
  refine lv_aload_n hx hb dX4_leftOut_10 rfl (lv_at hl 1 rfl) ?_
  refine w_getR am hst (k := 1) (b := ad 1) (by decide) (fun _ _ _ => cE_S) rfl inT4 (by decide) (fun _ _ _ => rfl) fRX4_15 dX4_leftOut_11 ?_
  refine lv_aload_n hx hb dX4_leftOut_14 rfl (lv_at hl 0 rfl) ?_
  refine c_iD hd hst (r_ND (As := [.ref (ad 1), .ref (ad (2 + k))]) (rest := []) am hst hl (k_X2_reckon_w hadI (Or.inr rfl) (w := k) (by omega)) kRX4_99 imX2_reckon slX2_reckon ⟨Nat.le_of_ble_eq_true rfl, Nat.le_of_ble_eq_true rfl⟩ (by omega) (fun _ _ _ => cE_F (Or.inr rfl)) rfl rfl rfl (Nat.le_of_ble_eq_true rfl) dX4_leftOut_15 ⟨Nat.le_of_ble_eq_true rfl, Nat.le_of_ble_eq_true rfl⟩) (fun d0 H locs hd hst => ?_)
  refine lv_pop hx hb dX4_leftOut_18 rfl ?_
  refine lv_aload_n hx hb dX4_leftOut_19 rfl (lv_at hl 1 rfl) ?_
  refine w_getR am hst (k := 4) (b := ad 41) (by decide) (fun _ _ _ => cE_S) rfl inT4 (by decide) (fun _ _ _ => rfl) fRX4_27 dX4_leftOut_20 ?_
  refine lv_aload_n hx hb dX4_leftOut_23 rfl (lv_at hl 0 rfl) ?_
  refine c_dD hd hst (r_ND (As := [.ref (ad (2 + k))]) (rest := []) am hst hl (k_X2_foretell hadI (Or.inr rfl) (show 2 ≤ 2 + k ∧ 2 + k < 34 by omega)) kRX4_114 imX2_foretell slX2_foretell ⟨Nat.le_of_ble_eq_true rfl, Nat.le_of_ble_eq_true rfl⟩ (by omega) (fun _ _ _ => cE_F (Or.inr rfl)) rfl rfl rfl (Nat.le_of_ble_eq_true rfl) dX4_leftOut_24 ⟨Nat.le_of_ble_eq_true rfl, Nat.le_of_ble_eq_true rfl⟩) (fun x1 d0 H locs hx1 hd hst => ?_)
  exact e_dD hd hx hb hr hlk hst hx1 dX4_leftOut_27

set_option maxHeartbeats 4000000 in
set_option maxRecDepth 100000 in
theorem x1_X4_leftOut {l : Launch} {D : va_G} {cy ad : Nat → Nat} {I : Im} {G : Dm} {J : Jm} (hadI : adI ad) (hno : l.stackTraces = false) {v : Int32} (hv : v < 0 ∨ ¬ v < I 0 2) : kX l yX4_leftOut (.code yX4_leftOut cX4_leftOut 3 (some .double)) (rmK 8 1 6 133) D cy ad [.ref (ad 0), .int v] I G J xIOOBE := by
  refine start_X hadI (by decide +kernel) (Nat.le_of_ble_eq_true rfl) ?_
  intro p e s m below meth cd am hx hb hout hlk hst ls hl
  have hl : lv_has ls 3 [(0, .ref (ad 0)), (1, .int v)] := hl
  refine lv_aload_n hx hb dX4_leftOut_0 rfl (lv_at hl 0 rfl) ?_
  refine lv_iload_n hx hb dX4_leftOut_1 rfl (lv_at hl 1 rfl) ?_
  exact x_call hst hout hlk (Nat.le_of_ble_eq_true rfl) (Nat.le_of_ble_eq_true rfl) (r_VX (As := [.int v]) (rest := []) am hst hl (x1_X4_completeBoardAt hadI hno hv) kRX4_111 imX4_completeBoardAt slX4_completeBoardAt ⟨rfl, rfl⟩ ⟨Nat.le_of_ble_eq_true rfl, Nat.le_of_ble_eq_true rfl⟩ (by decide) (fun _ _ _ => cE_S) rfl rfl rfl (Nat.le_of_ble_eq_true rfl) dX4_leftOut_2 ⟨Nat.le_of_ble_eq_true rfl, Nat.le_of_ble_eq_true rfl⟩)

set_option maxHeartbeats 4000000 in
set_option maxRecDepth 100000 in
theorem x2_X4_leftOut {l : Launch} {D : va_G} {cy ad : Nat → Nat} {I : Im} {G : Dm} {J : Jm} (hadI : adI ad) (hno : l.stackTraces = false) {n k : Nat} (hn : I 0 2 = nI n) (hk : k < n) (hn2 : n ≤ 32) (hcp : bCompl I G (2 + k) = false) : kX l yX4_leftOut (.code yX4_leftOut cX4_leftOut 3 (some .double)) (rmK 8 1 6 133) D cy ad [.ref (ad 0), .int (nI k)] I G J xISE := by
  refine start_X hadI (by decide +kernel) (Nat.le_of_ble_eq_true rfl) ?_
  intro p e s m below meth cd am hx hb hout hlk hst ls hl
  have hl : lv_has ls 3 [(0, .ref (ad 0)), (1, .int (nI k))] := hl
  refine lv_aload_n hx hb dX4_leftOut_0 rfl (lv_at hl 0 rfl) ?_
  refine lv_iload_n hx hb dX4_leftOut_1 rfl (lv_at hl 1 rfl) ?_
  exact x_call hst hout hlk (Nat.le_of_ble_eq_true rfl) (Nat.le_of_ble_eq_true rfl) (r_VX (As := [.int (nI k)]) (rest := []) am hst hl (x2_X4_completeBoardAt hadI hno hn hk hn2 hcp) kRX4_111 imX4_completeBoardAt slX4_completeBoardAt ⟨rfl, rfl⟩ ⟨Nat.le_of_ble_eq_true rfl, Nat.le_of_ble_eq_true rfl⟩ (by decide) (fun _ _ _ => cE_S) rfl rfl rfl (Nat.le_of_ble_eq_true rfl) dX4_leftOut_2 ⟨Nat.le_of_ble_eq_true rfl, Nat.le_of_ble_eq_true rfl⟩)

set_option maxHeartbeats 4000000 in
set_option maxRecDepth 100000 in
theorem k_X4_limit {l : Launch} {D : va_G} {cy ad : Nat → Nat} {I : Im} {G : Dm} {J : Jm} (hadI : adI ad) {k : Nat} (hk : k < 4) {x X : UInt64} (hxX : cn x = X) (hin : bIn X 0 1000 = true) : kM l yX4_limit (.code yX4_limit cX4_limit 4 none) (rmK 1 0 0 23) D cy ad [.ref (ad 0), .int (nI k), .double x] I G J (qV D cy ad I (u2 G 48 k X) J) := by
  refine start_M hadI (by decide +kernel) (Nat.le_of_ble_eq_true rfl) ?_
  intro p e s m below meth cd am hx hb hr hlk hst ls hl
  have hl : lv_has ls 4 [(0, .ref (ad 0)), (1, .int (nI k)), (2, .double x)] := hl
  refine lv_iload_n hx hb dX4_limit_0 rfl (lv_at hl 1 rfl) ?_
  refine c_v hst (r_S (As := [.int (nI k)]) (rest := []) am hst hl (k_X4_checkClass hadI ⟨nI_pos (by omega), nI_lt (b := 4) (by omega) (by omega)⟩) kRX4_118 smX4_checkClass ⟨Nat.le_of_ble_eq_true rfl, Nat.le_of_ble_eq_true rfl⟩ rfl rfl (Nat.le_of_ble_eq_true rfl) dX4_limit_1 ⟨Nat.le_of_ble_eq_true rfl, Nat.le_of_ble_eq_true rfl⟩) (fun H locs hst => ?_)
  refine lv_dload_n hx hb dX4_limit_4 rfl (lv_at hl 2 rfl) ?_
  refine lv_iconst (v := 0) hx hb dX4_limit_5 (by decide) ?_
  refine lv_sipush (v := 1000) hx hb dX4_limit_6 (by decide) ?_
  refine c_i hst (r_S (As := [.double x, .int 0, .int 1000]) (rest := []) am hst hl (k_X4_isWithin hadI hxX) kRX4_64 smX4_isWithin ⟨Nat.le_of_ble_eq_true rfl, Nat.le_of_ble_eq_true rfl⟩ rfl rfl (Nat.le_of_ble_eq_true rfl) dX4_limit_9 ⟨Nat.le_of_ble_eq_true rfl, Nat.le_of_ble_eq_true rfl⟩) (fun H locs hst => ?_)
  refine c_v hst (r_S (As := [.int (zB (bIn X 0 1000))]) (rest := []) am hst hl (k_X4_need hadI (zB_n0.mpr hin)) kRX4_68 smX4_need ⟨Nat.le_of_ble_eq_true rfl, Nat.le_of_ble_eq_true rfl⟩ rfl rfl (Nat.le_of_ble_eq_true rfl) dX4_limit_12 ⟨Nat.le_of_ble_eq_true rfl, Nat.le_of_ble_eq_true rfl⟩) (fun H locs hst => ?_)
  refine lv_aload_n hx hb dX4_limit_15 rfl (lv_at hl 0 rfl) ?_
  refine w_getR am hst (k := 5) (b := ad 48) (by decide) (fun _ _ _ => cE_S) rfl inT4 (by decide) (fun _ _ _ => rfl) fRX4_30 dX4_limit_16 ?_
  refine lv_iload_n hx hb dX4_limit_19 rfl (lv_at hl 1 rfl) ?_
  refine lv_dload_n hx hb dX4_limit_20 rfl (lv_at hl 2 rfl) ?_
  refine w_dast am hst hxX (by decide) (fun _ _ _ => cE_48) (n := k) (nI_clamp (by omega)) (vp_in_nI (by omega) (by decide)) dX4_limit_21 (fun H locs hst => ?_)
  exact e_v hx hb hr hlk hst dX4_limit_22

set_option maxHeartbeats 4000000 in
set_option maxRecDepth 100000 in
theorem x1_X4_limit {l : Launch} {D : va_G} {cy ad : Nat → Nat} {I : Im} {G : Dm} {J : Jm} (hadI : adI ad) (hno : l.stackTraces = false) {v : Int32} (hv : v < 0 ∨ ¬ v < 4) {x : UInt64} : kX l yX4_limit (.code yX4_limit cX4_limit 4 none) (rmK 7 1 6 110) D cy ad [.ref (ad 0), .int v, .double x] I G J xIOOBE := by
  refine start_X hadI (by decide +kernel) (Nat.le_of_ble_eq_true rfl) ?_
  intro p e s m below meth cd am hx hb hout hlk hst ls hl
  have hl : lv_has ls 4 [(0, .ref (ad 0)), (1, .int v), (2, .double x)] := hl
  refine lv_iload_n hx hb dX4_limit_0 rfl (lv_at hl 1 rfl) ?_
  exact x_call hst hout hlk (Nat.le_of_ble_eq_true rfl) (Nat.le_of_ble_eq_true rfl) (r_SX (As := [.int v]) (rest := []) am hst hl (x_X4_checkClass hadI hno hv) kRX4_118 smX4_checkClass ⟨rfl, rfl⟩ ⟨Nat.le_of_ble_eq_true rfl, Nat.le_of_ble_eq_true rfl⟩ rfl rfl (Nat.le_of_ble_eq_true rfl) dX4_limit_1 ⟨Nat.le_of_ble_eq_true rfl, Nat.le_of_ble_eq_true rfl⟩)

set_option maxHeartbeats 4000000 in
set_option maxRecDepth 100000 in
theorem x2_X4_limit {l : Launch} {D : va_G} {cy ad : Nat → Nat} {I : Im} {G : Dm} {J : Jm} (hadI : adI ad) (hno : l.stackTraces = false) {k : Nat} (hk : k < 4) {x X : UInt64} (hxX : cn x = X) (hin : bIn X 0 1000 = false) : kX l yX4_limit (.code yX4_limit cX4_limit 4 none) (rmK 7 1 6 110) D cy ad [.ref (ad 0), .int (nI k), .double x] I G J xIAE := by
  refine start_X hadI (by decide +kernel) (Nat.le_of_ble_eq_true rfl) ?_
  intro p e s m below meth cd am hx hb hout hlk hst ls hl
  have hl : lv_has ls 4 [(0, .ref (ad 0)), (1, .int (nI k)), (2, .double x)] := hl
  refine lv_iload_n hx hb dX4_limit_0 rfl (lv_at hl 1 rfl) ?_
  refine c_v hst (r_S (As := [.int (nI k)]) (rest := []) am hst hl (k_X4_checkClass hadI ⟨nI_pos (by omega), nI_lt (b := 4) (by omega) (by omega)⟩) kRX4_118 smX4_checkClass ⟨Nat.le_of_ble_eq_true rfl, Nat.le_of_ble_eq_true rfl⟩ rfl rfl (Nat.le_of_ble_eq_true rfl) dX4_limit_1 ⟨Nat.le_of_ble_eq_true rfl, Nat.le_of_ble_eq_true rfl⟩) (fun H locs hst => ?_)
  refine lv_dload_n hx hb dX4_limit_4 rfl (lv_at hl 2 rfl) ?_
  refine lv_iconst (v := 0) hx hb dX4_limit_5 (by decide) ?_
  refine lv_sipush (v := 1000) hx hb dX4_limit_6 (by decide) ?_
  refine c_i hst (r_S (As := [.double x, .int 0, .int 1000]) (rest := []) am hst hl (k_X4_isWithin hadI hxX) kRX4_64 smX4_isWithin ⟨Nat.le_of_ble_eq_true rfl, Nat.le_of_ble_eq_true rfl⟩ rfl rfl (Nat.le_of_ble_eq_true rfl) dX4_limit_9 ⟨Nat.le_of_ble_eq_true rfl, Nat.le_of_ble_eq_true rfl⟩) (fun H locs hst => ?_)
  exact x_call hst hout hlk (Nat.le_of_ble_eq_true rfl) (Nat.le_of_ble_eq_true rfl) (r_SX (As := [.int (zB (bIn X 0 1000))]) (rest := []) am hst hl (x_X4_need hadI hno (zB_0.mpr hin)) kRX4_68 smX4_need ⟨rfl, rfl⟩ ⟨Nat.le_of_ble_eq_true rfl, Nat.le_of_ble_eq_true rfl⟩ rfl rfl (Nat.le_of_ble_eq_true rfl) dX4_limit_12 ⟨Nat.le_of_ble_eq_true rfl, Nat.le_of_ble_eq_true rfl⟩)

set_option maxHeartbeats 4000000 in
set_option maxRecDepth 100000 in
theorem k_X4_setting {l : Launch} {D : va_G} {cy ad : Nat → Nat} {I : Im} {G : Dm} {J : Jm} (hadI : adI ad) {k : Nat} (hk : k < 4) {a b : Int32} (hin : bShare a b 1000 = true) : kD l yX4_setting (.code yX4_setting cX4_setting 5 (some .int)) (rmK 4 0 0 86) D cy ad [.ref (ad 0), .int (nI k), .int a, .int b] I G J (qI D cy ad (stF I (kf1 I G 32) ((kf1 I G 32) 48 k) a b 201 0) I (kf1 I G 32) J) := by
  refine start_D hadI (by decide +kernel) (Nat.le_of_ble_eq_true rfl) ?_
  intro p e s m below meth cd am hx hb hr hlk hst ls hl d0 hd
  have hl : lv_has ls 5 [(0, .ref (ad 0)), (1, .int (nI k)), (2, .int a), (3, .int b)] := hl
  refine lv_iload_n hx hb dX4_setting_0 rfl (lv_at hl 1 rfl) ?_
  refine c_v hst (r_S (As := [.int (nI k)]) (rest := []) am hst hl (k_X4_checkClass hadI ⟨nI_pos (by omega), nI_lt (b := 4) (by omega) (by omega)⟩) kRX4_118 smX4_checkClass ⟨Nat.le_of_ble_eq_true rfl, Nat.le_of_ble_eq_true rfl⟩ rfl rfl (Nat.le_of_ble_eq_true rfl) dX4_setting_1 ⟨Nat.le_of_ble_eq_true rfl, Nat.le_of_ble_eq_true rfl⟩) (fun H locs hst => ?_)
  refine lv_iload_n hx hb dX4_setting_4 rfl (lv_at hl 2 rfl) ?_
  refine lv_iload_n hx hb dX4_setting_5 rfl (lv_at hl 3 rfl) ?_
  refine lv_sipush (v := 1000) hx hb dX4_setting_6 (by decide) ?_
  refine c_i hst (r_S (As := [.int a, .int b, .int 1000]) (rest := []) am hst hl (k_X4_isShare hadI) kRX4_122 smX4_isShare ⟨Nat.le_of_ble_eq_true rfl, Nat.le_of_ble_eq_true rfl⟩ rfl rfl (Nat.le_of_ble_eq_true rfl) dX4_setting_9 ⟨Nat.le_of_ble_eq_true rfl, Nat.le_of_ble_eq_true rfl⟩) (fun H locs hst => ?_)
  refine c_v hst (r_S (As := [.int (zB (bShare a b 1000))]) (rest := []) am hst hl (k_X4_need hadI (zB_n0.mpr hin)) kRX4_68 smX4_need ⟨Nat.le_of_ble_eq_true rfl, Nat.le_of_ble_eq_true rfl⟩ rfl rfl (Nat.le_of_ble_eq_true rfl) dX4_setting_12 ⟨Nat.le_of_ble_eq_true rfl, Nat.le_of_ble_eq_true rfl⟩) (fun H locs hst => ?_)
  refine lv_aload_n hx hb dX4_setting_15 rfl (lv_at hl 0 rfl) ?_
  refine c_vD hd hst (r_VD (As := []) (rest := []) am hst hl (k_X4_keepForetold hadI) kRX4_126 imX4_keepForetold slX4_keepForetold ⟨Nat.le_of_ble_eq_true rfl, Nat.le_of_ble_eq_true rfl⟩ (by decide) (fun _ _ _ => cE_S) rfl rfl rfl (Nat.le_of_ble_eq_true rfl) dX4_setting_16 ⟨Nat.le_of_ble_eq_true rfl, Nat.le_of_ble_eq_true rfl⟩) (fun d0 H locs hd hst => ?_)
  refine lv_iconst (v := 0) hx hb dX4_setting_19 (by decide) ?_
  refine lv_istore (lv' := [(4, .int 0), (0, .ref (ad 0)), (1, .int (nI k)), (2, .int a), (3, .int b)]) hx hb dX4_setting_20 hl (by decide) rfl (fun ls hl => ?_)
  have lp0 : ∀ (n i : Nat), n + i = 201 → stF I (kf1 I G 32) ((kf1 I G 32) 48 k) a b n i = stF I (kf1 I G 32) ((kf1 I G 32) 48 k) a b 201 0 → ∀ d0 : Drawn, s.drawn.sameBut d0 lw_cs → ∀ (H : Heap) (locs : List Loc), St D cy ad s.heap I ((kf1 I G 32)) J H locs → ∀ ls, lv_has ls 5 [(0, .ref (ad 0)), (1, .int (nI k)), (2, .int a), (3, .int b), (4, .int (nI i))] → W p l e (rmK 4 0 0 86) (s.setDrawn d0) m [.ref (ad 0), .int (nI k), .int a, .int b].toArray below meth cd H locs 0 0 (MQD lw_cs below (qI D cy ad (stF I (kf1 I G 32) ((kf1 I G 32) 48 k) a b 201 0) I (kf1 I G 32) J s.heap.size) [.ref (ad 0), .int (nI k), .int a, .int b].toArray s ((rmK 4 0 0 86)).cells ((rmK 4 0 0 86)).slots (aA ad s.heap.size)) (F0 m 22 ls []) := by
    intro n
    induction n with
    | zero =>
      intro i hi hR d0 hd H locs hst ls hl
      obtain rfl : 201 = i := by omega
      refine lv_iload hx hb dX4_setting_22 (lv_at hl 4 rfl) ?_
      refine lv_sipush (v := 200) hx hb dX4_setting_24 (by decide) ?_
      refine lv_icmp_gt (tgt := 61) hx hb dX4_setting_27 (by decide) (fun c_27 => ?_) (fun c_27 => absurd ((show (200 : Int32) < nI 201 by decide)) c_27)
      refine lv_iconst (v := (-1)) hx hb dX4_setting_61 (by decide) ?_
      exact e_iD hd hx hb hr hlk hst rfl (by rw [← hR]; rfl) dX4_setting_62
    | succ n ih_lp0 =>
      intro i hi hR d0 hd H locs hst ls hl
      refine lv_iload hx hb dX4_setting_22 (lv_at hl 4 rfl) ?_
      refine lv_sipush (v := 200) hx hb dX4_setting_24 (by decide) ?_
      refine lv_icmp_gt (tgt := 61) hx hb dX4_setting_27 (by decide) (fun c_27 => absurd c_27 ((nI_nlt (a := 200) (by omega) (by omega)))) (fun c_27 => ?_)
      refine lv_aload_n hx hb dX4_setting_30 rfl (lv_at hl 0 rfl) ?_
      refine lv_iload hx hb dX4_setting_31 (lv_at hl 4 rfl) ?_
      refine w_i2d hx hb dX4_setting_33 (fun x1 hx1 => ?_)
      refine lv_ldc2d hx hb am.2.2.2.1 (amT am _ wRX4_129) dX4_setting_34 ?_
      refine w_ddiv hd hx hb hx1 cn_k4616189618054758400 dX4_setting_37 (fun x2 d0 hx2 hd => ?_)
      refine lv_aload_n hx hb dX4_setting_38 rfl (lv_at hl 0 rfl) ?_
      refine w_getR am hst (k := 5) (b := ad 48) (by decide) (fun _ _ _ => cE_S) rfl inT4 (by decide) (fun _ _ _ => rfl) fRX4_30 dX4_setting_39 ?_
      refine lv_iload_n hx hb dX4_setting_42 rfl (lv_at hl 1 rfl) ?_
      refine w_dald am hst (by decide) (fun _ _ _ => cE_48) (n := k) (nI_clamp (by omega)) (vp_in_nI (by omega) (by decide)) dX4_setting_43 (fun x3 hx3 => ?_)
      refine lv_iload_n hx hb dX4_setting_44 rfl (lv_at hl 2 rfl) ?_
      refine lv_iload_n hx hb dX4_setting_45 rfl (lv_at hl 3 rfl) ?_
      refine c_i hst (r_V (As := [.double x2, .double x3, .int a, .int b]) (rest := []) am hst hl (k_X4_isEnough hadI hx2 hx3) kRX4_131 imX4_isEnough slX4_isEnough ⟨Nat.le_of_ble_eq_true rfl, Nat.le_of_ble_eq_true rfl⟩ (by decide) (fun _ _ _ => cE_S) rfl rfl rfl (Nat.le_of_ble_eq_true rfl) dX4_setting_46 ⟨Nat.le_of_ble_eq_true rfl, Nat.le_of_ble_eq_true rfl⟩) (fun H locs hst => ?_)
      refine lv_if_eq (tgt := 55) hx hb dX4_setting_49 (by decide) (fun c_49 => ?_) (fun c_49 => ?_)
      · skip
        refine lv_iinc (v := nI (i + 1)) (lv' := [(4, .int (nI (i + 1))), (0, .ref (ad 0)), (1, .int (nI k)), (2, .int a), (3, .int b)]) hx hb dX4_setting_55 hl (k := 4) rfl (nI_1 i) (by decide) rfl (fun ls hl => ?_)
        refine lv_goto (tgt := 22) hx hb dX4_setting_58 (by decide) ?_
        exact ih_lp0 (i + 1) (by omega) (by rw [← hR, stF, if_neg (fun h => by rw [zB_0.mp c_49] at h; cases h)]) d0 hd _ _ hst ls (lv_sub hl [1, 2, 3, 4, 0] rfl)
      · skip
        refine lv_iload hx hb dX4_setting_52 (lv_at hl 4 rfl) ?_
        exact e_iD hd hx hb hr hlk hst rfl (by rw [← hR, stF, if_pos (zB_n0.mp c_49)]) dX4_setting_54
  exact lp0 201 0 (by omega) rfl d0 hd _ _ hst ls (lv_sub hl [1, 2, 3, 4, 0] rfl)

set_option maxHeartbeats 4000000 in
set_option maxRecDepth 100000 in
theorem x1_X4_setting {l : Launch} {D : va_G} {cy ad : Nat → Nat} {I : Im} {G : Dm} {J : Jm} (hadI : adI ad) (hno : l.stackTraces = false) {v a b : Int32} (hv : v < 0 ∨ ¬ v < 4) : kX l yX4_setting (.code yX4_setting cX4_setting 5 (some .int)) (rmK 7 1 6 110) D cy ad [.ref (ad 0), .int v, .int a, .int b] I G J xIOOBE := by
  refine start_X hadI (by decide +kernel) (Nat.le_of_ble_eq_true rfl) ?_
  intro p e s m below meth cd am hx hb hout hlk hst ls hl
  have hl : lv_has ls 5 [(0, .ref (ad 0)), (1, .int v), (2, .int a), (3, .int b)] := hl
  refine lv_iload_n hx hb dX4_setting_0 rfl (lv_at hl 1 rfl) ?_
  exact x_call hst hout hlk (Nat.le_of_ble_eq_true rfl) (Nat.le_of_ble_eq_true rfl) (r_SX (As := [.int v]) (rest := []) am hst hl (x_X4_checkClass hadI hno hv) kRX4_118 smX4_checkClass ⟨rfl, rfl⟩ ⟨Nat.le_of_ble_eq_true rfl, Nat.le_of_ble_eq_true rfl⟩ rfl rfl (Nat.le_of_ble_eq_true rfl) dX4_setting_1 ⟨Nat.le_of_ble_eq_true rfl, Nat.le_of_ble_eq_true rfl⟩)

set_option maxHeartbeats 4000000 in
set_option maxRecDepth 100000 in
theorem x2_X4_setting {l : Launch} {D : va_G} {cy ad : Nat → Nat} {I : Im} {G : Dm} {J : Jm} (hadI : adI ad) (hno : l.stackTraces = false) {k : Nat} (hk : k < 4) {a b : Int32} (hin : bShare a b 1000 = false) : kX l yX4_setting (.code yX4_setting cX4_setting 5 (some .int)) (rmK 7 1 6 110) D cy ad [.ref (ad 0), .int (nI k), .int a, .int b] I G J xIAE := by
  refine start_X hadI (by decide +kernel) (Nat.le_of_ble_eq_true rfl) ?_
  intro p e s m below meth cd am hx hb hout hlk hst ls hl
  have hl : lv_has ls 5 [(0, .ref (ad 0)), (1, .int (nI k)), (2, .int a), (3, .int b)] := hl
  refine lv_iload_n hx hb dX4_setting_0 rfl (lv_at hl 1 rfl) ?_
  refine c_v hst (r_S (As := [.int (nI k)]) (rest := []) am hst hl (k_X4_checkClass hadI ⟨nI_pos (by omega), nI_lt (b := 4) (by omega) (by omega)⟩) kRX4_118 smX4_checkClass ⟨Nat.le_of_ble_eq_true rfl, Nat.le_of_ble_eq_true rfl⟩ rfl rfl (Nat.le_of_ble_eq_true rfl) dX4_setting_1 ⟨Nat.le_of_ble_eq_true rfl, Nat.le_of_ble_eq_true rfl⟩) (fun H locs hst => ?_)
  refine lv_iload_n hx hb dX4_setting_4 rfl (lv_at hl 2 rfl) ?_
  refine lv_iload_n hx hb dX4_setting_5 rfl (lv_at hl 3 rfl) ?_
  refine lv_sipush (v := 1000) hx hb dX4_setting_6 (by decide) ?_
  refine c_i hst (r_S (As := [.int a, .int b, .int 1000]) (rest := []) am hst hl (k_X4_isShare hadI) kRX4_122 smX4_isShare ⟨Nat.le_of_ble_eq_true rfl, Nat.le_of_ble_eq_true rfl⟩ rfl rfl (Nat.le_of_ble_eq_true rfl) dX4_setting_9 ⟨Nat.le_of_ble_eq_true rfl, Nat.le_of_ble_eq_true rfl⟩) (fun H locs hst => ?_)
  exact x_call hst hout hlk (Nat.le_of_ble_eq_true rfl) (Nat.le_of_ble_eq_true rfl) (r_SX (As := [.int (zB (bShare a b 1000))]) (rest := []) am hst hl (x_X4_need hadI hno (zB_0.mpr hin)) kRX4_68 smX4_need ⟨rfl, rfl⟩ ⟨Nat.le_of_ble_eq_true rfl, Nat.le_of_ble_eq_true rfl⟩ rfl rfl (Nat.le_of_ble_eq_true rfl) dX4_setting_12 ⟨Nat.le_of_ble_eq_true rfl, Nat.le_of_ble_eq_true rfl⟩)
end
section
/-! the public methods of the class, the rest -/
def oddF (N u : Nat) (a b : Int32) : Int64 := wfS N a.toInt64 (b - a).toInt64 (min N u + 1)
def oddA (N : Nat) (b : Int32) : Int64 := powL b.toInt64 N
def oddV (N u : Nat) (a b pt : Int32) : Int64 := if lg_cmp (gE 1000 (oddA N b) (oddF N u a b)) 1 ≤ 0 then (if pt = 0 then oddF N u a b else oddA N b) else (if pt = 0 then oddF N u a b else oddA N b) / gE 1000 (oddA N b) (oddF N u a b)
def lus (z : Int64) (n : Int32) : Int64 := (z.toUInt64 >>> (n.toInt64.toUInt64 &&& Int64.toUInt64 63)).toInt64
def dw1 (s k : Int64) : Int64 := s + (k + 1) * (-7046029254386353131)
def dw2 (z : Int64) : Int64 := (z ^^^ lus z 30) * (-4658895280553007687)
def dw3 (z : Int64) : Int64 := (z ^^^ lus z 27) * (-7723592293110705685)
def dw4 (z : Int64) : Int64 := z ^^^ lus z 31
def dwD (s k : Int64) : UInt64 := Dv (l2dC (lus (dw4 (dw3 (dw2 (dw1 s k)))) 44)) 4674736413210574848
set_option maxHeartbeats 4000000 in
set_option maxRecDepth 100000 in
theorem k_X4_odds {l : Launch} {D : va_G} {cy ad : Nat → Nat} {I : Im} {G : Dm} {J : Jm} (hadI : adI ad) {N u : Nat} {a b pt : Int32} (hp : ¬ pt < 0 ∧ pt ≤ 1) (hN : N ≤ 12) (hu : u < 2 ^ 31) (hin : bShare a b 16 = true) : kM l yX4_odds (.code yX4_odds cX4_odds 14 (some .long)) (rmK 2 0 0 52) D cy ad [.ref (ad 0), .int (nI N), .int (nI u), .int a, .int b, .int pt] I G J (qL D cy ad (oddV N u a b pt) I G J) := by
  refine start_M hadI (by decide +kernel) (Nat.le_of_ble_eq_true rfl) ?_
  intro p e s m below meth cd am hx hb hr hlk hst ls hl
  have hl : lv_has ls 14 [(0, .ref (ad 0)), (1, .int (nI N)), (2, .int (nI u)), (3, .int a), (4, .int b), (5, .int pt)] := hl
  refine lv_iload hx hb dX4_odds_0 (lv_at hl 5 rfl) ?_
  refine lv_if_lt (tgt := 11) hx hb dX4_odds_2 (by decide) (fun c_2 => absurd c_2 hp.1) (fun c_2 => ?_)
  refine lv_iload hx hb dX4_odds_5 (lv_at hl 5 rfl) ?_
  refine lv_iconst (v := 1) hx hb dX4_odds_7 (by decide) ?_
  refine lv_icmp_le (tgt := 21) hx hb dX4_odds_8 (by decide) (fun c_8 => ?_) (fun c_8 => absurd hp.2 c_8)
  refine lv_iload_n hx hb dX4_odds_21 rfl (lv_at hl 1 rfl) ?_
  refine lv_if_lt (tgt := 50) hx hb dX4_odds_22 (by decide) (fun c_22 => absurd c_22 (nI_pos (by omega))) (fun c_22 => ?_)
  refine lv_iload_n hx hb dX4_odds_25 rfl (lv_at hl 1 rfl) ?_
  refine lv_bipush (v := 12) hx hb dX4_odds_26 (by decide) ?_
  refine lv_icmp_gt (tgt := 50) hx hb dX4_odds_28 (by decide) (fun c_28 => absurd c_28 (nI_nlt (a := 12) (by omega) (by omega))) (fun c_28 => ?_)
  refine lv_iload_n hx hb dX4_odds_31 rfl (lv_at hl 2 rfl) ?_
  refine lv_if_lt (tgt := 50) hx hb dX4_odds_32 (by decide) (fun c_32 => absurd c_32 (nI_pos (by omega))) (fun c_32 => ?_)
  refine lv_iload_n hx hb dX4_odds_35 rfl (lv_at hl 3 rfl) ?_
  refine lv_iload hx hb dX4_odds_36 (lv_at hl 4 rfl) ?_
  refine lv_bipush (v := 16) hx hb dX4_odds_38 (by decide) ?_
  refine c_i hst (r_S (As := [.int a, .int b, .int 16]) (rest := []) am hst hl (k_X4_isShare hadI) kRX4_122 smX4_isShare ⟨Nat.le_of_ble_eq_true rfl, Nat.le_of_ble_eq_true rfl⟩ rfl rfl (Nat.le_of_ble_eq_true rfl) dX4_odds_40 ⟨Nat.le_of_ble_eq_true rfl, Nat.le_of_ble_eq_true rfl⟩) (fun H locs hst => ?_)
  refine lv_if_eq (tgt := 50) hx hb dX4_odds_43 (by decide) (fun c_43 => absurd c_43 (zB_n0.mpr hin)) (fun c_43 => ?_)
  refine lv_iconst (v := 1) hx hb dX4_odds_46 (by decide) ?_
  refine lv_goto (tgt := 51) hx hb dX4_odds_47 (by decide) ?_
  refine c_v hst (r_S (As := [.int 1]) (rest := []) am hst hl (k_X4_need hadI (by decide)) kRX4_68 smX4_need ⟨Nat.le_of_ble_eq_true rfl, Nat.le_of_ble_eq_true rfl⟩ rfl rfl (Nat.le_of_ble_eq_true rfl) dX4_odds_51 ⟨Nat.le_of_ble_eq_true rfl, Nat.le_of_ble_eq_true rfl⟩) (fun H locs hst => ?_)
  refine lv_iload_n hx hb dX4_odds_54 rfl (lv_at hl 1 rfl) ?_
  refine lv_iload_n hx hb dX4_odds_55 rfl (lv_at hl 2 rfl) ?_
  refine lv_iload_n hx hb dX4_odds_56 rfl (lv_at hl 3 rfl) ?_
  refine lv_iload hx hb dX4_odds_57 (lv_at hl 4 rfl) ?_
  refine lv_iload_n hx hb dX4_odds_59 rfl (lv_at hl 3 rfl) ?_
  refine lv_isub hx hb dX4_odds_60 ?_
  refine c_l hst (r_S (As := [.int (nI N), .int (nI u), .int a, .int (b - a)]) (rest := []) am hst hl (k_X4_waysOfFew hadI (N := N) (u := u) (by omega) (by omega)) kRX4_137 smX4_waysOfFew ⟨Nat.le_of_ble_eq_true rfl, Nat.le_of_ble_eq_true rfl⟩ rfl rfl (Nat.le_of_ble_eq_true rfl) dX4_odds_61 ⟨Nat.le_of_ble_eq_true rfl, Nat.le_of_ble_eq_true rfl⟩) (fun H locs hst => ?_)
  refine lv_lstore (lv' := [(6, .long (wfS N (a).toInt64 (b - a).toInt64 (min N u + 1))), (0, .ref (ad 0)), (1, .int (nI N)), (2, .int (nI u)), (3, .int a), (4, .int b), (5, .int pt)]) hx hb dX4_odds_64 hl (by decide) rfl (fun ls hl => ?_)
  refine lv_iload hx hb dX4_odds_66 (lv_at hl 5 rfl) ?_
  refine lv_iload_n hx hb dX4_odds_68 rfl (lv_at hl 2 rfl) ?_
  refine c_l hst (r_S (As := [.int b, .int (nI N)]) (rest := []) am hst hl (k_X4_power hadI (N := N) (by omega)) kRX4_141 smX4_power ⟨Nat.le_of_ble_eq_true rfl, Nat.le_of_ble_eq_true rfl⟩ rfl rfl (Nat.le_of_ble_eq_true rfl) dX4_odds_69 ⟨Nat.le_of_ble_eq_true rfl, Nat.le_of_ble_eq_true rfl⟩) (fun H locs hst => ?_)
  refine lv_lstore (lv' := [(8, .long (powL (b).toInt64 N)), (6, .long (wfS N (a).toInt64 (b - a).toInt64 (min N u + 1))), (0, .ref (ad 0)), (1, .int (nI N)), (2, .int (nI u)), (3, .int a), (4, .int b), (5, .int pt)]) hx hb dX4_odds_72 hl (by decide) rfl (fun ls hl => ?_)
  refine lv_lload hx hb dX4_odds_74 (lv_at hl 0 rfl) ?_
  refine lv_lload hx hb dX4_odds_76 (lv_at hl 1 rfl) ?_
  refine c_l hst (r_S (As := [.long (powL (b).toInt64 N), .long (wfS N (a).toInt64 (b - a).toInt64 (min N u + 1))]) (rest := []) am hst hl (k_X4_commonDivisor hadI) kRX4_145 smX4_commonDivisor ⟨Nat.le_of_ble_eq_true rfl, Nat.le_of_ble_eq_true rfl⟩ rfl rfl (Nat.le_of_ble_eq_true rfl) dX4_odds_78 ⟨Nat.le_of_ble_eq_true rfl, Nat.le_of_ble_eq_true rfl⟩) (fun H locs hst => ?_)
  refine lv_lstore (lv' := [(10, .long (gE 1000 (powL (b).toInt64 N) (wfS N (a).toInt64 (b - a).toInt64 (min N u + 1)))), (8, .long (powL (b).toInt64 N)), (6, .long (wfS N (a).toInt64 (b - a).toInt64 (min N u + 1))), (0, .ref (ad 0)), (1, .int (nI N)), (2, .int (nI u)), (3, .int a), (4, .int b), (5, .int pt)]) hx hb dX4_odds_81 hl (by decide) rfl (fun ls hl => ?_)
  refine lv_iload hx hb dX4_odds_83 (lv_at hl 8 rfl) ?_
  refine lv_if_ne (tgt := 93) hx hb dX4_odds_85 (by decide) (fun c_85 => ?_) (fun c_85 => ?_)
  · skip
    refine lv_lload hx hb dX4_odds_93 (lv_at hl 1 rfl) ?_
    refine lv_lstore (lv' := [(12, .long (powL (b).toInt64 N)), (10, .long (gE 1000 (powL (b).toInt64 N) (wfS N (a).toInt64 (b - a).toInt64 (min N u + 1)))), (8, .long (powL (b).toInt64 N)), (6, .long (wfS N (a).toInt64 (b - a).toInt64 (min N u + 1))), (0, .ref (ad 0)), (1, .int (nI N)), (2, .int (nI u)), (3, .int a), (4, .int b), (5, .int pt)]) hx hb dX4_odds_95 hl (by decide) rfl (fun ls hl => ?_)
    refine lv_lload hx hb dX4_odds_97 (lv_at hl 1 rfl) ?_
    refine lv_lconst (v := 1) hx hb dX4_odds_99 (by decide) ?_
    refine W.lcmp hx hb dX4_odds_100 ?_
    refine lv_if_le (tgt := 112) hx hb dX4_odds_101 (by decide) (fun c_101 => ?_) (fun c_101 => ?_)
    · skip
      refine lv_lload hx hb dX4_odds_112 (lv_at hl 0 rfl) ?_
      exact e_l hx hb hr hlk hst (by unfold oddV oddF oddA; rw [if_pos c_101, if_neg c_85]) dX4_odds_114
    · skip
      refine lv_lload hx hb dX4_odds_104 (lv_at hl 0 rfl) ?_
      refine lv_lload hx hb dX4_odds_106 (lv_at hl 1 rfl) ?_
      refine lv_ldiv hx hb dX4_odds_108 (fun h => c_101 (by rw [h]; decide)) ?_
      refine lv_goto (tgt := 114) hx hb dX4_odds_109 (by decide) ?_
      exact e_l hx hb hr hlk hst (by unfold oddV oddF oddA; rw [if_neg c_101, if_neg c_85]) dX4_odds_114
  · skip
    refine lv_lload hx hb dX4_odds_88 (lv_at hl 2 rfl) ?_
    refine lv_goto (tgt := 95) hx hb dX4_odds_90 (by decide) ?_
    refine lv_lstore (lv' := [(12, .long (wfS N (a).toInt64 (b - a).toInt64 (min N u + 1))), (10, .long (gE 1000 (powL (b).toInt64 N) (wfS N (a).toInt64 (b - a).toInt64 (min N u + 1)))), (8, .long (powL (b).toInt64 N)), (6, .long (wfS N (a).toInt64 (b - a).toInt64 (min N u + 1))), (0, .ref (ad 0)), (1, .int (nI N)), (2, .int (nI u)), (3, .int a), (4, .int b), (5, .int pt)]) hx hb dX4_odds_95 hl (by decide) rfl (fun ls hl => ?_)
    refine lv_lload hx hb dX4_odds_97 (lv_at hl 1 rfl) ?_
    refine lv_lconst (v := 1) hx hb dX4_odds_99 (by decide) ?_
    refine W.lcmp hx hb dX4_odds_100 ?_
    refine lv_if_le (tgt := 112) hx hb dX4_odds_101 (by decide) (fun c_101 => ?_) (fun c_101 => ?_)
    · skip
      refine lv_lload hx hb dX4_odds_112 (lv_at hl 0 rfl) ?_
      exact e_l hx hb hr hlk hst (by unfold oddV oddF oddA; rw [if_pos c_101, if_pos c_85]) dX4_odds_114
    · skip
      refine lv_lload hx hb dX4_odds_104 (lv_at hl 0 rfl) ?_
      refine lv_lload hx hb dX4_odds_106 (lv_at hl 1 rfl) ?_
      refine lv_ldiv hx hb dX4_odds_108 (fun h => c_101 (by rw [h]; decide)) ?_
      refine lv_goto (tgt := 114) hx hb dX4_odds_109 (by decide) ?_
      exact e_l hx hb hr hlk hst (by unfold oddV oddF oddA; rw [if_neg c_101, if_pos c_85]) dX4_odds_114

set_option maxHeartbeats 4000000 in
set_option maxRecDepth 100000 in
theorem x1_X4_odds {l : Launch} {D : va_G} {cy ad : Nat → Nat} {I : Im} {G : Dm} {J : Jm} (hadI : adI ad) (hno : l.stackTraces = false) {v u a b pt : Int32} (hp : pt < 0 ∨ ¬ pt ≤ 1) : kX l yX4_odds (.code yX4_odds cX4_odds 14 (some .long)) (rmK 7 1 6 110) D cy ad [.ref (ad 0), .int v, .int u, .int a, .int b, .int pt] I G J xIOOBE := by
  refine start_X hadI (by decide +kernel) (Nat.le_of_ble_eq_true rfl) ?_
  intro p e s m below meth cd am hx hb hout hlk hst ls hl
  have hl : lv_has ls 14 [(0, .ref (ad 0)), (1, .int v), (2, .int u), (3, .int a), (4, .int b), (5, .int pt)] := hl
  refine lv_iload hx hb dX4_odds_0 (lv_at hl 5 rfl) ?_
  refine lv_if_lt (tgt := 11) hx hb dX4_odds_2 (by decide) (fun c_2 => ?_) (fun c_2 => ?_)
  · skip
    exact x_throw (text := "no such part") hno am hst hout hlk hl tx_IOOBE tg_IOOBE rfl (by decide) dX4_odds_11 dX4_odds_14 dX4_odds_15 dX4_odds_17 dX4_odds_20 (Nat.le_of_ble_eq_true rfl) (Nat.le_of_ble_eq_true rfl) (Nat.le_of_ble_eq_true rfl) (Nat.le_of_ble_eq_true rfl) (Nat.le_of_ble_eq_true rfl) (Nat.le_of_ble_eq_true rfl)
  · skip
    refine lv_iload hx hb dX4_odds_5 (lv_at hl 5 rfl) ?_
    refine lv_iconst (v := 1) hx hb dX4_odds_7 (by decide) ?_
    refine lv_icmp_le (tgt := 21) hx hb dX4_odds_8 (by decide) (fun c_8 => absurd c_8 (hp.resolve_left c_2)) (fun c_8 => ?_)
    exact x_throw (text := "no such part") hno am hst hout hlk hl tx_IOOBE tg_IOOBE rfl (by decide) dX4_odds_11 dX4_odds_14 dX4_odds_15 dX4_odds_17 dX4_odds_20 (Nat.le_of_ble_eq_true rfl) (Nat.le_of_ble_eq_true rfl) (Nat.le_of_ble_eq_true rfl) (Nat.le_of_ble_eq_true rfl) (Nat.le_of_ble_eq_true rfl) (Nat.le_of_ble_eq_true rfl)

set_option maxHeartbeats 4000000 in
set_option maxRecDepth 100000 in
theorem x2_X4_odds {l : Launch} {D : va_G} {cy ad : Nat → Nat} {I : Im} {G : Dm} {J : Jm} (hadI : adI ad) (hno : l.stackTraces = false) {v u a b pt : Int32} (hp : ¬ pt < 0 ∧ pt ≤ 1) (hv : v < 0 ∨ 12 < v ∨ u < 0 ∨ bShare a b 16 = false) : kX l yX4_odds (.code yX4_odds cX4_odds 14 (some .long)) (rmK 7 1 6 110) D cy ad [.ref (ad 0), .int v, .int u, .int a, .int b, .int pt] I G J xIAE := by
  refine start_X hadI (by decide +kernel) (Nat.le_of_ble_eq_true rfl) ?_
  intro p e s m below meth cd am hx hb hout hlk hst ls hl
  have hl : lv_has ls 14 [(0, .ref (ad 0)), (1, .int v), (2, .int u), (3, .int a), (4, .int b), (5, .int pt)] := hl
  refine lv_iload hx hb dX4_odds_0 (lv_at hl 5 rfl) ?_
  refine lv_if_lt (tgt := 11) hx hb dX4_odds_2 (by decide) (fun c_2 => absurd c_2 hp.1) (fun c_2 => ?_)
  refine lv_iload hx hb dX4_odds_5 (lv_at hl 5 rfl) ?_
  refine lv_iconst (v := 1) hx hb dX4_odds_7 (by decide) ?_
  refine lv_icmp_le (tgt := 21) hx hb dX4_odds_8 (by decide) (fun c_8 => ?_) (fun c_8 => absurd hp.2 c_8)
  refine lv_iload_n hx hb dX4_odds_21 rfl (lv_at hl 1 rfl) ?_
  refine lv_if_lt (tgt := 50) hx hb dX4_odds_22 (by decide) (fun c_22 => ?_) (fun c_22 => ?_)
  · skip
    refine lv_iconst (v := 0) hx hb dX4_odds_50 (by decide) ?_
    exact x_call hst hout hlk (Nat.le_of_ble_eq_true rfl) (Nat.le_of_ble_eq_true rfl) (r_SX (As := [.int 0]) (rest := []) am hst hl (x_X4_need hadI hno (rfl)) kRX4_68 smX4_need ⟨rfl, rfl⟩ ⟨Nat.le_of_ble_eq_true rfl, Nat.le_of_ble_eq_true rfl⟩ rfl rfl (Nat.le_of_ble_eq_true rfl) dX4_odds_51 ⟨Nat.le_of_ble_eq_true rfl, Nat.le_of_ble_eq_true rfl⟩)
  · skip
    refine lv_iload_n hx hb dX4_odds_25 rfl (lv_at hl 1 rfl) ?_
    refine lv_bipush (v := 12) hx hb dX4_odds_26 (by decide) ?_
    refine lv_icmp_gt (tgt := 50) hx hb dX4_odds_28 (by decide) (fun c_28 => ?_) (fun c_28 => ?_)
    · skip
      refine lv_iconst (v := 0) hx hb dX4_odds_50 (by decide) ?_
      exact x_call hst hout hlk (Nat.le_of_ble_eq_true rfl) (Nat.le_of_ble_eq_true rfl) (r_SX (As := [.int 0]) (rest := []) am hst hl (x_X4_need hadI hno (rfl)) kRX4_68 smX4_need ⟨rfl, rfl⟩ ⟨Nat.le_of_ble_eq_true rfl, Nat.le_of_ble_eq_true rfl⟩ rfl rfl (Nat.le_of_ble_eq_true rfl) dX4_odds_51 ⟨Nat.le_of_ble_eq_true rfl, Nat.le_of_ble_eq_true rfl⟩)
    · skip
      refine lv_iload_n hx hb dX4_odds_31 rfl (lv_at hl 2 rfl) ?_
      refine lv_if_lt (tgt := 50) hx hb dX4_odds_32 (by decide) (fun c_32 => ?_) (fun c_32 => ?_)
      · skip
        refine lv_iconst (v := 0) hx hb dX4_odds_50 (by decide) ?_
        exact x_call hst hout hlk (Nat.le_of_ble_eq_true rfl) (Nat.le_of_ble_eq_true rfl) (r_SX (As := [.int 0]) (rest := []) am hst hl (x_X4_need hadI hno (rfl)) kRX4_68 smX4_need ⟨rfl, rfl⟩ ⟨Nat.le_of_ble_eq_true rfl, Nat.le_of_ble_eq_true rfl⟩ rfl rfl (Nat.le_of_ble_eq_true rfl) dX4_odds_51 ⟨Nat.le_of_ble_eq_true rfl, Nat.le_of_ble_eq_true rfl⟩)
      · skip
        refine lv_iload_n hx hb dX4_odds_35 rfl (lv_at hl 3 rfl) ?_
        refine lv_iload hx hb dX4_odds_36 (lv_at hl 4 rfl) ?_
        refine lv_bipush (v := 16) hx hb dX4_odds_38 (by decide) ?_
        refine c_i hst (r_S (As := [.int a, .int b, .int 16]) (rest := []) am hst hl (k_X4_isShare hadI) kRX4_122 smX4_isShare ⟨Nat.le_of_ble_eq_true rfl, Nat.le_of_ble_eq_true rfl⟩ rfl rfl (Nat.le_of_ble_eq_true rfl) dX4_odds_40 ⟨Nat.le_of_ble_eq_true rfl, Nat.le_of_ble_eq_true rfl⟩) (fun H locs hst => ?_)
        refine lv_if_eq (tgt := 50) hx hb dX4_odds_43 (by decide) (fun c_43 => ?_) (fun c_43 => absurd (zB_0.mpr (((hv.resolve_left c_22).resolve_left c_28).resolve_left c_32)) c_43)
        refine lv_iconst (v := 0) hx hb dX4_odds_50 (by decide) ?_
        exact x_call hst hout hlk (Nat.le_of_ble_eq_true rfl) (Nat.le_of_ble_eq_true rfl) (r_SX (As := [.int 0]) (rest := []) am hst hl (x_X4_need hadI hno (rfl)) kRX4_68 smX4_need ⟨rfl, rfl⟩ ⟨Nat.le_of_ble_eq_true rfl, Nat.le_of_ble_eq_true rfl⟩ rfl rfl (Nat.le_of_ble_eq_true rfl) dX4_odds_51 ⟨Nat.le_of_ble_eq_true rfl, Nat.le_of_ble_eq_true rfl⟩)

set_option maxHeartbeats 4000000 in
set_option maxRecDepth 100000 in
theorem k_X4_chart {l : Launch} {D : va_G} {cy ad : Nat → Nat} {I : Im} {G : Dm} {J : Jm} (hadI : adI ad) {a b : Int32} (hv : ¬ a < 1 ∧ ¬ 20 < a ∧ ¬ b < 0 ∧ ¬ a < b) : kM l yX4_chart (.code yX4_chart cX4_chart 3 none) (rmK 1 0 0 22) D cy ad [.ref (ad 0), .int a, .int b] I G J (qV D cy ad (u2 (u2 (u2 (u2 I 49 0 a) 49 1 b) 49 2 0) 49 3 0) G J) := by
  refine start_M hadI (by decide +kernel) (Nat.le_of_ble_eq_true rfl) ?_
  intro p e s m below meth cd am hx hb hr hlk hst ls hl
  have hl : lv_has ls 3 [(0, .ref (ad 0)), (1, .int a), (2, .int b)] := hl
  refine lv_iload_n hx hb dX4_chart_0 rfl (lv_at hl 1 rfl) ?_
  refine lv_iconst (v := 1) hx hb dX4_chart_1 (by decide) ?_
  refine lv_icmp_lt (tgt := 24) hx hb dX4_chart_2 (by decide) (fun c_2 => absurd c_2 hv.1) (fun c_2 => ?_)
  refine lv_iload_n hx hb dX4_chart_5 rfl (lv_at hl 1 rfl) ?_
  refine lv_bipush (v := 20) hx hb dX4_chart_6 (by decide) ?_
  refine lv_icmp_gt (tgt := 24) hx hb dX4_chart_8 (by decide) (fun c_8 => absurd c_8 hv.2.1) (fun c_8 => ?_)
  refine lv_iload_n hx hb dX4_chart_11 rfl (lv_at hl 2 rfl) ?_
  refine lv_if_lt (tgt := 24) hx hb dX4_chart_12 (by decide) (fun c_12 => absurd c_12 hv.2.2.1) (fun c_12 => ?_)
  refine lv_iload_n hx hb dX4_chart_15 rfl (lv_at hl 2 rfl) ?_
  refine lv_iload_n hx hb dX4_chart_16 rfl (lv_at hl 1 rfl) ?_
  refine lv_icmp_gt (tgt := 24) hx hb dX4_chart_17 (by decide) (fun c_17 => absurd c_17 hv.2.2.2) (fun c_17 => ?_)
  refine lv_iconst (v := 1) hx hb dX4_chart_20 (by decide) ?_
  refine lv_goto (tgt := 25) hx hb dX4_chart_21 (by decide) ?_
  refine c_v hst (r_S (As := [.int 1]) (rest := []) am hst hl (k_X4_need hadI (by decide)) kRX4_68 smX4_need ⟨Nat.le_of_ble_eq_true rfl, Nat.le_of_ble_eq_true rfl⟩ rfl rfl (Nat.le_of_ble_eq_true rfl) dX4_chart_25 ⟨Nat.le_of_ble_eq_true rfl, Nat.le_of_ble_eq_true rfl⟩) (fun H locs hst => ?_)
  refine lv_aload_n hx hb dX4_chart_28 rfl (lv_at hl 0 rfl) ?_
  refine w_getR am hst (k := 6) (b := ad 49) (by decide) (fun _ _ _ => cE_S) rfl inT4 (by decide) (fun _ _ _ => rfl) fRX4_39 dX4_chart_29 ?_
  refine lv_iload_n hx hb dX4_chart_32 rfl (lv_at hl 1 rfl) ?_
  refine lv_iload_n hx hb dX4_chart_33 rfl (lv_at hl 2 rfl) ?_
  refine c_v hst (r_N (As := [.int a, .int b]) (rest := []) am hst hl (k_X1_begin hadI) kRX4_149 imX1_begin slX1_begin ⟨Nat.le_of_ble_eq_true rfl, Nat.le_of_ble_eq_true rfl⟩ (by decide) (fun _ _ _ => cE_49) rfl rfl rfl (Nat.le_of_ble_eq_true rfl) dX4_chart_34 ⟨Nat.le_of_ble_eq_true rfl, Nat.le_of_ble_eq_true rfl⟩) (fun H locs hst => ?_)
  exact e_v hx hb hr hlk hst dX4_chart_37

set_option maxHeartbeats 4000000 in
set_option maxRecDepth 100000 in
theorem x_X4_chart {l : Launch} {D : va_G} {cy ad : Nat → Nat} {I : Im} {G : Dm} {J : Jm} (hadI : adI ad) (hno : l.stackTraces = false) {a b : Int32} (hv : a < 1 ∨ 20 < a ∨ b < 0 ∨ a < b) : kX l yX4_chart (.code yX4_chart cX4_chart 3 none) (rmK 7 1 6 110) D cy ad [.ref (ad 0), .int a, .int b] I G J xIAE := by
  refine start_X hadI (by decide +kernel) (Nat.le_of_ble_eq_true rfl) ?_
  intro p e s m below meth cd am hx hb hout hlk hst ls hl
  have hl : lv_has ls 3 [(0, .ref (ad 0)), (1, .int a), (2, .int b)] := hl
  refine lv_iload_n hx hb dX4_chart_0 rfl (lv_at hl 1 rfl) ?_
  refine lv_iconst (v := 1) hx hb dX4_chart_1 (by decide) ?_
  refine lv_icmp_lt (tgt := 24) hx hb dX4_chart_2 (by decide) (fun c_2 => ?_) (fun c_2 => ?_)
  · skip
    refine lv_iconst (v := 0) hx hb dX4_chart_24 (by decide) ?_
    exact x_call hst hout hlk (Nat.le_of_ble_eq_true rfl) (Nat.le_of_ble_eq_true rfl) (r_SX (As := [.int 0]) (rest := []) am hst hl (x_X4_need hadI hno (rfl)) kRX4_68 smX4_need ⟨rfl, rfl⟩ ⟨Nat.le_of_ble_eq_true rfl, Nat.le_of_ble_eq_true rfl⟩ rfl rfl (Nat.le_of_ble_eq_true rfl) dX4_chart_25 ⟨Nat.le_of_ble_eq_true rfl, Nat.le_of_ble_eq_true rfl⟩)
  · skip
    refine lv_iload_n hx hb dX4_chart_5 rfl (lv_at hl 1 rfl) ?_
    refine lv_bipush (v := 20) hx hb dX4_chart_6 (by decide) ?_
    refine lv_icmp_gt (tgt := 24) hx hb dX4_chart_8 (by decide) (fun c_8 => ?_) (fun c_8 => ?_)
    · skip
      refine lv_iconst (v := 0) hx hb dX4_chart_24 (by decide) ?_
      exact x_call hst hout hlk (Nat.le_of_ble_eq_true rfl) (Nat.le_of_ble_eq_true rfl) (r_SX (As := [.int 0]) (rest := []) am hst hl (x_X4_need hadI hno (rfl)) kRX4_68 smX4_need ⟨rfl, rfl⟩ ⟨Nat.le_of_ble_eq_true rfl, Nat.le_of_ble_eq_true rfl⟩ rfl rfl (Nat.le_of_ble_eq_true rfl) dX4_chart_25 ⟨Nat.le_of_ble_eq_true rfl, Nat.le_of_ble_eq_true rfl⟩)
    · skip
      refine lv_iload_n hx hb dX4_chart_11 rfl (lv_at hl 2 rfl) ?_
      refine lv_if_lt (tgt := 24) hx hb dX4_chart_12 (by decide) (fun c_12 => ?_) (fun c_12 => ?_)
      · skip
        refine lv_iconst (v := 0) hx hb dX4_chart_24 (by decide) ?_
        exact x_call hst hout hlk (Nat.le_of_ble_eq_true rfl) (Nat.le_of_ble_eq_true rfl) (r_SX (As := [.int 0]) (rest := []) am hst hl (x_X4_need hadI hno (rfl)) kRX4_68 smX4_need ⟨rfl, rfl⟩ ⟨Nat.le_of_ble_eq_true rfl, Nat.le_of_ble_eq_true rfl⟩ rfl rfl (Nat.le_of_ble_eq_true rfl) dX4_chart_25 ⟨Nat.le_of_ble_eq_true rfl, Nat.le_of_ble_eq_true rfl⟩)
      · skip
        refine lv_iload_n hx hb dX4_chart_15 rfl (lv_at hl 2 rfl) ?_
        refine lv_iload_n hx hb dX4_chart_16 rfl (lv_at hl 1 rfl) ?_
        refine lv_icmp_gt (tgt := 24) hx hb dX4_chart_17 (by decide) (fun c_17 => ?_) (fun c_17 => absurd (((hv.resolve_left c_2).resolve_left c_8).resolve_left c_12) c_17)
        refine lv_iconst (v := 0) hx hb dX4_chart_24 (by decide) ?_
        exact x_call hst hout hlk (Nat.le_of_ble_eq_true rfl) (Nat.le_of_ble_eq_true rfl) (r_SX (As := [.int 0]) (rest := []) am hst hl (x_X4_need hadI hno (rfl)) kRX4_68 smX4_need ⟨rfl, rfl⟩ ⟨Nat.le_of_ble_eq_true rfl, Nat.le_of_ble_eq_true rfl⟩ rfl rfl (Nat.le_of_ble_eq_true rfl) dX4_chart_25 ⟨Nat.le_of_ble_eq_true rfl, Nat.le_of_ble_eq_true rfl⟩)

set_option maxHeartbeats 4000000 in
set_option maxRecDepth 100000 in
theorem k_X4_test {l : Launch} {D : va_G} {cy ad : Nat → Nat} {I : Im} {G : Dm} {J : Jm} (hadI : adI ad) {b : Bool} : kM l yX4_test (.code yX4_test cX4_test 2 (some .boolean)) (rmK 2 0 0 41) D cy ad [.ref (ad 0), .int (zB b)] I G J (qI D cy ad (zB (chR I b)) (chI I b) G J) := by
  refine start_M hadI (by decide +kernel) (Nat.le_of_ble_eq_true rfl) ?_
  intro p e s m below meth cd am hx hb hr hlk hst ls hl
  have hl : lv_has ls 2 [(0, .ref (ad 0)), (1, .int (zB b))] := hl
  refine lv_aload_n hx hb dX4_test_0 rfl (lv_at hl 0 rfl) ?_
  refine w_getR am hst (k := 6) (b := ad 49) (by decide) (fun _ _ _ => cE_S) rfl inT4 (by decide) (fun _ _ _ => rfl) fRX4_39 dX4_test_1 ?_
  refine lv_iload_n hx hb dX4_test_4 rfl (lv_at hl 1 rfl) ?_
  refine c_i hst (r_N (As := [.int (zB b)]) (rest := []) am hst hl (k_X1_actsAt hadI (b := b)) kRX4_153 imX1_actsAt slX1_actsAt ⟨Nat.le_of_ble_eq_true rfl, Nat.le_of_ble_eq_true rfl⟩ (by decide) (fun _ _ _ => cE_49) rfl rfl rfl (Nat.le_of_ble_eq_true rfl) dX4_test_5 ⟨Nat.le_of_ble_eq_true rfl, Nat.le_of_ble_eq_true rfl⟩) (fun H locs hst => ?_)
  exact e_i hx hb hr hlk hst (zB_nar _) rfl dX4_test_8

set_option maxHeartbeats 4000000 in
set_option maxRecDepth 100000 in
theorem k_X4_proof {l : Launch} {D : va_G} {cy ad : Nat → Nat} {I : Im} {G : Dm} {J : Jm} (hadI : adI ad) {x X : UInt64} (hxX : cn x = X) (hin : bIn X 0 1000 = true) : kM l yX4_proof (.code yX4_proof cX4_proof 8 (some .int)) (rmK 1 0 0 23) D cy ad [.ref (ad 0), .double x] I G J (qI D cy ad (nI (prN I G X 32)) (prI I G X 32) G J) := by
  refine start_M hadI (by decide +kernel) (Nat.le_of_ble_eq_true rfl) ?_
  intro p e s m below meth cd am hx hb hr hlk hst ls hl
  have hl : lv_has ls 8 [(0, .ref (ad 0)), (1, .double x)] := hl
  refine lv_dload_n hx hb dX4_proof_0 rfl (lv_at hl 1 rfl) ?_
  refine lv_iconst (v := 0) hx hb dX4_proof_1 (by decide) ?_
  refine lv_sipush (v := 1000) hx hb dX4_proof_2 (by decide) ?_
  refine c_i hst (r_S (As := [.double x, .int 0, .int 1000]) (rest := []) am hst hl (k_X4_isWithin hadI hxX) kRX4_64 smX4_isWithin ⟨Nat.le_of_ble_eq_true rfl, Nat.le_of_ble_eq_true rfl⟩ rfl rfl (Nat.le_of_ble_eq_true rfl) dX4_proof_5 ⟨Nat.le_of_ble_eq_true rfl, Nat.le_of_ble_eq_true rfl⟩) (fun H locs hst => ?_)
  refine c_v hst (r_S (As := [.int (zB (bIn X 0 1000))]) (rest := []) am hst hl (k_X4_need hadI (zB_n0.mpr hin)) kRX4_68 smX4_need ⟨Nat.le_of_ble_eq_true rfl, Nat.le_of_ble_eq_true rfl⟩ rfl rfl (Nat.le_of_ble_eq_true rfl) dX4_proof_8 ⟨Nat.le_of_ble_eq_true rfl, Nat.le_of_ble_eq_true rfl⟩) (fun H locs hst => ?_)
  refine lv_iconst (v := 0) hx hb dX4_proof_11 (by decide) ?_
  refine lv_istore_n (lv' := [(3, .int 0), (0, .ref (ad 0)), (1, .double x)]) hx hb dX4_proof_12 rfl hl (by decide) rfl (fun ls hl => ?_)
  refine lv_aload_n hx hb dX4_proof_13 rfl (lv_at hl 1 rfl) ?_
  refine w_getR am hst (k := 1) (b := ad 1) (by decide) (fun _ _ _ => cE_S) rfl inT4 (by decide) (fun _ _ _ => rfl) fRX4_15 dX4_proof_14 ?_
  refine lv_astore (lv' := [(4, .ref (ad 1)), (3, .int 0), (0, .ref (ad 0)), (1, .double x)]) hx hb dX4_proof_17 hl (by decide) rfl (fun ls hl => ?_)
  refine lv_aload hx hb dX4_proof_19 (lv_at hl 0 rfl) ?_
  refine w_alen am hst (t0 := 3) (v := 32) (by decide) _ (fun _ => cE_1) rfl rfl dX4_proof_21 ?_
  refine lv_istore (lv' := [(5, .int 32), (4, .ref (ad 1)), (3, .int 0), (0, .ref (ad 0)), (1, .double x)]) hx hb dX4_proof_22 hl (by decide) rfl (fun ls hl => ?_)
  refine lv_iconst (v := 0) hx hb dX4_proof_24 (by decide) ?_
  refine lv_istore (lv' := [(6, .int 0), (5, .int 32), (4, .ref (ad 1)), (3, .int 0), (0, .ref (ad 0)), (1, .double x)]) hx hb dX4_proof_25 hl (by decide) rfl (fun ls hl => ?_)
  have lp0 : ∀ (n i : Nat), n + i = 32 → ∀ (H : Heap) (locs : List Loc), St D cy ad s.heap (prI I G X i) G J H locs → ∀ ls, lv_has ls 8 [(0, .ref (ad 0)), (1, .double x), (3, .int (nI (prN I G X i))), (4, .ref (ad 1)), (5, .int 32), (6, .int (nI i))] → W p l e (rmK 1 0 0 23) (s.setDrawn s.drawn) m [.ref (ad 0), .double x].toArray below meth cd H locs 0 0 (MQ below (qI D cy ad (nI (prN I G X 32)) (prI I G X 32) G J s.heap.size) [.ref (ad 0), .double x].toArray s ((rmK 1 0 0 23)).cells ((rmK 1 0 0 23)).slots (aA ad s.heap.size)) (F0 m 27 ls []) := by
    intro n
    induction n with
    | zero =>
      intro i hi H locs hst ls hl
      obtain rfl : 32 = i := by omega
      refine lv_iload hx hb dX4_proof_27 (lv_at hl 5 rfl) ?_
      refine lv_iload hx hb dX4_proof_29 (lv_at hl 4 rfl) ?_
      refine lv_icmp_ge (tgt := 82) hx hb dX4_proof_31 (by decide) (fun c_31 => ?_) (fun c_31 => absurd ((show (32 : Int32) ≤ nI 32 by decide)) c_31)
      refine lv_iload_n hx hb dX4_proof_82 rfl (lv_at hl 2 rfl) ?_
      exact e_i hx hb hr hlk hst rfl rfl dX4_proof_83
    | succ n ih_lp0 =>
      intro i hi H locs hst ls hl
      refine lv_iload hx hb dX4_proof_27 (lv_at hl 5 rfl) ?_
      refine lv_iload hx hb dX4_proof_29 (lv_at hl 4 rfl) ?_
      refine lv_icmp_ge (tgt := 82) hx hb dX4_proof_31 (by decide) (fun c_31 => absurd c_31 ((nI_ge (b := 32) (by omega) (by decide)))) (fun c_31 => ?_)
      refine lv_aload hx hb dX4_proof_34 (lv_at hl 3 rfl) ?_
      refine lv_iload hx hb dX4_proof_36 (lv_at hl 5 rfl) ?_
      refine w_aldR am hst (n := i) (nI_clamp (by omega)) (vp_in_nI (by omega) (by decide)) dX4_proof_38 ?_
      refine lv_astore (lv' := [(7, .ref (ad (2 + i))), (0, .ref (ad 0)), (1, .double x), (3, .int (nI (prN I G X i))), (4, .ref (ad 1)), (5, .int 32), (6, .int (nI i))]) hx hb dX4_proof_39 hl (by decide) rfl (fun ls hl => ?_)
      refine lv_aload hx hb dX4_proof_41 (lv_at hl 0 rfl) ?_
      refine w_getIN am hst (k := 5) (by omega) (fun _ _ _ => cE_B (by omega)) rfl inT0 (by decide) (fun _ _ _ => rfl) fRX4_87 dX4_proof_43 ?_
      refine lv_if_eq (tgt := 76) hx hb dX4_proof_46 (by decide) (fun c_46 => ?_) (fun c_46 => ?_)
      · skip
        refine lv_iinc (v := nI (i + 1)) (lv' := [(6, .int (nI (i + 1))), (7, .ref (ad (2 + i))), (0, .ref (ad 0)), (1, .double x), (3, .int (nI (prN I G X i))), (4, .ref (ad 1)), (5, .int 32)]) hx hb dX4_proof_76 hl (k := 6) rfl (nI_1 i) (by decide) rfl (fun ls hl => ?_)
        refine lv_goto (tgt := 27) hx hb dX4_proof_79 (by decide) ?_
        have ih2 := ih_lp0 (i + 1) (by omega) 
        rw [show prI I G X (i + 1) = prI I G X i from if_neg (by rw [show prC (prI I G X i) G X i = false from by simp only [prC, c_46, not_true_eq_false, not_false_eq_true, decide_true, decide_false, Bool.true_and, Bool.false_and, Bool.and_true, Bool.and_false, Bool.and_self, if_true, if_false, ite_true, ite_false, reduceIte, Bool.false_eq_true]]; exact Bool.false_ne_true), show prN I G X (i + 1) = prN I G X i from if_neg (by rw [show prC (prI I G X i) G X i = false from by simp only [prC, c_46, not_true_eq_false, not_false_eq_true, decide_true, decide_false, Bool.true_and, Bool.false_and, Bool.and_true, Bool.and_false, Bool.and_self, if_true, if_false, ite_true, ite_false, reduceIte, Bool.false_eq_true]]; exact Bool.false_ne_true)] at ih2
        exact ih2 _ _ hst ls (lv_sub hl [2, 3, 4, 5, 6, 0] rfl)
      · skip
        refine lv_aload hx hb dX4_proof_49 (lv_at hl 0 rfl) ?_
        refine w_getIN am hst (k := 6) (by omega) (fun _ _ _ => cE_B (by omega)) rfl inT0 (by decide) (fun _ _ _ => rfl) fRX4_91 dX4_proof_51 ?_
        refine lv_if_ne (tgt := 76) hx hb dX4_proof_54 (by decide) (fun c_54 => ?_) (fun c_54 => ?_)
        · skip
          refine lv_iinc (v := nI (i + 1)) (lv' := [(6, .int (nI (i + 1))), (7, .ref (ad (2 + i))), (0, .ref (ad 0)), (1, .double x), (3, .int (nI (prN I G X i))), (4, .ref (ad 1)), (5, .int 32)]) hx hb dX4_proof_76 hl (k := 6) rfl (nI_1 i) (by decide) rfl (fun ls hl => ?_)
          refine lv_goto (tgt := 27) hx hb dX4_proof_79 (by decide) ?_
          have ih2 := ih_lp0 (i + 1) (by omega) 
          rw [show prI I G X (i + 1) = prI I G X i from if_neg (by rw [show prC (prI I G X i) G X i = false from by simp only [prC, c_46, c_54, not_true_eq_false, not_false_eq_true, decide_true, decide_false, Bool.true_and, Bool.false_and, Bool.and_true, Bool.and_false, Bool.and_self, if_true, if_false, ite_true, ite_false, reduceIte, Bool.false_eq_true]]; exact Bool.false_ne_true), show prN I G X (i + 1) = prN I G X i from if_neg (by rw [show prC (prI I G X i) G X i = false from by simp only [prC, c_46, c_54, not_true_eq_false, not_false_eq_true, decide_true, decide_false, Bool.true_and, Bool.false_and, Bool.and_true, Bool.and_false, Bool.and_self, if_true, if_false, ite_true, ite_false, reduceIte, Bool.false_eq_true]]; exact Bool.false_ne_true)] at ih2
          exact ih2 _ _ hst ls (lv_sub hl [2, 3, 4, 5, 6, 0] rfl)
        · skip
          refine lv_aload hx hb dX4_proof_57 (lv_at hl 0 rfl) ?_
          refine w_getDN am hst (k := 4) (by omega) (fun _ _ _ => cE_B (by omega)) rfl inT0 (by decide) (fun _ _ _ => rfl) fRX4_96 dX4_proof_59 (fun x1 hx1 => ?_)
          refine lv_dload_n hx hb dX4_proof_62 rfl (lv_at hl 2 rfl) ?_
          refine w_dcmp hx hb hx1 hxX dX4_proof_63 ?_
          refine lv_if_ge (tgt := 76) hx hb dX4_proof_64 (by decide) (fun c_64 => ?_) (fun c_64 => ?_)
          · skip
            refine lv_iinc (v := nI (i + 1)) (lv' := [(6, .int (nI (i + 1))), (7, .ref (ad (2 + i))), (0, .ref (ad 0)), (1, .double x), (3, .int (nI (prN I G X i))), (4, .ref (ad 1)), (5, .int 32)]) hx hb dX4_proof_76 hl (k := 6) rfl (nI_1 i) (by decide) rfl (fun ls hl => ?_)
            refine lv_goto (tgt := 27) hx hb dX4_proof_79 (by decide) ?_
            have ih2 := ih_lp0 (i + 1) (by omega) 
            rw [show prI I G X (i + 1) = prI I G X i from if_neg (by rw [show prC (prI I G X i) G X i = false from by simp only [prC, c_46, c_54, c_64, not_true_eq_false, not_false_eq_true, decide_true, decide_false, Bool.true_and, Bool.false_and, Bool.and_true, Bool.and_false, Bool.and_self, if_true, if_false, ite_true, ite_false, reduceIte, Bool.false_eq_true]]; exact Bool.false_ne_true), show prN I G X (i + 1) = prN I G X i from if_neg (by rw [show prC (prI I G X i) G X i = false from by simp only [prC, c_46, c_54, c_64, not_true_eq_false, not_false_eq_true, decide_true, decide_false, Bool.true_and, Bool.false_and, Bool.and_true, Bool.and_false, Bool.and_self, if_true, if_false, ite_true, ite_false, reduceIte, Bool.false_eq_true]]; exact Bool.false_ne_true)] at ih2
            exact ih2 _ _ hst ls (lv_sub hl [2, 3, 4, 5, 6, 0] rfl)
          · skip
            refine lv_aload hx hb dX4_proof_67 (lv_at hl 0 rfl) ?_
            refine lv_iconst (v := 1) hx hb dX4_proof_69 (by decide) ?_
            refine w_putIN am hst (k := 6) (by omega) (fun _ _ _ => cE_B (by omega)) rfl inT0 tyX0 tyX0_ok nmX0 (by decide) fRX4_91 (fun _ _ _ => rfl) (fun _ _ _ => Nat.le_of_ble_eq_true rfl) rfl rfl rfl rfl dX4_proof_70 (fun H locs hst => ?_)
            refine lv_iinc (v := nI (prN I G X i + 1)) (lv' := [(3, .int (nI (prN I G X i + 1))), (7, .ref (ad (2 + i))), (0, .ref (ad 0)), (1, .double x), (4, .ref (ad 1)), (5, .int 32), (6, .int (nI i))]) hx hb dX4_proof_73 hl (k := 3) rfl (nI_1 (prN I G X i)) (by decide) rfl (fun ls hl => ?_)
            refine lv_iinc (v := nI (i + 1)) (lv' := [(6, .int (nI (i + 1))), (3, .int (nI (prN I G X i + 1))), (7, .ref (ad (2 + i))), (0, .ref (ad 0)), (1, .double x), (4, .ref (ad 1)), (5, .int 32)]) hx hb dX4_proof_76 hl (k := 6) rfl (nI_1 i) (by decide) rfl (fun ls hl => ?_)
            refine lv_goto (tgt := 27) hx hb dX4_proof_79 (by decide) ?_
            have ih2 := ih_lp0 (i + 1) (by omega) 
            rw [show prI I G X (i + 1) = u2 (prI I G X i) (2 + i) 6 1 from if_pos (by simp only [prC, c_46, c_54, c_64, not_true_eq_false, not_false_eq_true, decide_true, decide_false, Bool.true_and, Bool.false_and, Bool.and_true, Bool.and_false, Bool.and_self, if_true, if_false, ite_true, ite_false, reduceIte, Bool.false_eq_true]), show prN I G X (i + 1) = prN I G X i + 1 from if_pos (by simp only [prC, c_46, c_54, c_64, not_true_eq_false, not_false_eq_true, decide_true, decide_false, Bool.true_and, Bool.false_and, Bool.and_true, Bool.and_false, Bool.and_self, if_true, if_false, ite_true, ite_false, reduceIte, Bool.false_eq_true])] at ih2
            exact ih2 _ _ hst ls (lv_sub hl [3, 4, 1, 5, 6, 0] rfl)
  exact lp0 32 0 (by omega) _ _ hst ls (lv_sub hl [4, 5, 3, 2, 1, 0] rfl)

set_option maxHeartbeats 4000000 in
set_option maxRecDepth 100000 in
theorem x_X4_proof {l : Launch} {D : va_G} {cy ad : Nat → Nat} {I : Im} {G : Dm} {J : Jm} (hadI : adI ad) (hno : l.stackTraces = false) {x X : UInt64} (hxX : cn x = X) (hin : bIn X 0 1000 = false) : kX l yX4_proof (.code yX4_proof cX4_proof 8 (some .int)) (rmK 7 1 6 110) D cy ad [.ref (ad 0), .double x] I G J xIAE := by
  refine start_X hadI (by decide +kernel) (Nat.le_of_ble_eq_true rfl) ?_
  intro p e s m below meth cd am hx hb hout hlk hst ls hl
  have hl : lv_has ls 8 [(0, .ref (ad 0)), (1, .double x)] := hl
  refine lv_dload_n hx hb dX4_proof_0 rfl (lv_at hl 1 rfl) ?_
  refine lv_iconst (v := 0) hx hb dX4_proof_1 (by decide) ?_
  refine lv_sipush (v := 1000) hx hb dX4_proof_2 (by decide) ?_
  refine c_i hst (r_S (As := [.double x, .int 0, .int 1000]) (rest := []) am hst hl (k_X4_isWithin hadI hxX) kRX4_64 smX4_isWithin ⟨Nat.le_of_ble_eq_true rfl, Nat.le_of_ble_eq_true rfl⟩ rfl rfl (Nat.le_of_ble_eq_true rfl) dX4_proof_5 ⟨Nat.le_of_ble_eq_true rfl, Nat.le_of_ble_eq_true rfl⟩) (fun H locs hst => ?_)
  exact x_call hst hout hlk (Nat.le_of_ble_eq_true rfl) (Nat.le_of_ble_eq_true rfl) (r_SX (As := [.int (zB (bIn X 0 1000))]) (rest := []) am hst hl (x_X4_need hadI hno (zB_0.mpr hin)) kRX4_68 smX4_need ⟨rfl, rfl⟩ ⟨Nat.le_of_ble_eq_true rfl, Nat.le_of_ble_eq_true rfl⟩ rfl rfl (Nat.le_of_ble_eq_true rfl) dX4_proof_8 ⟨Nat.le_of_ble_eq_true rfl, Nat.le_of_ble_eq_true rfl⟩)

set_option maxHeartbeats 4000000 in
set_option maxRecDepth 100000 in
theorem k_X4_about_0 {l : Launch} {D : va_G} {cy ad : Nat → Nat} {I : Im} {G : Dm} {J : Jm} (hadI : adI ad) {n k : Nat} (hn : I 0 2 = nI n) (hk : k < n) (hn2 : n ≤ 32) : kM l yX4_about (.code yX4_about cX4_about 4 (some .int)) (rmK 1 0 0 21) D cy ad [.ref (ad 0), .int (nI k), .int 0] I G J (qI D cy ad (I (2 + k) 0) I G J) := by
  refine start_M hadI (by decide +kernel) (Nat.le_of_ble_eq_true rfl) ?_
  intro p e s m below meth cd am hx hb hr hlk hst ls hl
  have hl : lv_has ls 4 [(0, .ref (ad 0)), (1, .int (nI k)), (2, .int 0)] := hl
  refine lv_aload_n hx hb dX4_about_0 rfl (lv_at hl 0 rfl) ?_
  refine lv_iload_n hx hb dX4_about_1 rfl (lv_at hl 1 rfl) ?_
  refine c_r hst (r_V (As := [.int (nI k)]) (rest := []) am hst hl (k_X4_boardAt hadI hn hk hn2) kRX4_60 imX4_boardAt slX4_boardAt ⟨Nat.le_of_ble_eq_true rfl, Nat.le_of_ble_eq_true rfl⟩ (by decide) (fun _ _ _ => cE_S) rfl rfl rfl (Nat.le_of_ble_eq_true rfl) dX4_about_2 ⟨Nat.le_of_ble_eq_true rfl, Nat.le_of_ble_eq_true rfl⟩) (fun H locs hst => ?_)
  refine lv_astore_n (lv' := [(3, .ref (ad (2 + k))), (0, .ref (ad 0)), (1, .int (nI k)), (2, .int 0)]) hx hb dX4_about_5 rfl hl (by decide) rfl (fun ls hl => ?_)
  refine lv_iload_n hx hb dX4_about_6 rfl (lv_at hl 3 rfl) ?_
  refine lv_tableIn (off := 29) (tgt := 36) hx hb dX4_about_7 (by decide) (by decide) rfl (by decide) ?_
  refine lv_aload_n hx hb dX4_about_36 rfl (lv_at hl 0 rfl) ?_
  refine w_getIN am hst (k := 0) (by omega) (fun _ _ _ => cE_B (show 2 ≤ 2 + k ∧ 2 + k < 34 by omega)) rfl inT0 (by decide) (fun _ _ _ => rfl) fRX4_72 dX4_about_37 ?_
  exact e_i hx hb hr hlk hst rfl rfl dX4_about_40

set_option maxHeartbeats 4000000 in
set_option maxRecDepth 100000 in
theorem k_X4_about_1 {l : Launch} {D : va_G} {cy ad : Nat → Nat} {I : Im} {G : Dm} {J : Jm} (hadI : adI ad) {n k : Nat} (hn : I 0 2 = nI n) (hk : k < n) (hn2 : n ≤ 32) : kM l yX4_about (.code yX4_about cX4_about 4 (some .int)) (rmK 1 0 0 21) D cy ad [.ref (ad 0), .int (nI k), .int 1] I G J (qI D cy ad (zB (bCompl I G (2 + k))) I G J) := by
  refine start_M hadI (by decide +kernel) (Nat.le_of_ble_eq_true rfl) ?_
  intro p e s m below meth cd am hx hb hr hlk hst ls hl
  have hl : lv_has ls 4 [(0, .ref (ad 0)), (1, .int (nI k)), (2, .int 1)] := hl
  refine lv_aload_n hx hb dX4_about_0 rfl (lv_at hl 0 rfl) ?_
  refine lv_iload_n hx hb dX4_about_1 rfl (lv_at hl 1 rfl) ?_
  refine c_r hst (r_V (As := [.int (nI k)]) (rest := []) am hst hl (k_X4_boardAt hadI hn hk hn2) kRX4_60 imX4_boardAt slX4_boardAt ⟨Nat.le_of_ble_eq_true rfl, Nat.le_of_ble_eq_true rfl⟩ (by decide) (fun _ _ _ => cE_S) rfl rfl rfl (Nat.le_of_ble_eq_true rfl) dX4_about_2 ⟨Nat.le_of_ble_eq_true rfl, Nat.le_of_ble_eq_true rfl⟩) (fun H locs hst => ?_)
  refine lv_astore_n (lv' := [(3, .ref (ad (2 + k))), (0, .ref (ad 0)), (1, .int (nI k)), (2, .int 1)]) hx hb dX4_about_5 rfl hl (by decide) rfl (fun ls hl => ?_)
  refine lv_iload_n hx hb dX4_about_6 rfl (lv_at hl 3 rfl) ?_
  refine lv_tableIn (off := 34) (tgt := 41) hx hb dX4_about_7 (by decide) (by decide) rfl (by decide) ?_
  refine lv_aload_n hx hb dX4_about_41 rfl (lv_at hl 0 rfl) ?_
  refine c_i hst (r_N (As := []) (rest := []) am hst hl (k_X0_isComplete hadI (show 2 ≤ 2 + k ∧ 2 + k < 34 by omega)) kRX4_157 imX0_isComplete slX0_isComplete ⟨Nat.le_of_ble_eq_true rfl, Nat.le_of_ble_eq_true rfl⟩ (by omega) (fun _ _ _ => cE_B (show 2 ≤ 2 + k ∧ 2 + k < 34 by omega)) rfl rfl rfl (Nat.le_of_ble_eq_true rfl) dX4_about_42 ⟨Nat.le_of_ble_eq_true rfl, Nat.le_of_ble_eq_true rfl⟩) (fun H locs hst => ?_)
  refine lv_if_eq (tgt := 52) hx hb dX4_about_45 (by decide) (fun c_45 => ?_) (fun c_45 => ?_)
  · skip
    refine lv_iconst (v := 0) hx hb dX4_about_52 (by decide) ?_
    exact e_i hx hb hr hlk hst rfl (by rw [zB_0.mp c_45]; rfl) dX4_about_53
  · skip
    refine lv_iconst (v := 1) hx hb dX4_about_48 (by decide) ?_
    refine lv_goto (tgt := 53) hx hb dX4_about_49 (by decide) ?_
    exact e_i hx hb hr hlk hst rfl (by rw [zB_n0.mp c_45]; rfl) dX4_about_53

set_option maxHeartbeats 4000000 in
set_option maxRecDepth 100000 in
theorem k_X4_about_2 {l : Launch} {D : va_G} {cy ad : Nat → Nat} {I : Im} {G : Dm} {J : Jm} (hadI : adI ad) {n k : Nat} (hn : I 0 2 = nI n) (hk : k < n) (hn2 : n ≤ 32) : kM l yX4_about (.code yX4_about cX4_about 4 (some .int)) (rmK 1 0 0 21) D cy ad [.ref (ad 0), .int (nI k), .int 2] I G J (qI D cy ad (zB (decide (¬ I (2 + k) 5 = 0))) I G J) := by
  refine start_M hadI (by decide +kernel) (Nat.le_of_ble_eq_true rfl) ?_
  intro p e s m below meth cd am hx hb hr hlk hst ls hl
  have hl : lv_has ls 4 [(0, .ref (ad 0)), (1, .int (nI k)), (2, .int 2)] := hl
  refine lv_aload_n hx hb dX4_about_0 rfl (lv_at hl 0 rfl) ?_
  refine lv_iload_n hx hb dX4_about_1 rfl (lv_at hl 1 rfl) ?_
  refine c_r hst (r_V (As := [.int (nI k)]) (rest := []) am hst hl (k_X4_boardAt hadI hn hk hn2) kRX4_60 imX4_boardAt slX4_boardAt ⟨Nat.le_of_ble_eq_true rfl, Nat.le_of_ble_eq_true rfl⟩ (by decide) (fun _ _ _ => cE_S) rfl rfl rfl (Nat.le_of_ble_eq_true rfl) dX4_about_2 ⟨Nat.le_of_ble_eq_true rfl, Nat.le_of_ble_eq_true rfl⟩) (fun H locs hst => ?_)
  refine lv_astore_n (lv' := [(3, .ref (ad (2 + k))), (0, .ref (ad 0)), (1, .int (nI k)), (2, .int 2)]) hx hb dX4_about_5 rfl hl (by decide) rfl (fun ls hl => ?_)
  refine lv_iload_n hx hb dX4_about_6 rfl (lv_at hl 3 rfl) ?_
  refine lv_tableIn (off := 47) (tgt := 54) hx hb dX4_about_7 (by decide) (by decide) rfl (by decide) ?_
  refine lv_aload_n hx hb dX4_about_54 rfl (lv_at hl 0 rfl) ?_
  refine w_getIN am hst (k := 5) (by omega) (fun _ _ _ => cE_B (show 2 ≤ 2 + k ∧ 2 + k < 34 by omega)) rfl inT0 (by decide) (fun _ _ _ => rfl) fRX4_87 dX4_about_55 ?_
  refine lv_if_eq (tgt := 65) hx hb dX4_about_58 (by decide) (fun c_58 => ?_) (fun c_58 => ?_)
  · skip
    refine lv_iconst (v := 0) hx hb dX4_about_65 (by decide) ?_
    exact e_i hx hb hr hlk hst rfl (by simp only [zB, c_58, not_true_eq_false, not_false_eq_true, decide_true, decide_false, Bool.true_and, Bool.false_and, Bool.and_true, Bool.and_false, Bool.and_self, if_true, if_false, ite_true, ite_false, reduceIte, Bool.false_eq_true]) dX4_about_66
  · skip
    refine lv_iconst (v := 1) hx hb dX4_about_61 (by decide) ?_
    refine lv_goto (tgt := 66) hx hb dX4_about_62 (by decide) ?_
    exact e_i hx hb hr hlk hst rfl (by simp only [zB, c_58, not_true_eq_false, not_false_eq_true, decide_true, decide_false, Bool.true_and, Bool.false_and, Bool.and_true, Bool.and_false, Bool.and_self, if_true, if_false, ite_true, ite_false, reduceIte, Bool.false_eq_true]) dX4_about_66

set_option maxHeartbeats 4000000 in
set_option maxRecDepth 100000 in
theorem k_X4_about_3 {l : Launch} {D : va_G} {cy ad : Nat → Nat} {I : Im} {G : Dm} {J : Jm} (hadI : adI ad) {n k : Nat} (hn : I 0 2 = nI n) (hk : k < n) (hn2 : n ≤ 32) : kM l yX4_about (.code yX4_about cX4_about 4 (some .int)) (rmK 1 0 0 21) D cy ad [.ref (ad 0), .int (nI k), .int 3] I G J (qI D cy ad (zB (decide (¬ I (2 + k) 6 = 0))) I G J) := by
  refine start_M hadI (by decide +kernel) (Nat.le_of_ble_eq_true rfl) ?_
  intro p e s m below meth cd am hx hb hr hlk hst ls hl
  have hl : lv_has ls 4 [(0, .ref (ad 0)), (1, .int (nI k)), (2, .int 3)] := hl
  refine lv_aload_n hx hb dX4_about_0 rfl (lv_at hl 0 rfl) ?_
  refine lv_iload_n hx hb dX4_about_1 rfl (lv_at hl 1 rfl) ?_
  refine c_r hst (r_V (As := [.int (nI k)]) (rest := []) am hst hl (k_X4_boardAt hadI hn hk hn2) kRX4_60 imX4_boardAt slX4_boardAt ⟨Nat.le_of_ble_eq_true rfl, Nat.le_of_ble_eq_true rfl⟩ (by decide) (fun _ _ _ => cE_S) rfl rfl rfl (Nat.le_of_ble_eq_true rfl) dX4_about_2 ⟨Nat.le_of_ble_eq_true rfl, Nat.le_of_ble_eq_true rfl⟩) (fun H locs hst => ?_)
  refine lv_astore_n (lv' := [(3, .ref (ad (2 + k))), (0, .ref (ad 0)), (1, .int (nI k)), (2, .int 3)]) hx hb dX4_about_5 rfl hl (by decide) rfl (fun ls hl => ?_)
  refine lv_iload_n hx hb dX4_about_6 rfl (lv_at hl 3 rfl) ?_
  refine lv_tableIn (off := 60) (tgt := 67) hx hb dX4_about_7 (by decide) (by decide) rfl (by decide) ?_
  refine lv_aload_n hx hb dX4_about_67 rfl (lv_at hl 0 rfl) ?_
  refine w_getIN am hst (k := 6) (by omega) (fun _ _ _ => cE_B (show 2 ≤ 2 + k ∧ 2 + k < 34 by omega)) rfl inT0 (by decide) (fun _ _ _ => rfl) fRX4_91 dX4_about_68 ?_
  refine lv_if_eq (tgt := 78) hx hb dX4_about_71 (by decide) (fun c_71 => ?_) (fun c_71 => ?_)
  · skip
    refine lv_iconst (v := 0) hx hb dX4_about_78 (by decide) ?_
    exact e_i hx hb hr hlk hst rfl (by simp only [zB, c_71, not_true_eq_false, not_false_eq_true, decide_true, decide_false, Bool.true_and, Bool.false_and, Bool.and_true, Bool.and_false, Bool.and_self, if_true, if_false, ite_true, ite_false, reduceIte, Bool.false_eq_true]) dX4_about_79
  · skip
    refine lv_iconst (v := 1) hx hb dX4_about_74 (by decide) ?_
    refine lv_goto (tgt := 79) hx hb dX4_about_75 (by decide) ?_
    exact e_i hx hb hr hlk hst rfl (by simp only [zB, c_71, not_true_eq_false, not_false_eq_true, decide_true, decide_false, Bool.true_and, Bool.false_and, Bool.and_true, Bool.and_false, Bool.and_self, if_true, if_false, ite_true, ite_false, reduceIte, Bool.false_eq_true]) dX4_about_79

set_option maxHeartbeats 4000000 in
set_option maxRecDepth 100000 in
theorem x1_X4_about {l : Launch} {D : va_G} {cy ad : Nat → Nat} {I : Im} {G : Dm} {J : Jm} (hadI : adI ad) (hno : l.stackTraces = false) {v : Int32} (hv : v < 0 ∨ ¬ v < I 0 2) {w : Int32} : kX l yX4_about (.code yX4_about cX4_about 4 (some .int)) (rmK 7 1 6 111) D cy ad [.ref (ad 0), .int v, .int w] I G J xIOOBE := by
  refine start_X hadI (by decide +kernel) (Nat.le_of_ble_eq_true rfl) ?_
  intro p e s m below meth cd am hx hb hout hlk hst ls hl
  have hl : lv_has ls 4 [(0, .ref (ad 0)), (1, .int v), (2, .int w)] := hl
  refine lv_aload_n hx hb dX4_about_0 rfl (lv_at hl 0 rfl) ?_
  refine lv_iload_n hx hb dX4_about_1 rfl (lv_at hl 1 rfl) ?_
  exact x_call hst hout hlk (Nat.le_of_ble_eq_true rfl) (Nat.le_of_ble_eq_true rfl) (r_VX (As := [.int v]) (rest := []) am hst hl (x_X4_boardAt hadI hno hv) kRX4_60 imX4_boardAt slX4_boardAt ⟨rfl, rfl⟩ ⟨Nat.le_of_ble_eq_true rfl, Nat.le_of_ble_eq_true rfl⟩ (by decide) (fun _ _ _ => cE_S) rfl rfl rfl (Nat.le_of_ble_eq_true rfl) dX4_about_2 ⟨Nat.le_of_ble_eq_true rfl, Nat.le_of_ble_eq_true rfl⟩)

set_option maxHeartbeats 4000000 in
set_option maxRecDepth 100000 in
theorem x2_X4_about {l : Launch} {D : va_G} {cy ad : Nat → Nat} {I : Im} {G : Dm} {J : Jm} (hadI : adI ad) (hno : l.stackTraces = false) {n k : Nat} (hn : I 0 2 = nI n) (hk : k < n) (hn2 : n ≤ 32) {w : Int32} (hw : w.toInt < 0 ∨ 3 < w.toInt) : kX l yX4_about (.code yX4_about cX4_about 4 (some .int)) (rmK 7 1 6 111) D cy ad [.ref (ad 0), .int (nI k), .int w] I G J xIOOBE := by
  refine start_X hadI (by decide +kernel) (Nat.le_of_ble_eq_true rfl) ?_
  intro p e s m below meth cd am hx hb hout hlk hst ls hl
  have hl : lv_has ls 4 [(0, .ref (ad 0)), (1, .int (nI k)), (2, .int w)] := hl
  refine lv_aload_n hx hb dX4_about_0 rfl (lv_at hl 0 rfl) ?_
  refine lv_iload_n hx hb dX4_about_1 rfl (lv_at hl 1 rfl) ?_
  refine c_r hst (r_V (As := [.int (nI k)]) (rest := []) am hst hl (k_X4_boardAt hadI hn hk hn2) kRX4_60 imX4_boardAt slX4_boardAt ⟨Nat.le_of_ble_eq_true rfl, Nat.le_of_ble_eq_true rfl⟩ (by decide) (fun _ _ _ => cE_S) rfl rfl rfl (Nat.le_of_ble_eq_true rfl) dX4_about_2 ⟨Nat.le_of_ble_eq_true rfl, Nat.le_of_ble_eq_true rfl⟩) (fun H locs hst => ?_)
  refine lv_astore_n (lv' := [(3, .ref (ad (2 + k))), (0, .ref (ad 0)), (1, .int (nI k)), (2, .int w)]) hx hb dX4_about_5 rfl hl (by decide) rfl (fun ls hl => ?_)
  refine lv_iload_n hx hb dX4_about_6 rfl (lv_at hl 3 rfl) ?_
  refine lv_tableOut (tgt := 80) hx hb dX4_about_7 hw (by decide) ?_
  exact x_throw (text := "no such what") hno am hst hout hlk hl tx_IOOBE tg_IOOBE rfl (by decide) dX4_about_80 dX4_about_83 dX4_about_84 dX4_about_86 dX4_about_89 (Nat.le_of_ble_eq_true rfl) (Nat.le_of_ble_eq_true rfl) (Nat.le_of_ble_eq_true rfl) (Nat.le_of_ble_eq_true rfl) (Nat.le_of_ble_eq_true rfl) (Nat.le_of_ble_eq_true rfl)

set_option maxHeartbeats 4000000 in
set_option maxRecDepth 100000 in
theorem k_X4_reference {l : Launch} {D : va_G} {cy ad : Nat → Nat} {I : Im} {G : Dm} {J : Jm} (hadI : adI ad) {n : Nat} (hn : I 50 2 = nI n) (hn2 : n < 16) {v : Int32} {x X : UInt64} (hxX : cn x = X) (h1 : bDay v = true) (h2 : ¬ v ≤ I 50 3) (h3 : bIn X (-1000) 1000 = true) : kM l yX4_reference (.code yX4_reference cX4_reference 4 (some .int)) (rmK 1 0 0 23) D cy ad [.ref (ad 0), .int v, .double x] I G J (qI D cy ad (nI (n + 1)) (u2 (u2 (u2 I 51 n v) 50 3 v) 50 2 (nI (n + 1))) (u2 G 52 n X) J) := by
  refine start_M hadI (by decide +kernel) (Nat.le_of_ble_eq_true rfl) ?_
  intro p e s m below meth cd am hx hb hr hlk hst ls hl
  have hl : lv_has ls 4 [(0, .ref (ad 0)), (1, .int v), (2, .double x)] := hl
  refine lv_iload_n hx hb dX4_reference_0 rfl (lv_at hl 1 rfl) ?_
  refine c_i hst (r_S (As := [.int v]) (rest := []) am hst hl (k_X4_isDay hadI) kRX4_163 smX4_isDay ⟨Nat.le_of_ble_eq_true rfl, Nat.le_of_ble_eq_true rfl⟩ rfl rfl (Nat.le_of_ble_eq_true rfl) dX4_reference_1 ⟨Nat.le_of_ble_eq_true rfl, Nat.le_of_ble_eq_true rfl⟩) (fun H locs hst => ?_)
  refine lv_if_eq (tgt := 35) hx hb dX4_reference_4 (by decide) (fun c_4 => absurd c_4 (zB_n0.mpr h1)) (fun c_4 => ?_)
  refine lv_aload_n hx hb dX4_reference_7 rfl (lv_at hl 0 rfl) ?_
  refine w_getR am hst (k := 7) (b := ad 50) (by decide) (fun _ _ _ => cE_S) rfl inT4 (by decide) (fun _ _ _ => rfl) fRX4_46 dX4_reference_8 ?_
  refine lv_iload_n hx hb dX4_reference_11 rfl (lv_at hl 1 rfl) ?_
  refine c_i hst (r_N (As := [.int v]) (rest := []) am hst hl (k_X3_isBehindLast hadI) kRX4_167 imX3_isBehindLast slX3_isBehindLast ⟨Nat.le_of_ble_eq_true rfl, Nat.le_of_ble_eq_true rfl⟩ (by decide) (fun _ _ _ => cE_50) rfl rfl rfl (Nat.le_of_ble_eq_true rfl) dX4_reference_12 ⟨Nat.le_of_ble_eq_true rfl, Nat.le_of_ble_eq_true rfl⟩) (fun H locs hst => ?_)
  refine lv_if_eq (tgt := 35) hx hb dX4_reference_15 (by decide) (fun c_15 => absurd c_15 (zB_n0.mpr (decide_eq_true h2))) (fun c_15 => ?_)
  refine lv_dload_n hx hb dX4_reference_18 rfl (lv_at hl 2 rfl) ?_
  refine lv_sipush (v := (-1000)) hx hb dX4_reference_19 (by decide) ?_
  refine lv_sipush (v := 1000) hx hb dX4_reference_22 (by decide) ?_
  refine c_i hst (r_S (As := [.double x, .int ((-1000)), .int 1000]) (rest := []) am hst hl (k_X4_isWithin hadI hxX) kRX4_64 smX4_isWithin ⟨Nat.le_of_ble_eq_true rfl, Nat.le_of_ble_eq_true rfl⟩ rfl rfl (Nat.le_of_ble_eq_true rfl) dX4_reference_25 ⟨Nat.le_of_ble_eq_true rfl, Nat.le_of_ble_eq_true rfl⟩) (fun H locs hst => ?_)
  refine lv_if_eq (tgt := 35) hx hb dX4_reference_28 (by decide) (fun c_28 => absurd c_28 (zB_n0.mpr h3)) (fun c_28 => ?_)
  refine lv_iconst (v := 1) hx hb dX4_reference_31 (by decide) ?_
  refine lv_goto (tgt := 36) hx hb dX4_reference_32 (by decide) ?_
  refine c_v hst (r_S (As := [.int 1]) (rest := []) am hst hl (k_X4_need hadI (by decide)) kRX4_68 smX4_need ⟨Nat.le_of_ble_eq_true rfl, Nat.le_of_ble_eq_true rfl⟩ rfl rfl (Nat.le_of_ble_eq_true rfl) dX4_reference_36 ⟨Nat.le_of_ble_eq_true rfl, Nat.le_of_ble_eq_true rfl⟩) (fun H locs hst => ?_)
  refine lv_aload_n hx hb dX4_reference_39 rfl (lv_at hl 0 rfl) ?_
  refine w_getR am hst (k := 7) (b := ad 50) (by decide) (fun _ _ _ => cE_S) rfl inT4 (by decide) (fun _ _ _ => rfl) fRX4_46 dX4_reference_40 ?_
  refine c_i hst (r_N (As := []) (rest := []) am hst hl (k_X3_isFull hadI) kRX4_170 imX3_isFull slX3_isFull ⟨Nat.le_of_ble_eq_true rfl, Nat.le_of_ble_eq_true rfl⟩ (by decide) (fun _ _ _ => cE_50) rfl rfl rfl (Nat.le_of_ble_eq_true rfl) dX4_reference_43 ⟨Nat.le_of_ble_eq_true rfl, Nat.le_of_ble_eq_true rfl⟩) (fun H locs hst => ?_)
  refine lv_if_eq (tgt := 59) hx hb dX4_reference_46 (by decide) (fun c_46 => ?_) (fun c_46 => absurd (zB_0.mpr (decide_eq_false (fun h => h (by rw [hn]; exact nI_lt (b := 16) hn2 (by omega))))) c_46)
  refine lv_aload_n hx hb dX4_reference_59 rfl (lv_at hl 0 rfl) ?_
  refine w_getR am hst (k := 7) (b := ad 50) (by decide) (fun _ _ _ => cE_S) rfl inT4 (by decide) (fun _ _ _ => rfl) fRX4_46 dX4_reference_60 ?_
  refine lv_iload_n hx hb dX4_reference_63 rfl (lv_at hl 1 rfl) ?_
  refine lv_dload_n hx hb dX4_reference_64 rfl (lv_at hl 2 rfl) ?_
  refine c_i hst (r_N (As := [.int v, .double x]) (rest := []) am hst hl (k_X3_append hadI (n := n) hn hn2 hxX) kRX4_175 imX3_append slX3_append ⟨Nat.le_of_ble_eq_true rfl, Nat.le_of_ble_eq_true rfl⟩ (by decide) (fun _ _ _ => cE_50) rfl rfl rfl (Nat.le_of_ble_eq_true rfl) dX4_reference_65 ⟨Nat.le_of_ble_eq_true rfl, Nat.le_of_ble_eq_true rfl⟩) (fun H locs hst => ?_)
  exact e_i hx hb hr hlk hst rfl rfl dX4_reference_68

set_option maxHeartbeats 4000000 in
set_option maxRecDepth 100000 in
theorem x1_X4_reference {l : Launch} {D : va_G} {cy ad : Nat → Nat} {I : Im} {G : Dm} {J : Jm} (hadI : adI ad) (hno : l.stackTraces = false) {v : Int32} {x X : UInt64} (hxX : cn x = X) (hin : (bDay v && (decide (¬ v ≤ I 50 3) && bIn X (-1000) 1000)) = false) : kX l yX4_reference (.code yX4_reference cX4_reference 4 (some .int)) (rmK 7 1 6 110) D cy ad [.ref (ad 0), .int v, .double x] I G J xIAE := by
  refine start_X hadI (by decide +kernel) (Nat.le_of_ble_eq_true rfl) ?_
  intro p e s m below meth cd am hx hb hout hlk hst ls hl
  have hl : lv_has ls 4 [(0, .ref (ad 0)), (1, .int v), (2, .double x)] := hl
  refine lv_iload_n hx hb dX4_reference_0 rfl (lv_at hl 1 rfl) ?_
  refine c_i hst (r_S (As := [.int v]) (rest := []) am hst hl (k_X4_isDay hadI) kRX4_163 smX4_isDay ⟨Nat.le_of_ble_eq_true rfl, Nat.le_of_ble_eq_true rfl⟩ rfl rfl (Nat.le_of_ble_eq_true rfl) dX4_reference_1 ⟨Nat.le_of_ble_eq_true rfl, Nat.le_of_ble_eq_true rfl⟩) (fun H locs hst => ?_)
  refine lv_if_eq (tgt := 35) hx hb dX4_reference_4 (by decide) (fun c_4 => ?_) (fun c_4 => ?_)
  · skip
    refine lv_iconst (v := 0) hx hb dX4_reference_35 (by decide) ?_
    exact x_call hst hout hlk (Nat.le_of_ble_eq_true rfl) (Nat.le_of_ble_eq_true rfl) (r_SX (As := [.int 0]) (rest := []) am hst hl (x_X4_need hadI hno (rfl)) kRX4_68 smX4_need ⟨rfl, rfl⟩ ⟨Nat.le_of_ble_eq_true rfl, Nat.le_of_ble_eq_true rfl⟩ rfl rfl (Nat.le_of_ble_eq_true rfl) dX4_reference_36 ⟨Nat.le_of_ble_eq_true rfl, Nat.le_of_ble_eq_true rfl⟩)
  · skip
    refine lv_aload_n hx hb dX4_reference_7 rfl (lv_at hl 0 rfl) ?_
    refine w_getR am hst (k := 7) (b := ad 50) (by decide) (fun _ _ _ => cE_S) rfl inT4 (by decide) (fun _ _ _ => rfl) fRX4_46 dX4_reference_8 ?_
    refine lv_iload_n hx hb dX4_reference_11 rfl (lv_at hl 1 rfl) ?_
    refine c_i hst (r_N (As := [.int v]) (rest := []) am hst hl (k_X3_isBehindLast hadI) kRX4_167 imX3_isBehindLast slX3_isBehindLast ⟨Nat.le_of_ble_eq_true rfl, Nat.le_of_ble_eq_true rfl⟩ (by decide) (fun _ _ _ => cE_50) rfl rfl rfl (Nat.le_of_ble_eq_true rfl) dX4_reference_12 ⟨Nat.le_of_ble_eq_true rfl, Nat.le_of_ble_eq_true rfl⟩) (fun H locs hst => ?_)
    refine lv_if_eq (tgt := 35) hx hb dX4_reference_15 (by decide) (fun c_15 => ?_) (fun c_15 => ?_)
    · skip
      refine lv_iconst (v := 0) hx hb dX4_reference_35 (by decide) ?_
      exact x_call hst hout hlk (Nat.le_of_ble_eq_true rfl) (Nat.le_of_ble_eq_true rfl) (r_SX (As := [.int 0]) (rest := []) am hst hl (x_X4_need hadI hno (rfl)) kRX4_68 smX4_need ⟨rfl, rfl⟩ ⟨Nat.le_of_ble_eq_true rfl, Nat.le_of_ble_eq_true rfl⟩ rfl rfl (Nat.le_of_ble_eq_true rfl) dX4_reference_36 ⟨Nat.le_of_ble_eq_true rfl, Nat.le_of_ble_eq_true rfl⟩)
    · skip
      refine lv_dload_n hx hb dX4_reference_18 rfl (lv_at hl 2 rfl) ?_
      refine lv_sipush (v := (-1000)) hx hb dX4_reference_19 (by decide) ?_
      refine lv_sipush (v := 1000) hx hb dX4_reference_22 (by decide) ?_
      refine c_i hst (r_S (As := [.double x, .int ((-1000)), .int 1000]) (rest := []) am hst hl (k_X4_isWithin hadI hxX) kRX4_64 smX4_isWithin ⟨Nat.le_of_ble_eq_true rfl, Nat.le_of_ble_eq_true rfl⟩ rfl rfl (Nat.le_of_ble_eq_true rfl) dX4_reference_25 ⟨Nat.le_of_ble_eq_true rfl, Nat.le_of_ble_eq_true rfl⟩) (fun H locs hst => ?_)
      refine lv_if_eq (tgt := 35) hx hb dX4_reference_28 (by decide) (fun c_28 => ?_) (fun c_28 => absurd ((by rw [zB_n0.mp c_4, zB_n0.mp c_15, Bool.true_and, Bool.true_and] at hin; exact zB_0.mpr hin)) c_28)
      refine lv_iconst (v := 0) hx hb dX4_reference_35 (by decide) ?_
      exact x_call hst hout hlk (Nat.le_of_ble_eq_true rfl) (Nat.le_of_ble_eq_true rfl) (r_SX (As := [.int 0]) (rest := []) am hst hl (x_X4_need hadI hno (rfl)) kRX4_68 smX4_need ⟨rfl, rfl⟩ ⟨Nat.le_of_ble_eq_true rfl, Nat.le_of_ble_eq_true rfl⟩ rfl rfl (Nat.le_of_ble_eq_true rfl) dX4_reference_36 ⟨Nat.le_of_ble_eq_true rfl, Nat.le_of_ble_eq_true rfl⟩)

set_option maxHeartbeats 4000000 in
set_option maxRecDepth 100000 in
theorem x2_X4_reference {l : Launch} {D : va_G} {cy ad : Nat → Nat} {I : Im} {G : Dm} {J : Jm} (hadI : adI ad) (hno : l.stackTraces = false) {v : Int32} {x X : UInt64} (hxX : cn x = X) (h1 : bDay v = true) (h2 : ¬ v ≤ I 50 3) (h3 : bIn X (-1000) 1000 = true) (hv : ¬ I 50 2 < 16) : kX l yX4_reference (.code yX4_reference cX4_reference 4 (some .int)) (rmK 7 1 6 110) D cy ad [.ref (ad 0), .int v, .double x] I G J xISE := by
  refine start_X hadI (by decide +kernel) (Nat.le_of_ble_eq_true rfl) ?_
  intro p e s m below meth cd am hx hb hout hlk hst ls hl
  have hl : lv_has ls 4 [(0, .ref (ad 0)), (1, .int v), (2, .double x)] := hl
  refine lv_iload_n hx hb dX4_reference_0 rfl (lv_at hl 1 rfl) ?_
  refine c_i hst (r_S (As := [.int v]) (rest := []) am hst hl (k_X4_isDay hadI) kRX4_163 smX4_isDay ⟨Nat.le_of_ble_eq_true rfl, Nat.le_of_ble_eq_true rfl⟩ rfl rfl (Nat.le_of_ble_eq_true rfl) dX4_reference_1 ⟨Nat.le_of_ble_eq_true rfl, Nat.le_of_ble_eq_true rfl⟩) (fun H locs hst => ?_)
  refine lv_if_eq (tgt := 35) hx hb dX4_reference_4 (by decide) (fun c_4 => absurd c_4 (zB_n0.mpr h1)) (fun c_4 => ?_)
  refine lv_aload_n hx hb dX4_reference_7 rfl (lv_at hl 0 rfl) ?_
  refine w_getR am hst (k := 7) (b := ad 50) (by decide) (fun _ _ _ => cE_S) rfl inT4 (by decide) (fun _ _ _ => rfl) fRX4_46 dX4_reference_8 ?_
  refine lv_iload_n hx hb dX4_reference_11 rfl (lv_at hl 1 rfl) ?_
  refine c_i hst (r_N (As := [.int v]) (rest := []) am hst hl (k_X3_isBehindLast hadI) kRX4_167 imX3_isBehindLast slX3_isBehindLast ⟨Nat.le_of_ble_eq_true rfl, Nat.le_of_ble_eq_true rfl⟩ (by decide) (fun _ _ _ => cE_50) rfl rfl rfl (Nat.le_of_ble_eq_true rfl) dX4_reference_12 ⟨Nat.le_of_ble_eq_true rfl, Nat.le_of_ble_eq_true rfl⟩) (fun H locs hst => ?_)
  refine lv_if_eq (tgt := 35) hx hb dX4_reference_15 (by decide) (fun c_15 => absurd c_15 (zB_n0.mpr (decide_eq_true h2))) (fun c_15 => ?_)
  refine lv_dload_n hx hb dX4_reference_18 rfl (lv_at hl 2 rfl) ?_
  refine lv_sipush (v := (-1000)) hx hb dX4_reference_19 (by decide) ?_
  refine lv_sipush (v := 1000) hx hb dX4_reference_22 (by decide) ?_
  refine c_i hst (r_S (As := [.double x, .int ((-1000)), .int 1000]) (rest := []) am hst hl (k_X4_isWithin hadI hxX) kRX4_64 smX4_isWithin ⟨Nat.le_of_ble_eq_true rfl, Nat.le_of_ble_eq_true rfl⟩ rfl rfl (Nat.le_of_ble_eq_true rfl) dX4_reference_25 ⟨Nat.le_of_ble_eq_true rfl, Nat.le_of_ble_eq_true rfl⟩) (fun H locs hst => ?_)
  refine lv_if_eq (tgt := 35) hx hb dX4_reference_28 (by decide) (fun c_28 => absurd c_28 (zB_n0.mpr h3)) (fun c_28 => ?_)
  refine lv_iconst (v := 1) hx hb dX4_reference_31 (by decide) ?_
  refine lv_goto (tgt := 36) hx hb dX4_reference_32 (by decide) ?_
  refine c_v hst (r_S (As := [.int 1]) (rest := []) am hst hl (k_X4_need hadI (by decide)) kRX4_68 smX4_need ⟨Nat.le_of_ble_eq_true rfl, Nat.le_of_ble_eq_true rfl⟩ rfl rfl (Nat.le_of_ble_eq_true rfl) dX4_reference_36 ⟨Nat.le_of_ble_eq_true rfl, Nat.le_of_ble_eq_true rfl⟩) (fun H locs hst => ?_)
  refine lv_aload_n hx hb dX4_reference_39 rfl (lv_at hl 0 rfl) ?_
  refine w_getR am hst (k := 7) (b := ad 50) (by decide) (fun _ _ _ => cE_S) rfl inT4 (by decide) (fun _ _ _ => rfl) fRX4_46 dX4_reference_40 ?_
  refine c_i hst (r_N (As := []) (rest := []) am hst hl (k_X3_isFull hadI) kRX4_170 imX3_isFull slX3_isFull ⟨Nat.le_of_ble_eq_true rfl, Nat.le_of_ble_eq_true rfl⟩ (by decide) (fun _ _ _ => cE_50) rfl rfl rfl (Nat.le_of_ble_eq_true rfl) dX4_reference_43 ⟨Nat.le_of_ble_eq_true rfl, Nat.le_of_ble_eq_true rfl⟩) (fun H locs hst => ?_)
  refine lv_if_eq (tgt := 59) hx hb dX4_reference_46 (by decide) (fun c_46 => absurd c_46 (zB_n0.mpr (decide_eq_true hv))) (fun c_46 => ?_)
  exact x_throw (text := "no room for a reference") hno am hst hout hlk hl tx_ISE tg_ISE rfl (by decide) dX4_reference_49 dX4_reference_52 dX4_reference_53 dX4_reference_55 dX4_reference_58 (Nat.le_of_ble_eq_true rfl) (Nat.le_of_ble_eq_true rfl) (Nat.le_of_ble_eq_true rfl) (Nat.le_of_ble_eq_true rfl) (Nat.le_of_ble_eq_true rfl) (Nat.le_of_ble_eq_true rfl)

set_option maxHeartbeats 4000000 in
set_option maxRecDepth 100000 in
theorem k_X4_drift {l : Launch} {D : va_G} {cy ad : Nat → Nat} {I : Im} {G : Dm} {J : Jm} (hadI : adI ad) {v : Int32} {cnt : Nat} (hcnt : I 50 2 = nI cnt) (hcnt2 : cnt ≤ 16) (h1 : bDay v = true) : kD l yX4_drift (.code yX4_drift cX4_drift 2 (some .double)) (rmK 2 0 0 51) D cy ad [.ref (ad 0), .int v] I G J (qD D cy ad (vaF I G v cnt 0 0) I G J) := by
  refine start_D hadI (by decide +kernel) (Nat.le_of_ble_eq_true rfl) ?_
  intro p e s m below meth cd am hx hb hr hlk hst ls hl d0 hd
  have hl : lv_has ls 2 [(0, .ref (ad 0)), (1, .int v)] := hl
  refine lv_iload_n hx hb dX4_drift_0 rfl (lv_at hl 1 rfl) ?_
  refine c_i hst (r_S (As := [.int v]) (rest := []) am hst hl (k_X4_isDay hadI) kRX4_163 smX4_isDay ⟨Nat.le_of_ble_eq_true rfl, Nat.le_of_ble_eq_true rfl⟩ rfl rfl (Nat.le_of_ble_eq_true rfl) dX4_drift_1 ⟨Nat.le_of_ble_eq_true rfl, Nat.le_of_ble_eq_true rfl⟩) (fun H locs hst => ?_)
  refine c_v hst (r_S (As := [.int (zB (bDay v))]) (rest := []) am hst hl (k_X4_need hadI (zB_n0.mpr h1)) kRX4_68 smX4_need ⟨Nat.le_of_ble_eq_true rfl, Nat.le_of_ble_eq_true rfl⟩ rfl rfl (Nat.le_of_ble_eq_true rfl) dX4_drift_4 ⟨Nat.le_of_ble_eq_true rfl, Nat.le_of_ble_eq_true rfl⟩) (fun H locs hst => ?_)
  refine lv_aload_n hx hb dX4_drift_7 rfl (lv_at hl 0 rfl) ?_
  refine w_getR am hst (k := 7) (b := ad 50) (by decide) (fun _ _ _ => cE_S) rfl inT4 (by decide) (fun _ _ _ => rfl) fRX4_46 dX4_drift_8 ?_
  refine lv_iload_n hx hb dX4_drift_11 rfl (lv_at hl 1 rfl) ?_
  refine c_dD hd hst (r_ND (As := [.int v]) (rest := []) am hst hl (k_X3_valueAt hadI hcnt hcnt2) kRX4_179 imX3_valueAt slX3_valueAt ⟨Nat.le_of_ble_eq_true rfl, Nat.le_of_ble_eq_true rfl⟩ (by decide) (fun _ _ _ => cE_50) rfl rfl rfl (Nat.le_of_ble_eq_true rfl) dX4_drift_12 ⟨Nat.le_of_ble_eq_true rfl, Nat.le_of_ble_eq_true rfl⟩) (fun x1 d0 H locs hx1 hd hst => ?_)
  exact e_dD hd hx hb hr hlk hst hx1 dX4_drift_15

set_option maxHeartbeats 4000000 in
set_option maxRecDepth 100000 in
theorem x_X4_drift {l : Launch} {D : va_G} {cy ad : Nat → Nat} {I : Im} {G : Dm} {J : Jm} (hadI : adI ad) (hno : l.stackTraces = false) {v : Int32} (h1 : bDay v = false) : kX l yX4_drift (.code yX4_drift cX4_drift 2 (some .double)) (rmK 7 1 6 110) D cy ad [.ref (ad 0), .int v] I G J xIAE := by
  refine start_X hadI (by decide +kernel) (Nat.le_of_ble_eq_true rfl) ?_
  intro p e s m below meth cd am hx hb hout hlk hst ls hl
  have hl : lv_has ls 2 [(0, .ref (ad 0)), (1, .int v)] := hl
  refine lv_iload_n hx hb dX4_drift_0 rfl (lv_at hl 1 rfl) ?_
  refine c_i hst (r_S (As := [.int v]) (rest := []) am hst hl (k_X4_isDay hadI) kRX4_163 smX4_isDay ⟨Nat.le_of_ble_eq_true rfl, Nat.le_of_ble_eq_true rfl⟩ rfl rfl (Nat.le_of_ble_eq_true rfl) dX4_drift_1 ⟨Nat.le_of_ble_eq_true rfl, Nat.le_of_ble_eq_true rfl⟩) (fun H locs hst => ?_)
  exact x_call hst hout hlk (Nat.le_of_ble_eq_true rfl) (Nat.le_of_ble_eq_true rfl) (r_SX (As := [.int (zB (bDay v))]) (rest := []) am hst hl (x_X4_need hadI hno (zB_0.mpr h1)) kRX4_68 smX4_need ⟨rfl, rfl⟩ ⟨Nat.le_of_ble_eq_true rfl, Nat.le_of_ble_eq_true rfl⟩ rfl rfl (Nat.le_of_ble_eq_true rfl) dX4_drift_4 ⟨Nat.le_of_ble_eq_true rfl, Nat.le_of_ble_eq_true rfl⟩)

set_option maxHeartbeats 4000000 in
set_option maxRecDepth 100000 in
theorem k_X4_drawn {l : Launch} {D : va_G} {cy ad : Nat → Nat} {I : Im} {G : Dm} {J : Jm} (hadI : adI ad) {v : Int32} (hv : ¬ v < 0) : kD l yX4_drawn (.code yX4_drawn cX4_drawn 4 (some .double)) (rmK 1 0 0 20) D cy ad [.ref (ad 0), .int v] I G J (qD D cy ad (dwD (I 0 0).toInt64 v.toInt64) I G J) := by
  refine start_D hadI (by decide +kernel) (Nat.le_of_ble_eq_true rfl) ?_
  intro p e s m below meth cd am hx hb hr hlk hst ls hl d0 hd
  have hl : lv_has ls 4 [(0, .ref (ad 0)), (1, .int v)] := hl
  refine lv_iload_n hx hb dX4_drawn_0 rfl (lv_at hl 1 rfl) ?_
  refine lv_if_lt (tgt := 8) hx hb dX4_drawn_1 (by decide) (fun c_1 => absurd c_1 hv) (fun c_1 => ?_)
  refine lv_iconst (v := 1) hx hb dX4_drawn_4 (by decide) ?_
  refine lv_goto (tgt := 9) hx hb dX4_drawn_5 (by decide) ?_
  refine c_v hst (r_S (As := [.int 1]) (rest := []) am hst hl (k_X4_need hadI (by decide)) kRX4_68 smX4_need ⟨Nat.le_of_ble_eq_true rfl, Nat.le_of_ble_eq_true rfl⟩ rfl rfl (Nat.le_of_ble_eq_true rfl) dX4_drawn_9 ⟨Nat.le_of_ble_eq_true rfl, Nat.le_of_ble_eq_true rfl⟩) (fun H locs hst => ?_)
  refine lv_aload_n hx hb dX4_drawn_12 rfl (lv_at hl 0 rfl) ?_
  refine w_getI am hst (k := 0) (by decide) (fun _ _ _ => cE_S) rfl inT4 (by decide) (fun _ _ _ => rfl) fRX4_7 dX4_drawn_13 ?_
  refine lv_i2l hx hb dX4_drawn_16 rfl ?_
  refine lv_iload_n hx hb dX4_drawn_17 rfl (lv_at hl 1 rfl) ?_
  refine lv_i2l hx hb dX4_drawn_18 rfl ?_
  refine lv_lconst (v := 1) hx hb dX4_drawn_19 (by decide) ?_
  refine lv_ladd hx hb dX4_drawn_20 ?_
  refine lv_ldc2 hx hb am.2.2.2.1 (amT am _ wRX4_183) dX4_drawn_21 ?_
  refine lv_lmul hx hb dX4_drawn_24 ?_
  refine lv_ladd hx hb dX4_drawn_25 ?_
  refine lv_lstore_n (lv' := [(2, .long (dw1 (I 0 0).toInt64 v.toInt64)), (0, .ref (ad 0)), (1, .int v)]) hx hb dX4_drawn_26 rfl hl (by decide) rfl (fun ls hl => ?_)
  refine lv_lload_n hx hb dX4_drawn_27 rfl (lv_at hl 0 rfl) ?_
  refine lv_lload_n hx hb dX4_drawn_28 rfl (lv_at hl 0 rfl) ?_
  refine lv_bipush (v := 30) hx hb dX4_drawn_29 (by decide) ?_
  refine lv_lushr hx hb dX4_drawn_31 rfl ?_
  refine lv_lxor hx hb dX4_drawn_32 ?_
  refine lv_ldc2 hx hb am.2.2.2.1 (amT am _ wRX4_185) dX4_drawn_33 ?_
  refine lv_lmul hx hb dX4_drawn_36 ?_
  refine lv_lstore_n (lv' := [(2, .long (dw2 (dw1 (I 0 0).toInt64 v.toInt64))), (0, .ref (ad 0)), (1, .int v)]) hx hb dX4_drawn_37 rfl hl (by decide) rfl (fun ls hl => ?_)
  refine lv_lload_n hx hb dX4_drawn_38 rfl (lv_at hl 0 rfl) ?_
  refine lv_lload_n hx hb dX4_drawn_39 rfl (lv_at hl 0 rfl) ?_
  refine lv_bipush (v := 27) hx hb dX4_drawn_40 (by decide) ?_
  refine lv_lushr hx hb dX4_drawn_42 rfl ?_
  refine lv_lxor hx hb dX4_drawn_43 ?_
  refine lv_ldc2 hx hb am.2.2.2.1 (amT am _ wRX4_187) dX4_drawn_44 ?_
  refine lv_lmul hx hb dX4_drawn_47 ?_
  refine lv_lstore_n (lv' := [(2, .long (dw3 (dw2 (dw1 (I 0 0).toInt64 v.toInt64)))), (0, .ref (ad 0)), (1, .int v)]) hx hb dX4_drawn_48 rfl hl (by decide) rfl (fun ls hl => ?_)
  refine lv_lload_n hx hb dX4_drawn_49 rfl (lv_at hl 0 rfl) ?_
  refine lv_lload_n hx hb dX4_drawn_50 rfl (lv_at hl 0 rfl) ?_
  refine lv_bipush (v := 31) hx hb dX4_drawn_51 (by decide) ?_
  refine lv_lushr hx hb dX4_drawn_53 rfl ?_
  refine lv_lxor hx hb dX4_drawn_54 ?_
  refine lv_lstore_n (lv' := [(2, .long (dw4 (dw3 (dw2 (dw1 (I 0 0).toInt64 v.toInt64))))), (0, .ref (ad 0)), (1, .int v)]) hx hb dX4_drawn_55 rfl hl (by decide) rfl (fun ls hl => ?_)
  refine lv_lload_n hx hb dX4_drawn_56 rfl (lv_at hl 0 rfl) ?_
  refine lv_bipush (v := 44) hx hb dX4_drawn_57 (by decide) ?_
  refine lv_lushr hx hb dX4_drawn_59 rfl ?_
  refine w_l2d hx hb dX4_drawn_60 (fun x7 hx7 => ?_)
  refine lv_ldc2d hx hb am.2.2.2.1 (amT am _ wRX4_189) dX4_drawn_61 ?_
  refine w_ddiv hd hx hb hx7 cn_k4674736413210574848 dX4_drawn_64 (fun x8 d0 hx8 hd => ?_)
  exact e_dD hd hx hb hr hlk hst hx8 dX4_drawn_65

set_option maxHeartbeats 4000000 in
set_option maxRecDepth 100000 in
theorem x_X4_drawn {l : Launch} {D : va_G} {cy ad : Nat → Nat} {I : Im} {G : Dm} {J : Jm} (hadI : adI ad) (hno : l.stackTraces = false) {v : Int32} (hv : v < 0) : kX l yX4_drawn (.code yX4_drawn cX4_drawn 4 (some .double)) (rmK 7 1 6 110) D cy ad [.ref (ad 0), .int v] I G J xIAE := by
  refine start_X hadI (by decide +kernel) (Nat.le_of_ble_eq_true rfl) ?_
  intro p e s m below meth cd am hx hb hout hlk hst ls hl
  have hl : lv_has ls 4 [(0, .ref (ad 0)), (1, .int v)] := hl
  refine lv_iload_n hx hb dX4_drawn_0 rfl (lv_at hl 1 rfl) ?_
  refine lv_if_lt (tgt := 8) hx hb dX4_drawn_1 (by decide) (fun c_1 => ?_) (fun c_1 => absurd hv c_1)
  refine lv_iconst (v := 0) hx hb dX4_drawn_8 (by decide) ?_
  exact x_call hst hout hlk (Nat.le_of_ble_eq_true rfl) (Nat.le_of_ble_eq_true rfl) (r_SX (As := [.int 0]) (rest := []) am hst hl (x_X4_need hadI hno (rfl)) kRX4_68 smX4_need ⟨rfl, rfl⟩ ⟨Nat.le_of_ble_eq_true rfl, Nat.le_of_ble_eq_true rfl⟩ rfl rfl (Nat.le_of_ble_eq_true rfl) dX4_drawn_9 ⟨Nat.le_of_ble_eq_true rfl, Nat.le_of_ble_eq_true rfl⟩)
end
section
/-! the reference: its helpers -/
def mBt (X A B : UInt64) : Bool := decide (¬ Op.cmpValue (FP.dcmp X A) CmpOp.l < 0) && decide (¬ 0 < Op.cmpValue (FP.dcmp X B) CmpOp.g)
def mOK (I : Im) : Prop := ∀ b, b < 32 → ∃ r, r ≤ 8 ∧ I 55 b = nI r
theorem mOK_u {I : Im} {c k : Nat} {v : Int32} (h : mOK I) (hc : c ≠ 55) : mOK (u2 I c k v) := fun b hb => by
  obtain ⟨r, h1, h2⟩ := h b hb
  exact ⟨r, h1, (u2_ne (fun q => hc q.1.symm)).trans h2⟩
def mCompl (I : Im) (G : Dm) (k : Nat) : Bool := decide (¬ I 55 k ≤ 0) && decide (¬ Op.cmpValue (FP.dcmp (G 56 k) 0) CmpOp.l ≤ 0)
def mSum (G : Dm) (b : Nat) : Nat → UInt64 | 0 => 0 | r + 1 => Ad (mSum G b r) (G 54 (8 * b + r))
def mTerm (I : Im) (G : Dm) (b i : Nat) : UInt64 := if i = 0 then 4607182418800017408 else if i = 2 then Sb 4607182418800017408 (G 57 b) else Dv (Ad (Dv (mSum G b (I 55 b).toNatClampNeg) (FP.i2d (I 55 b))) (G 56 b)) 4611686018427387904
def ma1 (I : Im) (b i : Nat) (G : Dm) : Nat → Dm | 0 => G | j + 1 => u2 (ma1 I b i G j) 61 (3 * i + j) (Ad (ma1 I b i G j 61 (3 * i + j)) (Mu (mTerm I (ma1 I b i G j) b i) (mTerm I (ma1 I b i G j) b j)))
def ma0 (I : Im) (b : Nat) (G : Dm) : Nat → Dm | 0 => G | i + 1 => u2 (ma1 I b i (ma0 I b G i) 3) 62 i (Ad (ma1 I b i (ma0 I b G i) 3 62 i) (Mu (mTerm I (ma1 I b i (ma0 I b G i) 3) b i) (ma1 I b i (ma0 I b G i) 3 58 b)))
def mTold (I : Im) (G : Dm) (b : Nat) (c0 c1 c2 : UInt64) : UInt64 := Ad (Ad (Mu c0 (mTerm I G b 0)) (Mu c1 (mTerm I G b 1))) (Mu c2 (mTerm I G b 2))
theorem nI_lin (i j : Nat) : (3 : Int32) * nI i + nI j = nI (3 * i + j) := by rw [show (3 : Int32) = nI 3 from rfl, pk_mul, nI_add]
theorem nI_lin8 (i j : Nat) : (8 : Int32) * nI i + nI j = nI (8 * i + j) := by rw [show (8 : Int32) = nI 8 from rfl, pk_mul, nI_add]
theorem nI_4 (i : Nat) : (4 : Int32) * nI i = nI (4 * i) := by rw [show (4 : Int32) = nI 4 from rfl, pk_mul]
set_option maxHeartbeats 4000000 in
set_option maxRecDepth 100000 in
theorem k_X5_thrown {l : Launch} {D : va_G} {cy ad : Nat → Nat} {I : Im} {G : Dm} {J : Jm} (hadI : adI ad)  : kM l yX5_thrown (.code yX5_thrown cX5_thrown 1 (some .int)) (rmK 0 0 0 0) D cy ad [.ref (ad 53)] I G J (qI D cy ad (I 53 0) I G J) := by
  refine start_M hadI (by decide +kernel) (Nat.le_of_ble_eq_true rfl) ?_
  intro p e s m below meth cd am hx hb hr hlk hst ls hl
  have hl : lv_has ls 1 [(0, .ref (ad 53))] := hl
  refine lv_aload_n hx hb dX5_thrown_0 rfl (lv_at hl 0 rfl) ?_
  refine w_getI am hst (k := 0) (by decide) (fun _ _ _ => cE_M) rfl inT5 (by decide) (fun _ _ _ => rfl) fRX5_73 dX5_thrown_1 ?_
  exact e_i hx hb hr hlk hst rfl rfl dX5_thrown_4

set_option maxHeartbeats 4000000 in
set_option maxRecDepth 100000 in
theorem k_X5_between {l : Launch} {D : va_G} {cy ad : Nat → Nat} {I : Im} {G : Dm} {J : Jm} (hadI : adI ad) {x X a A b B : UInt64} (hxX : cn x = X) (haA : cn a = A) (hbB : cn b = B) : kM l yX5_between (.code yX5_between cX5_between 6 (some .boolean)) (rmK 0 0 0 0) D cy ad [.double x, .double a, .double b] I G J (qI D cy ad (zB (mBt X A B)) I G J) := by
  refine start_M hadI (by decide +kernel) (Nat.le_of_ble_eq_true rfl) ?_
  intro p e s m below meth cd am hx hb hr hlk hst ls hl
  have hl : lv_has ls 6 [(0, .double x), (2, .double a), (4, .double b)] := hl
  refine lv_dload_n hx hb dX5_between_0 rfl (lv_at hl 0 rfl) ?_
  refine lv_dload_n hx hb dX5_between_1 rfl (lv_at hl 1 rfl) ?_
  refine w_dcmp hx hb hxX haA dX5_between_2 ?_
  refine lv_if_lt (tgt := 17) hx hb dX5_between_3 (by decide) (fun c_3 => ?_) (fun c_3 => ?_)
  · skip
    refine lv_iconst (v := 0) hx hb dX5_between_17 (by decide) ?_
    exact e_i hx hb hr hlk hst rfl (by simp only [mBt, zB, c_3, not_true_eq_false, not_false_eq_true, decide_true, decide_false, Bool.true_and, Bool.false_and, Bool.and_true, Bool.and_false, Bool.and_self, if_true, if_false, ite_true, ite_false, reduceIte, Bool.false_eq_true]) dX5_between_18
  · skip
    refine lv_dload_n hx hb dX5_between_6 rfl (lv_at hl 0 rfl) ?_
    refine lv_dload hx hb dX5_between_7 (lv_at hl 2 rfl) ?_
    refine w_dcmp hx hb hxX hbB dX5_between_9 ?_
    refine lv_if_gt (tgt := 17) hx hb dX5_between_10 (by decide) (fun c_10 => ?_) (fun c_10 => ?_)
    · skip
      refine lv_iconst (v := 0) hx hb dX5_between_17 (by decide) ?_
      exact e_i hx hb hr hlk hst rfl (by simp only [mBt, zB, c_3, c_10, not_true_eq_false, not_false_eq_true, decide_true, decide_false, Bool.true_and, Bool.false_and, Bool.and_true, Bool.and_false, Bool.and_self, if_true, if_false, ite_true, ite_false, reduceIte, Bool.false_eq_true]) dX5_between_18
    · skip
      refine lv_iconst (v := 1) hx hb dX5_between_13 (by decide) ?_
      refine lv_goto (tgt := 18) hx hb dX5_between_14 (by decide) ?_
      exact e_i hx hb hr hlk hst rfl (by simp only [mBt, zB, c_3, c_10, not_true_eq_false, not_false_eq_true, decide_true, decide_false, Bool.true_and, Bool.false_and, Bool.and_true, Bool.and_false, Bool.and_self, if_true, if_false, ite_true, ite_false, reduceIte, Bool.false_eq_true]) dX5_between_18

set_option maxHeartbeats 4000000 in
set_option maxRecDepth 100000 in
theorem k_X5_noBoard {l : Launch} {D : va_G} {cy ad : Nat → Nat} {I : Im} {G : Dm} {J : Jm} (hadI : adI ad) {n k : Nat} (hn : I 53 2 = nI n) (hk : k < n) (hn2 : n ≤ 32) : kM l yX5_noBoard (.code yX5_noBoard cX5_noBoard 2 (some .boolean)) (rmK 0 0 0 0) D cy ad [.ref (ad 53), .int (nI k)] I G J (qI D cy ad 0 I G J) := by
  refine start_M hadI (by decide +kernel) (Nat.le_of_ble_eq_true rfl) ?_
  intro p e s m below meth cd am hx hb hr hlk hst ls hl
  have hl : lv_has ls 2 [(0, .ref (ad 53)), (1, .int (nI k))] := hl
  refine lv_iload_n hx hb dX5_noBoard_0 rfl (lv_at hl 1 rfl) ?_
  refine lv_if_lt (tgt := 12) hx hb dX5_noBoard_1 (by decide) (fun c_1 => absurd c_1 (nI_pos (by omega))) (fun c_1 => ?_)
  refine lv_iload_n hx hb dX5_noBoard_4 rfl (lv_at hl 1 rfl) ?_
  refine lv_aload_n hx hb dX5_noBoard_5 rfl (lv_at hl 0 rfl) ?_
  refine w_getI am hst (k := 2) (by decide) (fun _ _ _ => cE_M) rfl inT5 (by decide) (fun _ _ _ => rfl) fRX5_76 dX5_noBoard_6 ?_
  refine lv_icmp_lt (tgt := 16) hx hb dX5_noBoard_9 (by decide) (fun c_9 => ?_) (fun c_9 => absurd ((by rw [hn]; exact nI_lt hk (by omega))) c_9)
  refine lv_iconst (v := 0) hx hb dX5_noBoard_16 (by decide) ?_
  exact e_i hx hb hr hlk hst rfl rfl dX5_noBoard_17

set_option maxHeartbeats 4000000 in
set_option maxRecDepth 100000 in
theorem x_X5_noBoard {l : Launch} {D : va_G} {cy ad : Nat → Nat} {I : Im} {G : Dm} {J : Jm} (hadI : adI ad) {v : Int32} (hv : v < 0 ∨ ¬ v < I 53 2) : kM l yX5_noBoard (.code yX5_noBoard cX5_noBoard 2 (some .boolean)) (rmK 0 0 0 0) D cy ad [.ref (ad 53), .int v] I G J (qI D cy ad 1 I G J) := by
  refine start_M hadI (by decide +kernel) (Nat.le_of_ble_eq_true rfl) ?_
  intro p e s m below meth cd am hx hb hr hlk hst ls hl
  have hl : lv_has ls 2 [(0, .ref (ad 53)), (1, .int v)] := hl
  refine lv_iload_n hx hb dX5_noBoard_0 rfl (lv_at hl 1 rfl) ?_
  refine lv_if_lt (tgt := 12) hx hb dX5_noBoard_1 (by decide) (fun c_1 => ?_) (fun c_1 => ?_)
  · skip
    refine lv_iconst (v := 1) hx hb dX5_noBoard_12 (by decide) ?_
    refine lv_goto (tgt := 17) hx hb dX5_noBoard_13 (by decide) ?_
    exact e_i hx hb hr hlk hst rfl rfl dX5_noBoard_17
  · skip
    refine lv_iload_n hx hb dX5_noBoard_4 rfl (lv_at hl 1 rfl) ?_
    refine lv_aload_n hx hb dX5_noBoard_5 rfl (lv_at hl 0 rfl) ?_
    refine w_getI am hst (k := 2) (by decide) (fun _ _ _ => cE_M) rfl inT5 (by decide) (fun _ _ _ => rfl) fRX5_76 dX5_noBoard_6 ?_
    refine lv_icmp_lt (tgt := 16) hx hb dX5_noBoard_9 (by decide) (fun c_9 => absurd c_9 (hv.resolve_left c_1)) (fun c_9 => ?_)
    refine lv_iconst (v := 1) hx hb dX5_noBoard_12 (by decide) ?_
    refine lv_goto (tgt := 17) hx hb dX5_noBoard_13 (by decide) ?_
    exact e_i hx hb hr hlk hst rfl rfl dX5_noBoard_17

set_option maxHeartbeats 4000000 in
set_option maxRecDepth 100000 in
theorem k_X5_isComplete {l : Launch} {D : va_G} {cy ad : Nat → Nat} {I : Im} {G : Dm} {J : Jm} (hadI : adI ad) {k : Nat} (hk : k < 32) : kM l yX5_isComplete (.code yX5_isComplete cX5_isComplete 2 (some .boolean)) (rmK 0 0 0 0) D cy ad [.ref (ad 53), .int (nI k)] I G J (qI D cy ad (zB (mCompl I G k)) I G J) := by
  refine start_M hadI (by decide +kernel) (Nat.le_of_ble_eq_true rfl) ?_
  intro p e s m below meth cd am hx hb hr hlk hst ls hl
  have hl : lv_has ls 2 [(0, .ref (ad 53)), (1, .int (nI k))] := hl
  refine lv_aload_n hx hb dX5_isComplete_0 rfl (lv_at hl 0 rfl) ?_
  refine w_getR am hst (k := 4) (b := ad 55) (by decide) (fun _ _ _ => cE_M) rfl inT5 (by decide) (fun _ _ _ => rfl) fRX5_13 dX5_isComplete_1 ?_
  refine lv_iload_n hx hb dX5_isComplete_4 rfl (lv_at hl 1 rfl) ?_
  refine w_iald am hst (by decide) (fun _ _ _ => cE_55) (n := k) (nI_clamp (by omega)) (vp_in_nI (by omega) (by decide)) dX5_isComplete_5 ?_
  refine lv_if_le (tgt := 24) hx hb dX5_isComplete_6 (by decide) (fun c_6 => ?_) (fun c_6 => ?_)
  · skip
    refine lv_iconst (v := 0) hx hb dX5_isComplete_24 (by decide) ?_
    exact e_i hx hb hr hlk hst rfl (by simp only [mCompl, zB, c_6, not_true_eq_false, not_false_eq_true, decide_true, decide_false, Bool.true_and, Bool.false_and, Bool.and_true, Bool.and_false, Bool.and_self, if_true, if_false, ite_true, ite_false, reduceIte, Bool.false_eq_true]) dX5_isComplete_25
  · skip
    refine lv_aload_n hx hb dX5_isComplete_9 rfl (lv_at hl 0 rfl) ?_
    refine w_getR am hst (k := 5) (b := ad 56) (by decide) (fun _ _ _ => cE_M) rfl inT5 (by decide) (fun _ _ _ => rfl) fRX5_17 dX5_isComplete_10 ?_
    refine lv_iload_n hx hb dX5_isComplete_13 rfl (lv_at hl 1 rfl) ?_
    refine w_dald am hst (by decide) (fun _ _ _ => cE_56) (n := k) (nI_clamp (by omega)) (vp_in_nI (by omega) (by decide)) dX5_isComplete_14 (fun x1 hx1 => ?_)
    refine lv_dconst0 hx hb dX5_isComplete_15 ?_
    refine w_dcmp hx hb hx1 cn_k0 dX5_isComplete_16 ?_
    refine lv_if_le (tgt := 24) hx hb dX5_isComplete_17 (by decide) (fun c_17 => ?_) (fun c_17 => ?_)
    · skip
      refine lv_iconst (v := 0) hx hb dX5_isComplete_24 (by decide) ?_
      exact e_i hx hb hr hlk hst rfl (by simp only [mCompl, zB, c_6, c_17, not_true_eq_false, not_false_eq_true, decide_true, decide_false, Bool.true_and, Bool.false_and, Bool.and_true, Bool.and_false, Bool.and_self, if_true, if_false, ite_true, ite_false, reduceIte, Bool.false_eq_true]) dX5_isComplete_25
    · skip
      refine lv_iconst (v := 1) hx hb dX5_isComplete_20 (by decide) ?_
      refine lv_goto (tgt := 25) hx hb dX5_isComplete_21 (by decide) ?_
      exact e_i hx hb hr hlk hst rfl (by simp only [mCompl, zB, c_6, c_17, not_true_eq_false, not_false_eq_true, decide_true, decide_false, Bool.true_and, Bool.false_and, Bool.and_true, Bool.and_false, Bool.and_self, if_true, if_false, ite_true, ite_false, reduceIte, Bool.false_eq_true]) dX5_isComplete_25

set_option maxHeartbeats 4000000 in
set_option maxRecDepth 100000 in
theorem k_X5_x {l : Launch} {D : va_G} {cy ad : Nat → Nat} {I : Im} {G : Dm} {J : Jm} (hadI : adI ad) {b i : Nat} (hm : mOK I) (hb32 : b < 32) (hi3 : i < 3) : kD l yX5_x (.code yX5_x cX5_x 6 (some .double)) (rmK 0 0 0 0) D cy ad [.ref (ad 53), .int (nI b), .int (nI i)] I G J (qD D cy ad (mTerm I G b i) I G J) := by
  refine start_D hadI (by decide +kernel) (Nat.le_of_ble_eq_true rfl) ?_
  intro p e s m below meth cd am hx hb hr hlk hst ls hl d0 hd
  have hl : lv_has ls 6 [(0, .ref (ad 53)), (1, .int (nI b)), (2, .int (nI i))] := hl
  obtain ⟨r, hr8, hrc⟩ := hm b hb32
  rcases (show i = 0 ∨ i = 1 ∨ i = 2 by omega) with rfl | rfl | rfl
  · skip
    refine lv_iload_n hx hb dX5_x_0 rfl (lv_at hl 2 rfl) ?_
    refine lv_if_ne (tgt := 6) hx hb dX5_x_1 (by decide) (fun c_1 => absurd rfl c_1) (fun c_1 => ?_)
    refine lv_dconst1 hx hb dX5_x_4 ?_
    exact e_dD hd hx hb hr hlk hst (by rw [cn_k4607182418800017408]; rfl) dX5_x_5
  · skip
    refine lv_iload_n hx hb dX5_x_0 rfl (lv_at hl 2 rfl) ?_
    refine lv_if_ne (tgt := 6) hx hb dX5_x_1 (by decide) (fun c_1 => ?_) (fun c_1 => absurd c_1 ((show ¬ nI 1 = 0 by decide)))
    refine lv_iload_n hx hb dX5_x_6 rfl (lv_at hl 2 rfl) ?_
    refine lv_iconst (v := 2) hx hb dX5_x_7 (by decide) ?_
    refine lv_icmp_ne (tgt := 20) hx hb dX5_x_8 (by decide) (fun c_8 => ?_) (fun c_8 => absurd c_8 ((show ¬ nI 1 = 2 by decide)))
    refine lv_dconst0 hx hb dX5_x_20 ?_
    refine lv_dstore_n (lv' := [(3, .double FP.dconst0), (0, .ref (ad 53)), (1, .int (nI b)), (2, .int (nI 1))]) hx hb dX5_x_21 rfl hl (by decide) rfl (fun ls hl => ?_)
    refine lv_iconst (v := 0) hx hb dX5_x_22 (by decide) ?_
    refine lv_istore (lv' := [(5, .int 0), (3, .double FP.dconst0), (0, .ref (ad 53)), (1, .int (nI b)), (2, .int (nI 1))]) hx hb dX5_x_23 hl (by decide) rfl (fun ls hl => ?_)
    have lp0 : ∀ (n i : Nat), n + i = r → ∀ x : UInt64, cn x = mSum G b i → ∀ d0 : Drawn, s.drawn.sameBut d0 lw_cs → ∀ (H : Heap) (locs : List Loc), St D cy ad s.heap I G J H locs → ∀ ls, lv_has ls 6 [(0, .ref (ad 53)), (1, .int (nI b)), (2, .int (nI 1)), (3, .double x), (5, .int (nI i))] → W p l e (rmK 0 0 0 0) (s.setDrawn d0) m [.ref (ad 53), .int (nI b), .int (nI 1)].toArray below meth cd H locs 0 0 (MQD lw_cs below (qD D cy ad (mTerm I G b 1) I G J s.heap.size) [.ref (ad 53), .int (nI b), .int (nI 1)].toArray s ((rmK 0 0 0 0)).cells ((rmK 0 0 0 0)).slots (aA ad s.heap.size)) (F0 m 25 ls []) := by
      intro n
      induction n with
      | zero =>
        intro i hi x hxs d0 hd H locs hst ls hl
        obtain rfl : r = i := by omega
        refine lv_iload hx hb dX5_x_25 (lv_at hl 4 rfl) ?_
        refine lv_aload_n hx hb dX5_x_27 rfl (lv_at hl 0 rfl) ?_
        refine w_getR am hst (k := 4) (b := ad 55) (by decide) (fun _ _ _ => cE_M) rfl inT5 (by decide) (fun _ _ _ => rfl) fRX5_13 dX5_x_28 ?_
        refine lv_iload_n hx hb dX5_x_31 rfl (lv_at hl 1 rfl) ?_
        refine w_iald am hst (by decide) (fun _ _ _ => cE_55) (n := b) (nI_clamp (by omega)) (vp_in_nI (by omega) (by decide)) dX5_x_32 ?_
        rw [hrc]
        refine lv_icmp_ge (tgt := 57) hx hb dX5_x_33 (by decide) (fun c_33 => ?_) (fun c_33 => absurd ((nI_le (Nat.le_refl _) (by omega))) c_33)
        refine lv_dload_n hx hb dX5_x_57 rfl (lv_at hl 3 rfl) ?_
        refine lv_aload_n hx hb dX5_x_58 rfl (lv_at hl 0 rfl) ?_
        refine w_getR am hst (k := 4) (b := ad 55) (by decide) (fun _ _ _ => cE_M) rfl inT5 (by decide) (fun _ _ _ => rfl) fRX5_13 dX5_x_59 ?_
        refine lv_iload_n hx hb dX5_x_62 rfl (lv_at hl 1 rfl) ?_
        refine w_iald am hst (by decide) (fun _ _ _ => cE_55) (n := b) (nI_clamp (by omega)) (vp_in_nI (by omega) (by decide)) dX5_x_63 ?_
        rw [hrc]
        refine w_i2d hx hb dX5_x_64 (fun x1 hx1 => ?_)
        refine w_ddiv hd hx hb hxs hx1 dX5_x_65 (fun x2 d0 hx2 hd => ?_)
        refine lv_aload_n hx hb dX5_x_66 rfl (lv_at hl 0 rfl) ?_
        refine w_getR am hst (k := 5) (b := ad 56) (by decide) (fun _ _ _ => cE_M) rfl inT5 (by decide) (fun _ _ _ => rfl) fRX5_17 dX5_x_67 ?_
        refine lv_iload_n hx hb dX5_x_70 rfl (lv_at hl 1 rfl) ?_
        refine w_dald am hst (by decide) (fun _ _ _ => cE_56) (n := b) (nI_clamp (by omega)) (vp_in_nI (by omega) (by decide)) dX5_x_71 (fun x3 hx3 => ?_)
        refine w_dadd hd hx hb hx2 hx3 dX5_x_72 (fun x4 d0 hx4 hd => ?_)
        refine lv_ldc2d hx hb am.2.2.2.1 (amT am _ wRX5_93) dX5_x_73 ?_
        refine w_ddiv hd hx hb hx4 cn_k4611686018427387904 dX5_x_76 (fun x5 d0 hx5 hd => ?_)
        exact e_dD hd hx hb hr hlk hst (by rw [hx5]; unfold mTerm; rw [if_neg (by decide), if_neg (by decide), hrc, nI_clamp (by omega)]) dX5_x_77
      | succ n ih_lp0 =>
        intro i hi x hxs d0 hd H locs hst ls hl
        refine lv_iload hx hb dX5_x_25 (lv_at hl 4 rfl) ?_
        refine lv_aload_n hx hb dX5_x_27 rfl (lv_at hl 0 rfl) ?_
        refine w_getR am hst (k := 4) (b := ad 55) (by decide) (fun _ _ _ => cE_M) rfl inT5 (by decide) (fun _ _ _ => rfl) fRX5_13 dX5_x_28 ?_
        refine lv_iload_n hx hb dX5_x_31 rfl (lv_at hl 1 rfl) ?_
        refine w_iald am hst (by decide) (fun _ _ _ => cE_55) (n := b) (nI_clamp (by omega)) (vp_in_nI (by omega) (by decide)) dX5_x_32 ?_
        rw [hrc]
        refine lv_icmp_ge (tgt := 57) hx hb dX5_x_33 (by decide) (fun c_33 => absurd c_33 ((nI_ge (by omega) (by omega)))) (fun c_33 => ?_)
        refine lv_dload_n hx hb dX5_x_36 rfl (lv_at hl 3 rfl) ?_
        refine lv_aload_n hx hb dX5_x_37 rfl (lv_at hl 0 rfl) ?_
        refine w_getR am hst (k := 3) (b := ad 54) (by decide) (fun _ _ _ => cE_M) rfl inT5 (by decide) (fun _ _ _ => rfl) fRX5_7 dX5_x_38 ?_
        refine lv_bipush (v := 8) hx hb dX5_x_41 (by decide) ?_
        refine lv_iload_n hx hb dX5_x_43 rfl (lv_at hl 1 rfl) ?_
        refine lv_imul hx hb dX5_x_44 ?_
        refine lv_iload hx hb dX5_x_45 (lv_at hl 4 rfl) ?_
        refine lv_iadd hx hb dX5_x_47 ?_
        rw [nI_lin8]
        refine w_dald am hst (by decide) (fun _ _ _ => cE_54) (n := 8 * b + i) (nI_clamp (by omega)) (vp_in_nI (by omega) (by decide)) dX5_x_48 (fun x6 hx6 => ?_)
        refine w_dadd hd hx hb hxs hx6 dX5_x_49 (fun x7 d0 hx7 hd => ?_)
        refine lv_dstore_n (lv' := [(3, .double x7), (0, .ref (ad 53)), (1, .int (nI b)), (2, .int (nI 1)), (5, .int (nI i))]) hx hb dX5_x_50 rfl hl (by decide) rfl (fun ls hl => ?_)
        refine lv_iinc (v := nI (i + 1)) (lv' := [(5, .int (nI (i + 1))), (3, .double x7), (0, .ref (ad 53)), (1, .int (nI b)), (2, .int (nI 1))]) hx hb dX5_x_51 hl (k := 4) rfl (nI_1 i) (by decide) rfl (fun ls hl => ?_)
        refine lv_goto (tgt := 25) hx hb dX5_x_54 (by decide) ?_
        exact ih_lp0 (i + 1) (by omega) _ hx7 d0 hd _ _ hst ls (lv_sub hl [2, 3, 4, 1, 0] rfl)
    exact lp0 r 0 (by omega) _ cn_k0 d0 hd _ _ hst ls (lv_sub hl [2, 3, 4, 1, 0] rfl)
  · skip
    refine lv_iload_n hx hb dX5_x_0 rfl (lv_at hl 2 rfl) ?_
    refine lv_if_ne (tgt := 6) hx hb dX5_x_1 (by decide) (fun c_1 => ?_) (fun c_1 => absurd c_1 ((show ¬ nI 2 = 0 by decide)))
    refine lv_iload_n hx hb dX5_x_6 rfl (lv_at hl 2 rfl) ?_
    refine lv_iconst (v := 2) hx hb dX5_x_7 (by decide) ?_
    refine lv_icmp_ne (tgt := 20) hx hb dX5_x_8 (by decide) (fun c_8 => absurd rfl c_8) (fun c_8 => ?_)
    refine lv_dconst1 hx hb dX5_x_11 ?_
    refine lv_aload_n hx hb dX5_x_12 rfl (lv_at hl 0 rfl) ?_
    refine w_getR am hst (k := 6) (b := ad 57) (by decide) (fun _ _ _ => cE_M) rfl inT5 (by decide) (fun _ _ _ => rfl) fRX5_20 dX5_x_13 ?_
    refine lv_iload_n hx hb dX5_x_16 rfl (lv_at hl 1 rfl) ?_
    refine w_dald am hst (by decide) (fun _ _ _ => cE_57) (n := b) (nI_clamp (by omega)) (vp_in_nI (by omega) (by decide)) dX5_x_17 (fun x1 hx1 => ?_)
    refine w_dsub hd hx hb cn_k4607182418800017408 hx1 dX5_x_18 (fun x2 d0 hx2 hd => ?_)
    exact e_dD hd hx hb hr hlk hst (by rw [hx2]; rfl) dX5_x_19

set_option maxHeartbeats 4000000 in
set_option maxRecDepth 100000 in
theorem k_X5_told {l : Launch} {D : va_G} {cy ad : Nat → Nat} {I : Im} {G : Dm} {J : Jm} (hadI : adI ad) {b : Nat} {c0 c1 c2 C0 C1 C2 : UInt64} (hm : mOK I) (hb : b < 32) (hc0 : cn c0 = C0) (hc1 : cn c1 = C1) (hc2 : cn c2 = C2) : kD l yX5_told (.code yX5_told cX5_told 8 (some .double)) (rmK 1 0 0 25) D cy ad [.ref (ad 53), .int (nI b), .double c0, .double c1, .double c2] I G J (qD D cy ad (mTold I G b C0 C1 C2) I G J) := by
  refine start_D hadI (by decide +kernel) (Nat.le_of_ble_eq_true rfl) ?_
  intro p e s m below meth cd am hx hb hr hlk hst ls hl d0 hd
  have hl : lv_has ls 8 [(0, .ref (ad 53)), (1, .int (nI b)), (2, .double c0), (4, .double c1), (6, .double c2)] := hl
  refine lv_dload_n hx hb dX5_told_0 rfl (lv_at hl 2 rfl) ?_
  refine lv_aload_n hx hb dX5_told_1 rfl (lv_at hl 0 rfl) ?_
  refine lv_iload_n hx hb dX5_told_2 rfl (lv_at hl 1 rfl) ?_
  refine lv_iconst (v := 0) hx hb dX5_told_3 (by decide) ?_
  refine c_dD hd hst (r_VD (As := [.int (nI b), .int (nI 0)]) (rest := [.double c0]) am hst hl (k_X5_x hadI (b := b) (i := 0) hm (by omega) (by omega)) kRX5_95 imX5_x slX5_x ⟨Nat.le_of_ble_eq_true rfl, Nat.le_of_ble_eq_true rfl⟩ (by decide) (fun _ _ _ => cE_M) rfl rfl rfl (Nat.le_of_ble_eq_true rfl) dX5_told_4 ⟨Nat.le_of_ble_eq_true rfl, Nat.le_of_ble_eq_true rfl⟩) (fun x1 d0 H locs hx1 hd hst => ?_)
  refine w_dmul hd hx hb hc0 hx1 dX5_told_7 (fun x2 d0 hx2 hd => ?_)
  refine lv_dload hx hb dX5_told_8 (lv_at hl 3 rfl) ?_
  refine lv_aload_n hx hb dX5_told_10 rfl (lv_at hl 0 rfl) ?_
  refine lv_iload_n hx hb dX5_told_11 rfl (lv_at hl 1 rfl) ?_
  refine lv_iconst (v := 1) hx hb dX5_told_12 (by decide) ?_
  refine c_dD hd hst (r_VD (As := [.int (nI b), .int (nI 1)]) (rest := [.double c1, .double x2]) am hst hl (k_X5_x hadI (b := b) (i := 1) hm (by omega) (by omega)) kRX5_95 imX5_x slX5_x ⟨Nat.le_of_ble_eq_true rfl, Nat.le_of_ble_eq_true rfl⟩ (by decide) (fun _ _ _ => cE_M) rfl rfl rfl (Nat.le_of_ble_eq_true rfl) dX5_told_13 ⟨Nat.le_of_ble_eq_true rfl, Nat.le_of_ble_eq_true rfl⟩) (fun x3 d0 H locs hx3 hd hst => ?_)
  refine w_dmul hd hx hb hc1 hx3 dX5_told_16 (fun x4 d0 hx4 hd => ?_)
  refine w_dadd hd hx hb hx2 hx4 dX5_told_17 (fun x5 d0 hx5 hd => ?_)
  refine lv_dload hx hb dX5_told_18 (lv_at hl 4 rfl) ?_
  refine lv_aload_n hx hb dX5_told_20 rfl (lv_at hl 0 rfl) ?_
  refine lv_iload_n hx hb dX5_told_21 rfl (lv_at hl 1 rfl) ?_
  refine lv_iconst (v := 2) hx hb dX5_told_22 (by decide) ?_
  refine c_dD hd hst (r_VD (As := [.int (nI b), .int (nI 2)]) (rest := [.double c2, .double x5]) am hst hl (k_X5_x hadI (b := b) (i := 2) hm (by omega) (by omega)) kRX5_95 imX5_x slX5_x ⟨Nat.le_of_ble_eq_true rfl, Nat.le_of_ble_eq_true rfl⟩ (by decide) (fun _ _ _ => cE_M) rfl rfl rfl (Nat.le_of_ble_eq_true rfl) dX5_told_23 ⟨Nat.le_of_ble_eq_true rfl, Nat.le_of_ble_eq_true rfl⟩) (fun x6 d0 H locs hx6 hd hst => ?_)
  refine w_dmul hd hx hb hc2 hx6 dX5_told_26 (fun x7 d0 hx7 hd => ?_)
  refine w_dadd hd hx hb hx5 hx7 dX5_told_27 (fun x8 d0 hx8 hd => ?_)
  exact e_dD hd hx hb hr hlk hst hx8 dX5_told_28

set_option maxHeartbeats 4000000 in
set_option maxRecDepth 100000 in
theorem k_X5_power {l : Launch} {D : va_G} {cy ad : Nat → Nat} {I : Im} {G : Dm} {J : Jm} (hadI : adI ad) {b : Int64} {N : Nat} (hN : N < 100) : kM l yX5_power (.code yX5_power cX5_power 6 (some .long)) (rmK 0 0 0 0) D cy ad [.long b, .int (nI N)] I G J (qL D cy ad (powL b N) I G J) := by
  refine start_M hadI (by decide +kernel) (Nat.le_of_ble_eq_true rfl) ?_
  intro p e s m below meth cd am hx hb hr hlk hst ls hl
  have hl : lv_has ls 6 [(0, .long b), (2, .int (nI N))] := hl
  refine lv_lconst (v := 1) hx hb dX5_power_0 (by decide) ?_
  refine lv_lstore_n (lv' := [(3, .long 1), (0, .long b), (2, .int (nI N))]) hx hb dX5_power_1 rfl hl (by decide) rfl (fun ls hl => ?_)
  refine lv_iconst (v := 0) hx hb dX5_power_2 (by decide) ?_
  refine lv_istore (lv' := [(5, .int 0), (3, .long 1), (0, .long b), (2, .int (nI N))]) hx hb dX5_power_3 hl (by decide) rfl (fun ls hl => ?_)
  have lp0 : ∀ (n i : Nat), n + i = N → ∀ (H : Heap) (locs : List Loc), St D cy ad s.heap I G J H locs → ∀ ls, lv_has ls 6 [(0, .long b), (2, .int (nI N)), (3, .long (powL b i)), (5, .int (nI i))] → W p l e (rmK 0 0 0 0) (s.setDrawn s.drawn) m [.long b, .int (nI N)].toArray below meth cd H locs 0 0 (MQ below (qL D cy ad (powL b N) I G J s.heap.size) [.long b, .int (nI N)].toArray s ((rmK 0 0 0 0)).cells ((rmK 0 0 0 0)).slots (aA ad s.heap.size)) (F0 m 5 ls []) := by
    intro n
    induction n with
    | zero =>
      intro i hi H locs hst ls hl
      obtain rfl : N = i := by omega
      refine lv_iload hx hb dX5_power_5 (lv_at hl 3 rfl) ?_
      refine lv_iload_n hx hb dX5_power_7 rfl (lv_at hl 1 rfl) ?_
      refine lv_icmp_ge (tgt := 21) hx hb dX5_power_8 (by decide) (fun c_8 => ?_) (fun c_8 => absurd ((nI_le (Nat.le_refl _) (by omega))) c_8)
      refine lv_lload_n hx hb dX5_power_21 rfl (lv_at hl 2 rfl) ?_
      exact e_l hx hb hr hlk hst rfl dX5_power_22
    | succ n ih_lp0 =>
      intro i hi H locs hst ls hl
      refine lv_iload hx hb dX5_power_5 (lv_at hl 3 rfl) ?_
      refine lv_iload_n hx hb dX5_power_7 rfl (lv_at hl 1 rfl) ?_
      refine lv_icmp_ge (tgt := 21) hx hb dX5_power_8 (by decide) (fun c_8 => absurd c_8 ((nI_ge (by omega) (by omega)))) (fun c_8 => ?_)
      refine lv_lload_n hx hb dX5_power_11 rfl (lv_at hl 2 rfl) ?_
      refine lv_lload_n hx hb dX5_power_12 rfl (lv_at hl 0 rfl) ?_
      refine lv_lmul hx hb dX5_power_13 ?_
      refine lv_lstore_n (lv' := [(3, .long ((powL b i) * b)), (0, .long b), (2, .int (nI N)), (5, .int (nI i))]) hx hb dX5_power_14 rfl hl (by decide) rfl (fun ls hl => ?_)
      refine lv_iinc (v := nI (i + 1)) (lv' := [(5, .int (nI (i + 1))), (3, .long ((powL b i) * b)), (0, .long b), (2, .int (nI N))]) hx hb dX5_power_15 hl (k := 3) rfl (nI_1 i) (by decide) rfl (fun ls hl => ?_)
      refine lv_goto (tgt := 5) hx hb dX5_power_18 (by decide) ?_
      exact ih_lp0 (i + 1) (by omega) _ _ hst ls (lv_sub hl [2, 3, 1, 0] rfl)
  exact lp0 N 0 (by omega) _ _ hst ls (lv_sub hl [2, 3, 1, 0] rfl)

set_option maxHeartbeats 4000000 in
set_option maxRecDepth 100000 in
theorem k_X5_add {l : Launch} {D : va_G} {cy ad : Nat → Nat} {I : Im} {G : Dm} {J : Jm} (hadI : adI ad) {b : Nat} (hm : mOK I) (hb : b < 32) : kD l yX5_add (.code yX5_add cX5_add 4 none) (rmK 1 0 0 25) D cy ad [.ref (ad 53), .int (nI b)] I G J (qV D cy ad I (ma0 I b G 3) J) := by
  refine start_D hadI (by decide +kernel) (Nat.le_of_ble_eq_true rfl) ?_
  intro p e s m below meth cd am hx hb hr hlk hst ls hl d0 hd
  have hl : lv_has ls 4 [(0, .ref (ad 53)), (1, .int (nI b))] := hl
  refine lv_iconst (v := 0) hx hb dX5_add_0 (by decide) ?_
  refine lv_istore_n (lv' := [(2, .int 0), (0, .ref (ad 53)), (1, .int (nI b))]) hx hb dX5_add_1 rfl hl (by decide) rfl (fun ls hl => ?_)
  have lp0 : ∀ (n i : Nat), n + i = 3 → ∀ d0 : Drawn, s.drawn.sameBut d0 lw_cs → ∀ (H : Heap) (locs : List Loc), St D cy ad s.heap I (ma0 I b G i) J H locs → ∀ ls, lv_has ls 4 [(0, .ref (ad 53)), (1, .int (nI b)), (2, .int (nI i))] → W p l e (rmK 1 0 0 25) (s.setDrawn d0) m [.ref (ad 53), .int (nI b)].toArray below meth cd H locs 0 0 (MQD lw_cs below (qV D cy ad I (ma0 I b G 3) J s.heap.size) [.ref (ad 53), .int (nI b)].toArray s ((rmK 1 0 0 25)).cells ((rmK 1 0 0 25)).slots (aA ad s.heap.size)) (F0 m 2 ls []) := by
    intro n
    induction n with
    | zero =>
      intro i hi d0 hd H locs hst ls hl
      obtain rfl : 3 = i := by omega
      refine lv_iload_n hx hb dX5_add_2 rfl (lv_at hl 2 rfl) ?_
      refine lv_iconst (v := 3) hx hb dX5_add_3 (by decide) ?_
      refine lv_icmp_ge (tgt := 86) hx hb dX5_add_4 (by decide) (fun c_4 => ?_) (fun c_4 => absurd ((show (3 : Int32) ≤ nI 3 by decide)) c_4)
      exact e_vD hd hx hb hr hlk hst dX5_add_86
    | succ n ih_lp0 =>
      intro i hi d0 hd H locs hst ls hl
      refine lv_iload_n hx hb dX5_add_2 rfl (lv_at hl 2 rfl) ?_
      refine lv_iconst (v := 3) hx hb dX5_add_3 (by decide) ?_
      refine lv_icmp_ge (tgt := 86) hx hb dX5_add_4 (by decide) (fun c_4 => absurd c_4 ((nI_ge (b := 3) (by omega) (by decide)))) (fun c_4 => ?_)
      refine lv_iconst (v := 0) hx hb dX5_add_7 (by decide) ?_
      refine lv_istore_n (lv' := [(3, .int 0), (0, .ref (ad 53)), (1, .int (nI b)), (2, .int (nI i))]) hx hb dX5_add_8 rfl hl (by decide) rfl (fun ls hl => ?_)
      have lp1 : ∀ (n j : Nat), n + j = 3 → ∀ d0 : Drawn, s.drawn.sameBut d0 lw_cs → ∀ (H : Heap) (locs : List Loc), St D cy ad s.heap I (ma1 I b i (ma0 I b G i) j) J H locs → ∀ ls, lv_has ls 4 [(0, .ref (ad 53)), (1, .int (nI b)), (2, .int (nI i)), (3, .int (nI j))] → W p l e (rmK 1 0 0 25) (s.setDrawn d0) m [.ref (ad 53), .int (nI b)].toArray below meth cd H locs 0 0 (MQD lw_cs below (qV D cy ad I (ma0 I b G 3) J s.heap.size) [.ref (ad 53), .int (nI b)].toArray s ((rmK 1 0 0 25)).cells ((rmK 1 0 0 25)).slots (aA ad s.heap.size)) (F0 m 9 ls []) := by
        intro n
        induction n with
        | zero =>
          intro j hi d0 hd H locs hst ls hl
          obtain rfl : 3 = j := by omega
          refine lv_iload_n hx hb dX5_add_9 rfl (lv_at hl 3 rfl) ?_
          refine lv_iconst (v := 3) hx hb dX5_add_10 (by decide) ?_
          refine lv_icmp_ge (tgt := 54) hx hb dX5_add_11 (by decide) (fun c_11 => ?_) (fun c_11 => absurd ((show (3 : Int32) ≤ nI 3 by decide)) c_11)
          refine lv_aload_n hx hb dX5_add_54 rfl (lv_at hl 0 rfl) ?_
          refine w_getR am hst (k := 11) (b := ad 62) (by decide) (fun _ _ _ => cE_M) rfl inT5 (by decide) (fun _ _ _ => rfl) fRX5_36 dX5_add_55 ?_
          refine lv_iload_n hx hb dX5_add_58 rfl (lv_at hl 2 rfl) ?_
          refine lv_aload_n hx hb dX5_add_59 rfl (lv_at hl 0 rfl) ?_
          refine w_getR am hst (k := 11) (b := ad 62) (by decide) (fun _ _ _ => cE_M) rfl inT5 (by decide) (fun _ _ _ => rfl) fRX5_36 dX5_add_60 ?_
          refine lv_iload_n hx hb dX5_add_63 rfl (lv_at hl 2 rfl) ?_
          refine w_dald am hst (by decide) (fun _ _ _ => cE_62) (n := i) (nI_clamp (by omega)) (vp_in_nI (by omega) (by decide)) dX5_add_64 (fun x1 hx1 => ?_)
          refine lv_aload_n hx hb dX5_add_65 rfl (lv_at hl 0 rfl) ?_
          refine lv_iload_n hx hb dX5_add_66 rfl (lv_at hl 1 rfl) ?_
          refine lv_iload_n hx hb dX5_add_67 rfl (lv_at hl 2 rfl) ?_
          refine c_dD hd hst (r_VD (As := [.int (nI b), .int (nI i)]) (rest := [.double x1, .int (nI i), .ref (ad 62)]) am hst hl (k_X5_x hadI (b := b) (i := i) hm (by omega) (by omega)) kRX5_95 imX5_x slX5_x ⟨Nat.le_of_ble_eq_true rfl, Nat.le_of_ble_eq_true rfl⟩ (by decide) (fun _ _ _ => cE_M) rfl rfl rfl (Nat.le_of_ble_eq_true rfl) dX5_add_68 ⟨Nat.le_of_ble_eq_true rfl, Nat.le_of_ble_eq_true rfl⟩) (fun x2 d0 H locs hx2 hd hst => ?_)
          refine lv_aload_n hx hb dX5_add_71 rfl (lv_at hl 0 rfl) ?_
          refine w_getR am hst (k := 7) (b := ad 58) (by decide) (fun _ _ _ => cE_M) rfl inT5 (by decide) (fun _ _ _ => rfl) fRX5_23 dX5_add_72 ?_
          refine lv_iload_n hx hb dX5_add_75 rfl (lv_at hl 1 rfl) ?_
          refine w_dald am hst (by decide) (fun _ _ _ => cE_58) (n := b) (nI_clamp (by omega)) (vp_in_nI (by omega) (by decide)) dX5_add_76 (fun x3 hx3 => ?_)
          refine w_dmul hd hx hb hx2 hx3 dX5_add_77 (fun x4 d0 hx4 hd => ?_)
          refine w_dadd hd hx hb hx1 hx4 dX5_add_78 (fun x5 d0 hx5 hd => ?_)
          refine w_dast am hst hx5 (by decide) (fun _ _ _ => cE_62) (n := i) (nI_clamp (by omega)) (vp_in_nI (by omega) (by decide)) dX5_add_79 (fun H locs hst => ?_)
          refine lv_iinc (v := nI (i + 1)) (lv' := [(2, .int (nI (i + 1))), (0, .ref (ad 53)), (1, .int (nI b)), (3, .int (nI 3))]) hx hb dX5_add_80 hl (k := 2) rfl (nI_1 i) (by decide) rfl (fun ls hl => ?_)
          refine lv_goto (tgt := 2) hx hb dX5_add_83 (by decide) ?_
          exact ih_lp0 (i + 1) (by omega) d0 hd _ _ hst ls (lv_sub hl [1, 2, 0] rfl)
        | succ n ih_lp1 =>
          intro j hi d0 hd H locs hst ls hl
          refine lv_iload_n hx hb dX5_add_9 rfl (lv_at hl 3 rfl) ?_
          refine lv_iconst (v := 3) hx hb dX5_add_10 (by decide) ?_
          refine lv_icmp_ge (tgt := 54) hx hb dX5_add_11 (by decide) (fun c_11 => absurd c_11 ((nI_ge (b := 3) (by omega) (by decide)))) (fun c_11 => ?_)
          refine lv_aload_n hx hb dX5_add_14 rfl (lv_at hl 0 rfl) ?_
          refine w_getR am hst (k := 10) (b := ad 61) (by decide) (fun _ _ _ => cE_M) rfl inT5 (by decide) (fun _ _ _ => rfl) fRX5_33 dX5_add_15 ?_
          refine lv_iconst (v := 3) hx hb dX5_add_18 (by decide) ?_
          refine lv_iload_n hx hb dX5_add_19 rfl (lv_at hl 2 rfl) ?_
          refine lv_imul hx hb dX5_add_20 ?_
          refine lv_iload_n hx hb dX5_add_21 rfl (lv_at hl 3 rfl) ?_
          refine lv_iadd hx hb dX5_add_22 ?_
          rw [nI_lin]
          refine lv_aload_n hx hb dX5_add_23 rfl (lv_at hl 0 rfl) ?_
          refine w_getR am hst (k := 10) (b := ad 61) (by decide) (fun _ _ _ => cE_M) rfl inT5 (by decide) (fun _ _ _ => rfl) fRX5_33 dX5_add_24 ?_
          refine lv_iconst (v := 3) hx hb dX5_add_27 (by decide) ?_
          refine lv_iload_n hx hb dX5_add_28 rfl (lv_at hl 2 rfl) ?_
          refine lv_imul hx hb dX5_add_29 ?_
          refine lv_iload_n hx hb dX5_add_30 rfl (lv_at hl 3 rfl) ?_
          refine lv_iadd hx hb dX5_add_31 ?_
          rw [nI_lin]
          refine w_dald am hst (by decide) (fun _ _ _ => cE_61) (n := 3 * i + j) (nI_clamp (by omega)) (vp_in_nI (by omega) (by decide)) dX5_add_32 (fun x6 hx6 => ?_)
          refine lv_aload_n hx hb dX5_add_33 rfl (lv_at hl 0 rfl) ?_
          refine lv_iload_n hx hb dX5_add_34 rfl (lv_at hl 1 rfl) ?_
          refine lv_iload_n hx hb dX5_add_35 rfl (lv_at hl 2 rfl) ?_
          refine c_dD hd hst (r_VD (As := [.int (nI b), .int (nI i)]) (rest := [.double x6, .int (nI (3 * i + j)), .ref (ad 61)]) am hst hl (k_X5_x hadI (b := b) (i := i) hm (by omega) (by omega)) kRX5_95 imX5_x slX5_x ⟨Nat.le_of_ble_eq_true rfl, Nat.le_of_ble_eq_true rfl⟩ (by decide) (fun _ _ _ => cE_M) rfl rfl rfl (Nat.le_of_ble_eq_true rfl) dX5_add_36 ⟨Nat.le_of_ble_eq_true rfl, Nat.le_of_ble_eq_true rfl⟩) (fun x7 d0 H locs hx7 hd hst => ?_)
          refine lv_aload_n hx hb dX5_add_39 rfl (lv_at hl 0 rfl) ?_
          refine lv_iload_n hx hb dX5_add_40 rfl (lv_at hl 1 rfl) ?_
          refine lv_iload_n hx hb dX5_add_41 rfl (lv_at hl 3 rfl) ?_
          refine c_dD hd hst (r_VD (As := [.int (nI b), .int (nI j)]) (rest := [.double x7, .double x6, .int (nI (3 * i + j)), .ref (ad 61)]) am hst hl (k_X5_x hadI (b := b) (i := j) hm (by omega) (by omega)) kRX5_95 imX5_x slX5_x ⟨Nat.le_of_ble_eq_true rfl, Nat.le_of_ble_eq_true rfl⟩ (by decide) (fun _ _ _ => cE_M) rfl rfl rfl (Nat.le_of_ble_eq_true rfl) dX5_add_42 ⟨Nat.le_of_ble_eq_true rfl, Nat.le_of_ble_eq_true rfl⟩) (fun x8 d0 H locs hx8 hd hst => ?_)
          refine w_dmul hd hx hb hx7 hx8 dX5_add_45 (fun x9 d0 hx9 hd => ?_)
          refine w_dadd hd hx hb hx6 hx9 dX5_add_46 (fun x10 d0 hx10 hd => ?_)
          refine w_dast am hst hx10 (by decide) (fun _ _ _ => cE_61) (n := 3 * i + j) (nI_clamp (by omega)) (vp_in_nI (by omega) (by decide)) dX5_add_47 (fun H locs hst => ?_)
          refine lv_iinc (v := nI (j + 1)) (lv' := [(3, .int (nI (j + 1))), (0, .ref (ad 53)), (1, .int (nI b)), (2, .int (nI i))]) hx hb dX5_add_48 hl (k := 3) rfl (nI_1 j) (by decide) rfl (fun ls hl => ?_)
          refine lv_goto (tgt := 9) hx hb dX5_add_51 (by decide) ?_
          exact ih_lp1 (j + 1) (by omega) d0 hd _ _ hst ls (lv_sub hl [1, 2, 3, 0] rfl)
      exact lp1 3 0 (by omega) d0 hd _ _ hst ls (lv_sub hl [1, 2, 3, 0] rfl)
  exact lp0 3 0 (by omega) d0 hd _ _ hst ls (lv_sub hl [1, 2, 0] rfl)
end
