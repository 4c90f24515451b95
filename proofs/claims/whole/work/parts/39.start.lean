/-! what the start gives: the classes, the arrays' classes, the texts -/
theorem spec_AOA {t : FieldType} {s : State} (h : va_AOA t s) : ∃ (comp c : ClassId) (k : Class), s.vm.classes[c]? = some k ∧ k.kind = .array comp (.array t) ∧ s.vm.findClass ("[" ++ (FieldType.array t).toString) = some c := by
  unfold va_AOA Cond.before at h
  simp only [Cond.holds, Cond.value, beq_iff_eq] at h
  cases hc : s.vm.findClass (FieldType.array t).toString with
  | none => simp [hc] at h
  | some comp =>
    simp only [hc, Option.bind_some, Option.bind_eq_some_iff, Option.map_eq_some_iff] at h
    obtain ⟨c, hi, k, hk, hb⟩ := h
    obtain ⟨hlt, hp, -⟩ := Array.findIdx?_eq_some_iff_getElem.mp hi
    have hkk : s.vm.classes[c] = k := (Array.getElem?_eq_some_iff.mp hk).2
    rw [hkk] at hp
    cases hkind : k.kind with
    | array component ty =>
      rw [hkind] at hb hp
      simp at hb hp
      exact ⟨comp, c, k, hk, by rw [hkind, hp, hb.1], hb.2⟩
    | _ => rw [hkind] at hb; simp at hb
theorem kArr {args : Array Value} {s : State} {ty : FieldType} (h : (Cond.arrayClass ty).before args s = true) (hno : ∀ C, ty ≠ .object C) : ∃ cA : ClassId, ArrOfT s cA ty ∧ va_RA s cA ty := by
  obtain ⟨c, k, comp, h1, h2, h3⟩ := Cond.arrayClass_spec h
  refine ⟨c, fun n z => ⟨fun k h => (by cases h), k, h2, comp, h3⟩, ?_⟩
  cases ty with
  | object C => exact absurd rfl (hno C)
  | _ => exact h1
theorem kArrA {s : State} {t : FieldType} (h : va_AOA t s) : ∃ cA : ClassId, ArrOfT s cA (.array t) ∧ va_RA s cA (.array t) := by
  obtain ⟨comp, c, k, h1, h2, h3⟩ := spec_AOA h
  exact ⟨c, fun n z => ⟨fun k h => (by cases h), k, h1, comp, h2⟩, h3⟩
theorem kArrO {s : State} {C : String} (h : va_AO C s) : ∃ cA : ClassId, ArrOfT s cA (.object C) ∧ va_RA s cA (.object C) := by
  obtain ⟨comp, c, k, h1, h2, h3, h4, h5⟩ := Cond.arrayOver_spec h
  exact ⟨c, fun n z => ⟨fun k h => (by cases h), k, h3, comp, h4⟩, k, comp, h3, h4, h1, h5⟩
theorem tT_sub {w : Cond} (h : w ∈ tT) : w ∈ lw_tbl := (List.mem_filter.mp h).1
theorem kStart {args : Array Value} {s : State} (hts : ∀ w ∈ lw_tbl, w.before args s = true) : ∃ (D : va_G) (cy : Nat → ClassId), va_K D vwCl (tyW cy) s ∧ va_AO RX0 s ∧ va_AOA .double s := by
  have hT : ∀ w ∈ tT, w.before args s = true := fun w h => hts w (tT_sub h)
  have hO : va_AO RX0 s := va_AO.of (A := args) (hts _ (List.mem_of_getElem? (i := 53) (by decide +kernel)))
  have hA : va_AOA .double s := hts (Cond.arrayOver (.array .double)) (List.mem_of_getElem? (i := 97) (by decide +kernel))
  obtain ⟨d0, i0, k0⟩ := u_known hT inT0 (hT _ in_RX0)
  obtain ⟨d1, i1, k1⟩ := u_known hT inT1 (hT _ in_RX1)
  obtain ⟨d2, i2, k2⟩ := u_known hT inT2 (hT _ in_RX2)
  obtain ⟨d3, i3, k3⟩ := u_known hT inT3 (hT _ in_RX3)
  obtain ⟨d4, i4, k4⟩ := u_known hT inT4 (hT _ in_RX4)
  obtain ⟨d5, i5, k5⟩ := u_known hT inT5 (hT _ in_RX5)
  obtain ⟨y0, a0, b0⟩ := kArr (hT _ ac_double) (fun C h => by cases h)
  obtain ⟨y1, a1, b1⟩ := kArr (hT _ ac_int) (fun C h => by cases h)
  obtain ⟨y2, a2, b2⟩ := kArr (hT _ ac_boolean) (fun C h => by cases h)
  obtain ⟨y3, a3, b3⟩ := kArrO hO
  obtain ⟨y4, a4, b4⟩ := kArrA hA
  obtain ⟨y5, a5, b5⟩ := kArr (hT _ ac_long) (fun C h => by cases h)
  refine ⟨(fun c => match c with | 0 => d0 | 1 => d1 | 2 => d2 | 3 => d3 | 4 => d4 | _ => d5, fun c => match c with | 0 => i0 | 1 => i1 | 2 => i2 | 3 => i3 | 4 => i4 | _ => i5), fun c => match c with | 0 => y0 | 1 => y1 | 2 => y2 | 3 => y3 | 4 => y4 | _ => y5, ⟨fun c q hq => ?_, fun k q hq => ?_⟩, hO, hA⟩
  · match c, hq with
    | 0, hq => cases hq; exact k0
    | 1, hq => cases hq; exact k1
    | 2, hq => cases hq; exact k2
    | 3, hq => cases hq; exact k3
    | 4, hq => cases hq; exact k4
    | 5, hq => cases hq; exact k5
    | c + 6, hq => cases hq
  · match k, hq with
    | 0, hq => cases hq; exact ⟨a0, b0⟩
    | 1, hq => cases hq; exact ⟨a1, b1⟩
    | 2, hq => cases hq; exact ⟨a2, b2⟩
    | 3, hq => cases hq; exact ⟨a3, b3⟩
    | 4, hq => cases hq; exact ⟨a4, b4⟩
    | 5, hq => cases hq; exact ⟨a5, b5⟩
    | k + 6, hq => cases hq
theorem nStart {args : Array Value} {s : State} (h : (Jvm.Cond.and given_1 narrow_1).before args s = true) : nC s := by
  have hs := flat_of_before _ h
  exact ⟨va_Nc.of (hs (.not (.castable xIAE xIOOBE)) (by decide +kernel)), va_Nc.of (hs (.not (.castable xISE xIOOBE)) (by decide +kernel)), va_Nc.of (hs (.not (.castable xISE xIAE)) (by decide +kernel))⟩
theorem zStart {args : Array Value} {s : State} {A : Nat → Prop} (hts : ∀ w ∈ lw_tbl, w.before args s = true) (h : (Jvm.Cond.and given_1 narrow_1).before args s = true) (hA : ∀ a : Nat, a < s.heap.size → ¬ A a) : zZ A s s.heap := by
  have hs := flat_of_before _ h
  have hini : (Cond.initialized Bundle.tN).before args s = true := hts _ (by decide +kernel)
  exact ⟨vx_Zqof (hts _ (List.mem_of_getElem? (i := 277) (by decide +kernel))) hini (hs (.isRef (.static Bundle.tN "UNASSIGNED_STACK" Bundle.steD)) (by decide +kernel)) hA, vx_Zqof (hts _ (List.mem_of_getElem? (i := 279) (by decide +kernel))) hini (hs (.isRef (.static Bundle.tN "SUPPRESSED_SENTINEL" Bundle.listD)) (by decide +kernel)) hA⟩
theorem strStart {args : Array Value} {s : State} (hts : ∀ w ∈ lw_tbl, w.before args s = true) (h : (Jvm.Cond.and given_1 narrow_1).before args s = true) : ∀ q ∈ tStr, ∃ a, vk_R RX4 q.1 q.2 a s := by
  have hs := flat_of_before _ h
  have one : ∀ (k : Nat) (tx : String), Cond.stringRef RX4 k tx ∈ lw_tbl → Cond.exactly (.string RX4 k) "java/lang/String" ∈ flatC (Jvm.Cond.and given_1 narrow_1) → ∃ a, vk_R RX4 k tx a s := by
    intro k tx h1 h2
    obtain ⟨a, cell, c0, k0, h3, -⟩ := Cond.exactly_spec (hs _ h2)
    exact ⟨a, vk_R.of (A := args) (hts _ h1) h3⟩
  intro q hq
  have hm : ∀ q ∈ tStr, Cond.stringRef RX4 q.1 q.2 ∈ lw_tbl ∧ Cond.exactly (.string RX4 q.1) "java/lang/String" ∈ flatC (Jvm.Cond.and given_1 narrow_1) := by decide +kernel
  exact one q.1 q.2 (hm q hq).1 (hm q hq).2
