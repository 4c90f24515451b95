/-! the law from its entry to its loop -/
section
variable {p : Program} {l : Launch} {e : Env} {R : Room} {s : State} {m : MethodId} {args : Array Value} {below : List Frame} {meth : Method} {c : Code} {H : Heap} {locs : List Loc} {cells slots : Nat} {Q : State → Prop}
/-- cell(script, 0) -/
theorem c_cell {D : va_G} {cy : Nat → ClassId} {A : Nat → Prop} {ba L pc : Nat} {xs : Nat → Int32} {ls : Array Slot} {rest : List Value} (am : AmC p s m args c cL_law 9 RL D cy) (hL : L ≤ 3073) (hX : va_X ba L xs s s.heap) (hbl : ba < s.heap.size) (hbA : ¬ A ba) {ws : va_W} (hP : va_P D vwCl ws H) (hS : va_S A s.heap H locs) (hA : ∀ q, s.heap.size ≤ q → A q) {lvv : List (Nat × Value)} (hl : lv_has ls 9 lvv)
    (hR : 1 ≤ R.frames ∧ 21 ≤ R.locals) (hW : (rest.map fun v => v.category).sum ≤ 8) (hdg : decode cL_law pc = .ok (.invokestatic 76, 3)) (hf : cells ≤ R.cells ∧ slots ≤ R.slots)
    (kk : ∀ (H1 : Heap) (locs1 : List Loc), va_P D vwCl ws H1 → va_S A s.heap H1 locs1 → W p l e R s m args below meth c H1 locs1 cells slots Q (F0 m (pc + 3) ls (.int (sdL L xs) :: rest))) :
    W p l e R s m args below meth c H locs cells slots Q (F0 m pc ls (.int 0 :: .ref ba :: rest)) := by
  have kw := kRL_76
  refine va_calli (mc := 0) (ms := 0) (va_runS (As := [.ref ba, .int 0]) (rest := rest) (fixC am) (k_cell (ba := ba) (xs := xs) hL H.size) ⟨⟨rfl, rfl, hR.1, hR.2, wsC am kw.1, List.mem_cons_self, am.2.2.2.2.1 _ kw.1, am.2.2.2.2.1 _ kw.2.2.1, kw.2.2.2.1, lenK kw.2.2.2.2, am.2.2.2.2.1 _ kw.2.1⟩, am.2.2.2.2.1 _ smL_cell⟩ ⟨fb_preL, fun U hU hW => ⟨rfl, by rw [hU], ?_, Nat.lt_of_lt_of_le hbl hS.1⟩⟩ rfl rfl hl.1 rfl (lv_room hW) hdg hf) hS (fun q _ h => hA q (Nat.le_trans hS.1 h)) (fun q h => hA q (Nat.le_trans hS.1 h)) ?_
  · rw [hU]
    exact va_X.moved hW.alike (va_X.kept hX (hS.2.1 ba hbl hbA))
  · intro x _ t H1 locs1 ht _ hw _ _ hk hS1
    subst hw
    exact kk H1 locs1 (hP.kept (fun k q hq => hk q.1 ((hP k q hq).lt) (Nat.not_le.mpr ((hP k q hq).lt)))) hS1
end
