/-! the law's first steps: a cell of the script -/
def preL (ba L : Nat) (xs : Nat → Int32) (sz : Nat) (U : State) : Prop := U.heap.size = sz ∧ va_X ba L xs U U.heap ∧ ba < sz
def sdL (L : Nat) (xs : Nat → Int32) : Int32 := if 0 < L then xs 0 else 0
theorem fb_preL {ba L : Nat} {xs : Nat → Int32} {sz : Nat} {av : List Value} : FrameBlind (va_Pc av (preL ba L xs sz)) := by
  intro a U g mk h
  obtain ⟨h1, h2, h3, h4⟩ := h
  have hW : U.WarmedH (U.calling g mk a).vm := State.WarmedH.refl U
  exact ⟨h1, h2, va_X.moved hW.alike h3, h4⟩
set_option maxHeartbeats 4000000 in
theorem k_cell {l : Launch} {ba L : Nat} {xs : Nat → Int32} (hL : L ≤ 3073) : ∀ sz, Met l yL_cell [.code yL_cell cL_cell 2 (some .int)] (rmK 0 0 0 0) (va_Pc [.ref ba, .int 0] (preL ba L xs sz)) (va_Qi (fun x (_ : Unit) => x = sdL L xs) (fun _ _ => True) (fun q => sz ≤ q)) 0 0 (fun q => sz ≤ q) := by
  intro sz
  refine Met.ofW (cc := cL_cell) (maxL := 2) (ret := some .int) (by decide +kernel) rfl ?_
  intro p e s m args below meth c s₁ B hml hv
  obtain ⟨rfl, hsz, hX, hba⟩ := hv
  subst hsz
  have hx := B.exec
  have hb := B.bytes
  have hr := B.returns
  have hlk := B.notSynchronized
  have hS : va_S (fun q => s.heap.size ≤ q) s.heap s.heap [] := va_S.rf
  have hbA : ¬ (fun q => s.heap.size ≤ q) ba := Nat.not_le.mpr hba
  have hl := lv_entry [.ref ba, .int 0] (n := 2) (Nat.le_of_ble_eq_true rfl)
  rw [lg_entry_eq]
  generalize (lg_sl ([.ref ba, .int 0] : List Value) ++ List.replicate (2 - (lg_sl ([.ref ba, .int 0] : List Value)).length) Slot.unset).toArray = ls at hl ⊢
  have hl : lv_has ls 2 [(0, .ref ba), (1, .int 0)] := hl
  refine lv_iload_n hx hb dL_cell_0 rfl (lv_at hl 1 rfl) ?_
  refine lv_aload_n hx hb dL_cell_1 rfl (lv_at hl 0 rfl) ?_
  refine va_slen hx hb hX hba hbA hS dL_cell_2 ?_
  have hlen : Int32.ofNat L = nI L := rfl
  rw [hlen]
  by_cases q : 0 < L
  · refine lv_icmp_ge (tgt := 12) hx hb dL_cell_3 (by decide) (fun z => absurd z (nI_nle q (by omega))) (fun _ => ?_)
    refine lv_aload_n hx hb dL_cell_6 rfl (lv_at hl 0 rfl) ?_
    refine lv_iload_n hx hb dL_cell_7 rfl (lv_at hl 1 rfl) ?_
    refine va_sld hx hb hX hba hbA hS (i := 0) (vp_in_nI (n := 0) q (by omega)) dL_cell_8 ?_
    refine lv_goto (tgt := 13) hx hb dL_cell_9 (by decide) ?_
    exact W.zret hx hb hr rfl (fun t ht _ => ⟨⟨_, (), rfl, (if_pos q).symm, trivial⟩, hS.F ht⟩) hS.2.2 dL_cell_13 hlk
  · obtain rfl : L = 0 := by omega
    refine lv_icmp_ge (tgt := 12) hx hb dL_cell_3 (by decide) (fun _ => ?_) (fun z => absurd (show nI 0 ≤ 0 by decide) z)
    refine lv_iconst (v := 0) hx hb dL_cell_12 (by decide) ?_
    exact W.zret hx hb hr rfl (fun t ht _ => ⟨⟨_, (), rfl, rfl, trivial⟩, hS.F ht⟩) hS.2.2 dL_cell_13 hlk
