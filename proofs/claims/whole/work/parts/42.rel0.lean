/-! at the start -/
theorem I00_z (sd : Int32) {c k : Nat} (h : ¬ (c = 0 ∧ k = 0)) (h2 : ¬ (c = 49 ∧ k < 2)) (h3 : ¬ (c = 50 ∧ k = 3)) (h4 : ¬ (c = 53 ∧ (k = 16 ∨ k = 17))) : I00 sd c k = 0 :=
  (u2_ne (by omega)).trans ((u2_ne (by omega)).trans ((u2_ne (by omega)).trans ((u2_ne (by omega)).trans ((u2_ne (by omega)).trans (u2_ne (by omega))))))
theorem F00_z {c k : Nat} (h : c ≠ 48) (h2 : c ≠ 66) : F00 c k = 0 := by
  unfold F00
  rw [if_neg (by omega)]
theorem l16_cn (k : Nat) : cn (l16 k) = l16 k := by
  have h : ∀ f : Nat → UInt64, (∀ k, cn (f k) = f k) → ∀ i v, cn v = v → ∀ k, cn (vf_upd f i v k) = vf_upd f i v k := by
    intro f hf i v hv k
    unfold vf_upd
    split
    · exact hv
    · exact hf k
  have hv : cn 4625196817309499392 = 4625196817309499392 := by decide +kernel
  exact h _ (h _ (h _ (h _ (fun _ => (show cn 0 = 0 by decide +kernel)) _ _ hv) _ _ hv) _ _ hv) _ _ hv k
theorem F00_cn (c k : Nat) : cn (F00 c k) = F00 c k := by
  unfold F00
  split
  · exact l16_cn k
  · exact (show cn 0 = 0 by decide +kernel)
theorem rel0 (sd : Int32) : Rel (I00 sd) F00 (J00 sd) 0 := by
  have z : ∀ {c k : Nat}, ¬ (c = 0 ∧ k = 0) → ¬ (c = 49 ∧ k < 2) → ¬ (c = 50 ∧ k = 3) → ¬ (c = 53 ∧ (k = 16 ∨ k = 17)) → I00 sd c k = 0 := fun h h2 h3 h4 => I00_z sd h h2 h3 h4
  refine ⟨rfl, ⟨0, z (by omega) (by omega) (by omega) (by omega), z (by omega) (by omega) (by omega) (by omega), by omega, fun b hb => ⟨0, by omega, z (by omega) (by omega) (by omega) (by omega), z (by omega) (by omega) (by omega) (by omega), F00_z (by omega) (by omega)⟩, fun b hb => ?_, fun b hb => ?_⟩, fun k hk => rfl, fun k hk => rfl, ?_, ?_⟩
  · rw [F00_z (c := 2 + b) (by omega) (by omega), F00_z (c := 2 + b) (by omega) (by omega), F00_z (c := 2 + b) (by omega) (by omega)]
    exact ⟨rfl, rfl, rfl⟩
  · rw [z (c := 2 + b) (k := 5) (by omega) (by omega) (by omega) (by omega), z (c := 2 + b) (k := 6) (by omega) (by omega) (by omega) (by omega)]
    exact ⟨rfl, rfl, fun _ => ⟨rfl, rfl, rfl⟩⟩
  · refine ⟨10, 0, 0, rfl, rfl, by omega, by omega, rfl, rfl, rfl, by omega, rfl, by omega, ?_⟩
    rw [bv_cong (g := fun _ => false) 10 (fun j _ => by unfold cf; rw [decide_eq_false (Nat.not_lt_zero j), Bool.false_and]), bv_0]
    rfl
  · exact ⟨0, by omega, rfl, rfl, fun k h => absurd h (Nat.not_lt_zero k), fun k h => absurd h (Nat.not_lt_zero _), fun _ => rfl, fun h => absurd h (Nat.lt_irrefl 0)⟩
