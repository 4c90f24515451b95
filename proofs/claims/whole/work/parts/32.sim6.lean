/-! references by days, side by side; at a day of its own the reference adds a zero -/
def fm (x : UInt64) : Prop := x.toNat % 2 ^ 63 < 1060 * 2 ^ 52
theorem fm_fin {x : UInt64} (h : fm x) : FP.Core.DFin x := FP.Core.fin_of_lt h (by decide)
theorem fin_cn {x : UInt64} (h : FP.Core.DFin x) : cn x = x := by
  apply cn_num
  intro q
  have h1 := fp_nan.mp q
  obtain ⟨s, c, e, h2⟩ := h
  rw [h2] at h1
  cases h1
theorem c125_m : (4593671619917905920 : UInt64).toNat % 2 ^ 63 < 1021 * 2 ^ 52 := by decide +kernel
/-- a number of the script: an eighth of an int -/
theorem fm_X (w : Int32) : fm (Mu (FP.i2d w) 4593671619917905920) := by
  have h1 : (FP.i2d w).toNat % 2 ^ 63 < 1056 * 2 ^ 52 := FP.Core.i2d_mag w
  have h2 : (FP.dmul (FP.i2d w) 4593671619917905920).toNat % 2 ^ 63 < (1056 + 1021 - 1025 + 3) * 2 ^ 52 := FP.Core.dmul_mag h1 c125_m (by decide) (by decide)
  have h3 : FP.Core.DFin (FP.dmul (FP.i2d w) 4593671619917905920) := FP.Core.fin_of_lt h2 (by decide)
  unfold Mu fm
  rw [fin_cn h3]
  omega
theorem i2d_0 : FP.i2d 0 = 0 := by decide +kernel
theorem dz_0 : FP.Core.DZero 0 := FP.Core.zero_iff.mp (by decide +kernel)
theorem i2d_nz {d : Int32} (h : d ≠ 0) : ¬ FP.Core.DZero (FP.i2d d) := by
  intro q
  have h1 : FP.Core.dcmp (FP.i2d d) 0 = some .eq := FP.Core.zero_iff.mpr q
  have h2 : FP.Core.dcmp (FP.i2d d) (FP.i2d 0) = some (compare d.toInt (0 : Int32).toInt) := FP.Core.dcmp_int (FP.Core.i2d_int d) (FP.Core.i2d_int 0)
  rw [i2d_0, h1] at h2
  have h3 : compare d.toInt (0 : Int32).toInt = .eq := (Option.some.inj h2).symm
  exact h (Int32.toInt_inj.mp ((FP.Core.compare_eq_iff _ _).mp h3))
theorem dz_div {z b : UInt64} (hz : FP.Core.DZero z) (hb : FP.Core.DFin b) (h0 : ¬ FP.Core.DZero b) : FP.Core.DZero (FP.ddiv z b) := by
  obtain ⟨t, r, hz⟩ := hz
  obtain ⟨s, c, q, hb⟩ := hb
  have hc : c ≠ 0 := fun e => h0 ⟨s, q, by rw [hb, e]⟩
  refine ⟨t != s, FP.Core.b64.qmin, ?_⟩
  show FP.Core.val64 (FP.Core.ddiv z b) = _
  rw [FP.Core.val64_ddiv, hz, hb]
  show (if c = 0 then (if 0 = 0 then FP.Core.Datum.nan else .inf (t != s)) else FP.Core.roundRatio FP.Core.b64 (t != s) 0 c (r - q)) = _
  rw [if_neg hc]
  unfold FP.Core.roundRatio
  rw [if_pos rfl]
theorem DZ_fin {z : UInt64} (h : FP.Core.DZero z) : FP.Core.DFin z := by
  obtain ⟨s, q, h⟩ := h
  exact ⟨s, 0, q, h⟩
/-- at the day itself: g and g + 0 * (h - g) / d are the same number -/
theorem at_day {g h : UInt64} {d : Int32} (hg : fm g) (hh : fm h) (hd : d ≠ 0) : dEq g (Ad g (Dv (Mu (FP.i2d 0) (Sb h g)) (FP.i2d d))) := by
  have fg := fm_fin hg
  have m1 : (FP.dsub h g).toNat % 2 ^ 63 < (1060 + 2) * 2 ^ 52 := FP.Core.dsub_mag hh hg (by decide)
  have f1 : FP.Core.DFin (FP.dsub h g) := FP.Core.fin_of_lt m1 (by decide)
  have z1 : FP.Core.DZero (FP.dmul 0 (FP.dsub h g)) := FP.Core.dzero_mul f1 dz_0
  have fb : FP.Core.DFin (FP.i2d d) := FP.Core.fin_of_lt (FP.Core.i2d_mag d) (by decide)
  have z2 : FP.Core.DZero (FP.ddiv (FP.dmul 0 (FP.dsub h g)) (FP.i2d d)) := dz_div z1 fb (i2d_nz hd)
  have e := FP.Core.dadd_zero_eq fg z2
  have e1 : FP.dcmp (FP.dadd g (FP.ddiv (FP.dmul 0 (FP.dsub h g)) (FP.i2d d))) g = some .eq := e.1
  have ez : Ad g (Dv (Mu (FP.i2d 0) (Sb h g)) (FP.i2d d)) = FP.dadd g (FP.ddiv (FP.dmul 0 (FP.dsub h g)) (FP.i2d d)) := by
    unfold Ad Dv Mu Sb
    rw [i2d_0, fin_cn f1, fin_cn (DZ_fin z1), fin_cn (DZ_fin z2)]
    apply cn_num
    intro q
    have h1 := fp_nan.mp q
    have h2 : FP.dcmp (FP.dadd g (FP.ddiv (FP.dmul 0 (FP.dsub h g)) (FP.i2d d))) g = none := (FP.Core.dcmp_none _ _).mpr (Or.inl h1)
    rw [h2] at e1
    cases e1
  left
  rw [ez]
  have e2 : FP.dcmp g (FP.dadd g (FP.ddiv (FP.dmul 0 (FP.dsub h g)) (FP.i2d d))) = (FP.dcmp (FP.dadd g (FP.ddiv (FP.dmul 0 (FP.dsub h g)) (FP.i2d d))) g).map Ordering.swap := FP.Core.dcmp_swap _ _
  rw [e2, e1]
  rfl
theorem dEq_rf (x : UInt64) : dEq x x := by
  by_cases h : FP.Core.val64 x = .nan
  · right
    have e : FP.dcmp x x = none := (FP.Core.dcmp_none _ _).mpr (Or.inl h)
    rw [e]
    exact ⟨by decide, by decide⟩
  · left
    have e : FP.dcmp x x = some .eq := FP.Core.dcmp_self h
    rw [e]
    rfl
/-- the references of both -/
def RR (I : Im) (G : Dm) : Prop := ∃ c : Nat, c ≤ 16 ∧ I 50 2 = nI c ∧ I 53 21 = nI c ∧ (∀ k, k < c → I 51 k = I 68 k ∧ G 52 k = G 69 k ∧ fm (G 52 k)) ∧ (∀ k, k + 1 < c → I 51 k < I 51 (k + 1)) ∧ (c = 0 → I 50 3 = -1) ∧ (0 < c → I 50 3 = I 51 (c - 1))
theorem i_tri (a b : Int32) : a = b ∨ a < b ∨ b < a := by
  rcases Int.lt_trichotomy a.toInt b.toInt with h | h | h
  · exact Or.inr (Or.inl (Int32.lt_iff_toInt_lt.mpr h))
  · exact Or.inl (Int32.toInt_inj.mp h)
  · exact Or.inr (Or.inr (Int32.lt_iff_toInt_lt.mpr h))
theorem i_nle {a b : Int32} : ¬ a ≤ b ↔ b < a := by
  rw [Int32.le_iff_toInt_le, Int32.lt_iff_toInt_lt]; omega
theorem i_irr (a : Int32) : ¬ a < a := by rw [Int32.lt_iff_toInt_lt]; omega
theorem i_le {a b : Int32} (h : a < b) : a ≤ b := by rw [Int32.lt_iff_toInt_lt] at h; rw [Int32.le_iff_toInt_le]; omega
theorem i_rfl (a : Int32) : a ≤ a := by rw [Int32.le_iff_toInt_le]; omega
theorem i_sub0 {a b : Int32} (h : a < b) : b - a ≠ 0 := by
  intro q
  have e : b = a := by
    have h1 : b - a + a = 0 + a := by rw [q]
    rw [Int32.sub_add_cancel, Int32.zero_add] at h1
    exact h1
  rw [e] at h
  exact i_irr a h
theorem i_self (a : Int32) : a - a = 0 := Int32.sub_self a
theorem drift_k {I : Im} {G : Dm} {c : Nat} {v : Int32} (hk : ∀ k, k < c → I 51 k = I 68 k ∧ G 52 k = G 69 k ∧ fm (G 52 k)) (hs : ∀ k, k + 1 < c → I 51 k < I 51 (k + 1)) : ∀ n i, n + i + 1 = c → I 51 i < v →
    dEq (vaF I G v n (i + 1) (G 52 i)) (mdW I G v c (mdF I v c n i))
  | 0, i, hi, _ => by
    show dEq (G 52 i) (if i + 1 = c then G 69 i else mdB I G v i)
    rw [if_pos (by omega), (hk i (by omega)).2.1]
    exact dEq_rf _
  | n + 1, i, hi, hv => by
    obtain ⟨d1, d2, d3⟩ := hk (i + 1) (by omega)
    obtain ⟨p1, p2, p3⟩ := hk i (by omega)
    show dEq (if v = I 51 (i + 1) then G 52 (i + 1) else if i + 1 = 0 ∧ ¬ I 51 (i + 1) ≤ v then G 52 (i + 1) else if ¬ i + 1 = 0 ∧ ¬ v ≤ I 51 (i + 1 - 1) ∧ ¬ I 51 (i + 1) ≤ v then betw I G (i + 1 - 1) (i + 1) v else vaF I G v n (i + 1 + 1) (G 52 (i + 1))) (mdW I G v c (if I 68 (i + 1) ≤ v then mdF I v c n (i + 1) else i))
    rw [Nat.add_sub_cancel]
    rcases i_tri v (I 51 (i + 1)) with q | q | q
    · rw [if_pos q, if_pos (by rw [← d1, ← q]; exact i_rfl v)]
      have hF : mdF I v c n (i + 1) = i + 1 := by
        cases n with
        | zero => rfl
        | succ n =>
          refine if_neg ?_
          obtain ⟨e1, -, -⟩ := hk (i + 1 + 1) (by omega)
          rw [← e1, i_nle, q]
          exact hs (i + 1) (by omega)
      rw [hF]
      unfold mdW
      by_cases z : i + 1 + 1 = c
      · rw [if_pos z, d2]
        exact dEq_rf _
      · obtain ⟨e1, e2, e3⟩ := hk (i + 1 + 1) (by omega)
        rw [if_neg z]
        unfold mdB
        rw [← d1, ← d2, ← e1, ← e2, q, i_self]
        exact at_day d3 e3 (i_sub0 (hs (i + 1) (by omega)))
    · rw [if_neg (fun z => i_irr v (by rw [z] at q ⊢; exact q)), if_neg (fun z => absurd z.1 (by omega)), if_pos ⟨by omega, i_nle.mpr hv, i_nle.mpr q⟩, if_neg (by rw [← d1]; exact i_nle.mpr q)]
      unfold mdW
      rw [if_neg (by omega)]
      unfold mdB betw
      rw [p1, p2, d1, d2]
      exact dEq_rf _
    · rw [if_neg (fun z => i_irr v (by rw [← z] at q; exact q)), if_neg (fun z => absurd z.1 (by omega)), if_neg (fun z => z.2.2 (i_le q)), if_pos (by rw [← d1]; exact i_le q)]
      exact drift_k hk hs n (i + 1) (by omega) q
theorem drift_s {I : Im} {G : Dm} {c : Nat} {v : Int32} (hk : ∀ k, k < c → I 51 k = I 68 k ∧ G 52 k = G 69 k ∧ fm (G 52 k)) (hs : ∀ k, k + 1 < c → I 51 k < I 51 (k + 1)) : dEq (vaF I G v c 0 0) (mdV I G v c) := by
  cases c with
  | zero => exact dEq_rf _
  | succ n =>
    obtain ⟨d1, d2, -⟩ := hk 0 (by omega)
    unfold mdV
    rw [if_neg (by omega), Nat.add_sub_cancel]
    show dEq (if v = I 51 0 then G 52 0 else if 0 = 0 ∧ ¬ I 51 0 ≤ v then G 52 0 else if ¬ 0 = 0 ∧ ¬ v ≤ I 51 (0 - 1) ∧ ¬ I 51 0 ≤ v then betw I G (0 - 1) 0 v else vaF I G v n (0 + 1) (G 52 0)) _
    rcases i_tri v (I 51 0) with q | q | q
    · rw [if_pos q, if_pos (by rw [← d1, ← q]; exact i_rfl v), d2]
      exact dEq_rf _
    · rw [if_neg (fun z => i_irr v (by rw [z] at q ⊢; exact q)), if_pos ⟨rfl, i_nle.mpr q⟩, if_pos (by rw [← d1]; exact i_le q), d2]
      exact dEq_rf _
    · rw [if_neg (fun z => i_irr v (by rw [← z] at q; exact q)), if_neg (fun z => z.2 (i_le q)), if_neg (fun z => z.1 rfl), if_neg (by rw [← d1]; exact i_nle.mpr q)]
      exact drift_k hk hs n 0 (by omega) q
