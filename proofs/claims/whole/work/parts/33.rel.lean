/-! the relation between the class's memory and the reference's, and what doesn't touch it -/
def RLm (G : Dm) : Prop := ∀ k, k < 4 → G 48 k = G 66 k
def Rel (I : Im) (G : Dm) (J : Jm) (T : Nat) : Prop := J 53 1 = (I 0 0).toInt64 ∧ (∃ n, RB I G n) ∧ RN G ∧ RLm G ∧ RC I T ∧ RR I G
theorem RB_c {I I' : Im} {G G' : Dm} {n : Nat} (h : RB I G n) (hI : ∀ c k, ((c = 0 ∨ c = 53) ∧ k = 2) ∨ (2 ≤ c ∧ c < 34) ∨ c = 55 ∨ c = 59 ∨ c = 60 → I' c k = I c k) (hG : ∀ c k, ((2 ≤ c ∧ c < 34) ∧ 1 ≤ k ∧ k ≤ 4) ∨ c = 54 ∨ c = 56 ∨ c = 57 ∨ c = 58 → G' c k = G c k) : RB I' G' n := by
  obtain ⟨h1, h2, h3, h4, h5, h6⟩ := h
  refine ⟨(hI 0 2 (by omega)).trans h1, (hI 53 2 (by omega)).trans h2, h3, fun b hb => ?_, fun b hb => ?_, fun b hb => ?_⟩
  · obtain ⟨r, g1, g2, g3, g4⟩ := h4 b hb
    exact ⟨r, g1, (hI _ 0 (by omega)).trans g2, (hI 55 b (by omega)).trans g3, by rw [hG (2 + b) 1 (by omega), g4, mSum_c (fun k => hG 54 k (by omega))]⟩
  · obtain ⟨g1, g2, g3⟩ := h5 b hb
    rw [hG (2 + b) 2 (by omega), hG (2 + b) 3 (by omega), hG (2 + b) 4 (by omega), hG 56 b (by omega), hG 57 b (by omega), hG 58 b (by omega)]
    exact ⟨g1, g2, g3⟩
  · obtain ⟨g1, g2, g3⟩ := h6 b hb
    rw [hI (2 + b) 5 (by omega), hI (2 + b) 6 (by omega), hI 55 b (by omega), hI 59 b (by omega), hI 60 b (by omega)]
    exact ⟨g1, g2, g3⟩
theorem RC_c {I I' : Im} {T : Nat} (h : RC I T) (hI : ∀ c k, c = 49 ∨ c = 67 ∨ (c = 53 ∧ 16 ≤ k ∧ k ≤ 19) → I' c k = I c k) : RC I' T := by
  obtain ⟨z, t, s, h1, h2, h3, h4, h5, h6, h7, h8, h9, h10, h11⟩ := h
  refine ⟨z, t, s, (hI 49 0 (by omega)).trans h1, (hI 53 16 (by omega)).trans h2, h3, h4, ?_, (hI 49 3 (by omega)).trans h6, (hI 53 18 (by omega)).trans h7, h8, (hI 53 19 (by omega)).trans h9, h10, ?_⟩
  · rw [hI 49 1 (by omega), hI 53 17 (by omega)]; exact h5
  · rw [hI 49 2 (by omega), h11]
    congr 1
    refine bv_cong z (fun j _ => ?_)
    unfold cf
    rw [hI 67 _ (by omega)]
theorem RC_le {I : Im} {T T' : Nat} (h : RC I T) (hT : T ≤ T') : RC I T' := by
  obtain ⟨z, t, s, h1, h2, h3, h4, h5, h6, h7, h8, h9, h10, h11⟩ := h
  exact ⟨z, t, s, h1, h2, h3, h4, h5, h6, h7, h8, h9, by omega, h11⟩
theorem RR_c {I I' : Im} {G G' : Dm} (h : RR I G) (hI : ∀ c k, c = 50 ∨ c = 51 ∨ c = 68 ∨ (c = 53 ∧ k = 21) → I' c k = I c k) (hG : ∀ c k, c = 52 ∨ c = 69 → G' c k = G c k) : RR I' G' := by
  obtain ⟨c, h1, h2, h3, h4, h5, h6, h7⟩ := h
  refine ⟨c, h1, (hI 50 2 (by omega)).trans h2, (hI 53 21 (by omega)).trans h3, fun k hk => ?_, fun k hk => ?_, fun q => (hI 50 3 (by omega)).trans (h6 q), fun q => ?_⟩
  · rw [hI 51 k (by omega), hI 68 k (by omega), hG 52 k (by omega), hG 69 k (by omega)]; exact h4 k hk
  · rw [hI 51 k (by omega), hI 51 (k + 1) (by omega)]; exact h5 k hk
  · rw [hI 50 3 (by omega), hI 51 (c - 1) (by omega)]; exact h7 q
theorem RN_c {G G' : Dm} (h : RN G) (hG : ∀ c k, c = 40 ∨ c = 64 → G' c k = G c k) : RN G' := fun k hk => by rw [hG 40 k (by omega), hG 64 k (by omega)]; exact h k hk
theorem RL_c {G G' : Dm} (h : RLm G) (hG : ∀ c k, c = 48 ∨ c = 66 → G' c k = G c k) : RLm G' := fun k hk => by rw [hG 48 k (by omega), hG 66 k (by omega)]; exact h k hk
/-- changes that the relation doesn't see -/
theorem Rel_c {I I' : Im} {G G' : Dm} {J J' : Jm} {T : Nat} (h : Rel I G J T) (hI : ∀ c k, ¬ (c = 53 ∧ k = 0) → c ≠ 63 → I' c k = I c k) (hG : ∀ c k, (c < 34 ∧ k ≠ 7) ∨ c = 40 ∨ (48 ≤ c ∧ c ≤ 58) ∨ c = 64 ∨ c = 66 ∨ c = 69 → G' c k = G c k) (hJ : J' 53 1 = J 53 1) : Rel I' G' J' T := by
  obtain ⟨h1, ⟨n, h2⟩, h3, h4, h5, h6⟩ := h
  exact ⟨by rw [hJ, hI 0 0 (by omega) (by omega)]; exact h1, ⟨n, RB_c h2 (fun c k q => hI c k (by omega) (by omega)) (fun c k q => hG c k (by omega))⟩, RN_c h3 (fun c k q => hG c k (by omega)), RL_c h4 (fun c k q => hG c k (by omega)), RC_c h5 (fun c k q => hI c k (by omega) (by omega)), RR_c h6 (fun c k q => hI c k (by omega) (by omega)) (fun c k q => hG c k (by omega))⟩
theorem Rel.t {I : Im} {G : Dm} {J : Jm} {T : Nat} (h : Rel I G J T) (e : Int32) : Rel (u2 I 53 0 e) G J T := Rel_c h (fun c k q _ => u2_ne q) (fun _ _ _ => rfl) rfl
theorem Rel.o {I : Im} {G : Dm} {J : Jm} {T : Nat} (h : Rel I G J T) (e : Int64) : Rel I G (u2 J 70 0 e) T := Rel_c h (fun _ _ _ _ => rfl) (fun _ _ _ => rfl) (u2_ne (by omega))
theorem Rel.d {I : Im} {G : Dm} {J : Jm} {T : Nat} (h : Rel I G J T) (e : UInt64) : Rel I (u2 G 71 0 e) J T := Rel_c h (fun _ _ _ _ => rfl) (fun c k q => u2_ne (by omega)) rfl
theorem Rel.le {I : Im} {G : Dm} {J : Jm} {T T' : Nat} (h : Rel I G J T) (hT : T ≤ T') : Rel I G J T' := ⟨h.1, h.2.1, h.2.2.1, h.2.2.2.1, RC_le h.2.2.2.2.1 hT, h.2.2.2.2.2⟩
/-- a place in 0 .. n - 1, or not -/
theorem idx (v : Int32) {n : Nat} (hn : n < 2 ^ 31) : (v < 0 ∨ ¬ v < nI n) ∨ ∃ k, k < n ∧ v = nI k := by
  by_cases h0 : v < 0
  · exact Or.inl (Or.inl h0)
  · by_cases h1 : v < nI n
    · right
      obtain ⟨k, hk, rfl⟩ := nI_up (m := n) h0 (fun q => i_irr v (by rw [Int32.lt_iff_toInt_lt] at *; omega)) hn
      exact ⟨k, (nI_ltI (by omega) hn).mp h1, rfl⟩
    · exact Or.inl (Or.inr h1)
theorem i2d_1000 : FP.i2d 1000 = 4652007308841189376 := by decide +kernel
theorem i2d_100 : FP.i2d 100 = 4636737291354636288 := by decide +kernel
theorem i2d_10 : FP.i2d 10 = 4621819117588971520 := by decide +kernel
theorem i2d_1 : FP.i2d 1 = 4607182418800017408 := by decide +kernel
theorem i2d_m : FP.i2d (-1000) = 13875379345695965184 := by decide +kernel
theorem in_1000 (X : UInt64) : bIn X 0 1000 = mBt X 0 4652007308841189376 := by unfold bIn mBt; rw [i2d_0, i2d_1000]
theorem in_100 (X : UInt64) : bIn X 0 100 = mBt X 0 4636737291354636288 := by unfold bIn mBt; rw [i2d_0, i2d_100]
theorem in_10 (X : UInt64) : bIn X 0 10 = mBt X 0 4621819117588971520 := by unfold bIn mBt; rw [i2d_0, i2d_10]
theorem in_1 (X : UInt64) : bIn X 0 1 = mBt X 0 4607182418800017408 := by unfold bIn mBt; rw [i2d_0, i2d_1]
theorem in_m (X : UInt64) : bIn X (-1000) 1000 = mBt X 13875379345695965184 4652007308841189376 := by unfold bIn mBt; rw [i2d_m, i2d_1000]
theorem lt_4 {v : Int32} : v < 4 ↔ v ≤ 3 := by
  rw [Int32.lt_iff_toInt_lt, Int32.le_iff_toInt_le]
  have e1 : (4 : Int32).toInt = 4 := rfl
  have e2 : (3 : Int32).toInt = 3 := rfl
  omega
theorem lt_3 {v : Int32} : v < 3 ↔ v ≤ 2 := by
  rw [Int32.lt_iff_toInt_lt, Int32.le_iff_toInt_le]
  have e1 : (3 : Int32).toInt = 3 := rfl
  have e2 : (2 : Int32).toInt = 2 := rfl
  omega
theorem mS_up {G : Dm} {b r : Nat} {X : UInt64} (hr : r < 8) : mSum (u2 G 54 (8 * b + r) X) b (r + 1) = Ad (mSum G b r) X := by
  have h : ∀ n, n ≤ r → mSum (u2 G 54 (8 * b + r) X) b n = mSum G b n := by
    intro n
    induction n with
    | zero => intro _; rfl
    | succ n ih =>
      intro hn
      show Ad (mSum _ b n) (u2 G 54 (8 * b + r) X 54 (8 * b + n)) = Ad (mSum G b n) _
      rw [ih (by omega), u2_ne (by omega)]
  show Ad (mSum _ b r) (u2 G 54 (8 * b + r) X 54 (8 * b + r)) = _
  rw [h r (Nat.le_refl _), u2_eq]
theorem mS_ne {G : Dm} {b d r : Nat} {X : UInt64} (hr : r < 8) (hd : d ≠ b) : ∀ n, n ≤ 8 → mSum (u2 G 54 (8 * b + r) X) d n = mSum G d n
  | 0, _ => rfl
  | n + 1, hn => by
    show Ad (mSum _ d n) (u2 G 54 (8 * b + r) X 54 (8 * d + n)) = Ad (mSum G d n) _
    rw [mS_ne hr hd n (by omega), u2_ne (by omega)]
