/-! the system's world: 72 cells, each of a fixed kind, at addresses ad 0 .. ad 71; what they hold is a memory: ints I, doubles F (or, up to NaN, G), longs J, by cell and place -/
abbrev Im : Type := Nat → Nat → Int32
abbrev Dm : Type := Nat → Nat → UInt64
abbrev Jm : Type := Nat → Nat → Int64
def u2 {α : Type} (M : Nat → Nat → α) (c k : Nat) (v : α) : Nat → Nat → α := fun c' k' => if c' = c ∧ k' = k then v else M c' k'
theorem u2_eq {α : Type} (M : Nat → Nat → α) (c k : Nat) (v : α) : u2 M c k v c k = v := if_pos ⟨rfl, rfl⟩
theorem u2_ne {α : Type} {M : Nat → Nat → α} {c k c' k' : Nat} {v : α} (h : ¬ (c' = c ∧ k' = k)) : u2 M c k v c' k' = M c' k' := if_neg h
theorem u2_up {α : Type} (M : Nat → Nat → α) (c k : Nat) (v : α) : va_up M c (va_up (M c) k v) = u2 M c k v := by
  funext c' k'
  unfold va_up u2
  by_cases h : c' = c
  · subst h
    by_cases h2 : k' = k <;> simp [h2]
  · simp [h]
theorem u2_row {α : Type} (M : Nat → Nat → α) (c k : Nat) (v : α) : u2 M c k v c = va_up (M c) k v := by
  rw [← u2_up]; exact if_pos rfl
theorem va_upid {α : Type} (f : Nat → α) (k : Nat) : va_up f k (f k) = f := by
  funext j; unfold va_up; split
  · next h => rw [h]
  · rfl
abbrev eD (cy : Nat → ClassId) (n : Nat) (f : Nat → UInt64) : va_E := .inl (cy 0, n, .inr (.inr (.inr (.inl f))))
abbrev eI (cy : Nat → ClassId) (n : Nat) (i : Nat → Int32) : va_E := .inl (cy 1, n, .inl i)
abbrev eZ (cy : Nat → ClassId) (n : Nat) (i : Nat → Int32) : va_E := .inl (cy 2, n, .inl i)
abbrev eR (cy : Nat → ClassId) (n : Nat) (g : Nat → Option Nat) : va_E := .inl (cy 3, n, .inr (.inr (.inr (.inr g))))
abbrev eA (cy : Nat → ClassId) (n : Nat) (g : Nat → Option Nat) : va_E := .inl (cy 4, n, .inr (.inr (.inr (.inr g))))
abbrev eJ (cy : Nat → ClassId) (n : Nat) (j : Nat → Int64) : va_E := .inl (cy 5, n, .inr (.inl j))
abbrev fB (i : Nat → Int32) (f : Nat → UInt64) (_ : Nat → Int64) : List Value := [.int (i 0), .double (f 1), .double (f 2), .double (f 3), .double (f 4), .int (i 5), .int (i 6), .double (f 7)]
abbrev fS (ad : Nat → Nat) (i : Nat → Int32) (_ : Nat → UInt64) (_ : Nat → Int64) : List Value := [.int (i 0), .ref (ad 1), .int (i 2), .ref (ad 34), .ref (ad 41), .ref (ad 48), .ref (ad 49), .ref (ad 50)]
abbrev fF (ad : Nat → Nat) (c : Nat) (_ : Nat → Int32) (_ : Nat → UInt64) (_ : Nat → Int64) : List Value := [.ref (ad (c + 1)), .ref (ad (c + 5)), .ref (ad (c + 6))]
abbrev fC (i : Nat → Int32) (_ : Nat → UInt64) (_ : Nat → Int64) : List Value := [.int (i 0), .int (i 1), .int (i 2), .int (i 3)]
abbrev fR (ad : Nat → Nat) (i : Nat → Int32) (_ : Nat → UInt64) (_ : Nat → Int64) : List Value := [.ref (ad 51), .ref (ad 52), .int (i 2), .int (i 3)]
abbrev fM (ad : Nat → Nat) (i : Nat → Int32) (_ : Nat → UInt64) (j : Nat → Int64) : List Value := [.int (i 0), .long (j 1), .int (i 2), .ref (ad 54), .ref (ad 55), .ref (ad 56), .ref (ad 57), .ref (ad 58), .ref (ad 59), .ref (ad 60), .ref (ad 61), .ref (ad 62), .ref (ad 63), .ref (ad 64), .ref (ad 65), .ref (ad 66), .int (i 16), .int (i 17), .int (i 18), .int (i 19), .ref (ad 67), .int (i 21), .ref (ad 68), .ref (ad 69)]
def cE (cy : Nat → ClassId) (ad : Nat → Nat) (c : Nat) (i : Nat → Int32) (f : Nat → UInt64) (j : Nat → Int64) : va_E :=
  if 2 ≤ c ∧ c < 34 then .inr (0, fB i f j) else
  if c = 0 then .inr (4, fS ad i f j) else
  if c = 1 then eR cy 32 (fun k => if k < 32 then some (ad (2 + k)) else none) else
  if c = 34 ∨ c = 41 then .inr (2, fF ad c i f j) else
  if c = 35 ∨ c = 42 then eA cy 3 (fun k => if k < 3 then some (ad (c + 1 + k)) else none) else
  if (36 ≤ c ∧ c < 41) ∨ (43 ≤ c ∧ c < 48) then eD cy 3 f else
  if c = 48 ∨ c = 66 then eD cy 4 f else
  if c = 49 then .inr (1, fC i f j) else
  if c = 50 then .inr (3, fR ad i f j) else
  if c = 51 ∨ c = 68 then eI cy 16 i else
  if c = 52 ∨ c = 69 then eD cy 16 f else
  if c = 53 then .inr (5, fM ad i f j) else
  if c = 54 then eD cy 256 f else
  if c = 55 then eI cy 32 i else
  if c = 56 ∨ c = 57 ∨ c = 58 then eD cy 32 f else
  if c = 59 ∨ c = 60 then eZ cy 32 i else
  if c = 61 then eD cy 9 f else
  if c = 62 ∨ c = 64 ∨ c = 65 then eD cy 3 f else
  if c = 63 then eZ cy 3 i else
  if c = 67 then eZ cy 8192 i else
  if c = 70 then eJ cy 1 j else eD cy 1 f
section
variable {cy : Nat → ClassId} {ad : Nat → Nat} {i : Nat → Int32} {f : Nat → UInt64} {j : Nat → Int64} {c : Nat}
theorem cE_B (h : 2 ≤ c ∧ c < 34) : cE cy ad c i f j = .inr (0, fB i f j) := if_pos h
theorem cE_S : cE cy ad 0 i f j = .inr (4, fS ad i f j) := rfl
theorem cE_1 : cE cy ad 1 i f j = eR cy 32 (fun k => if k < 32 then some (ad (2 + k)) else none) := rfl
theorem cE_F (h : c = 34 ∨ c = 41) : cE cy ad c i f j = .inr (2, fF ad c i f j) := by rcases h with rfl | rfl <;> rfl
theorem cE_F1 (h : c = 34 ∨ c = 41) : cE cy ad (c + 1) i f j = eA cy 3 (fun k => if k < 3 then some (ad (c + 1 + 1 + k)) else none) := by rcases h with rfl | rfl <;> rfl
theorem cE_Fr (h : c = 34 ∨ c = 41) {k : Nat} (hk : k < 3) : cE cy ad (c + 1 + 1 + k) i f j = eD cy 3 f := by
  rcases h with rfl | rfl <;> rcases (show k = 0 ∨ k = 1 ∨ k = 2 by omega) with rfl | rfl | rfl <;> rfl
theorem cE_F5 (h : c = 34 ∨ c = 41) : cE cy ad (c + 5) i f j = eD cy 3 f := by rcases h with rfl | rfl <;> rfl
theorem cE_F6 (h : c = 34 ∨ c = 41) : cE cy ad (c + 6) i f j = eD cy 3 f := by rcases h with rfl | rfl <;> rfl
theorem cE_48 : cE cy ad 48 i f j = eD cy 4 f := rfl
theorem cE_49 : cE cy ad 49 i f j = .inr (1, fC i f j) := rfl
theorem cE_50 : cE cy ad 50 i f j = .inr (3, fR ad i f j) := rfl
theorem cE_51 : cE cy ad 51 i f j = eI cy 16 i := rfl
theorem cE_52 : cE cy ad 52 i f j = eD cy 16 f := rfl
theorem cE_M : cE cy ad 53 i f j = .inr (5, fM ad i f j) := rfl
theorem cE_54 : cE cy ad 54 i f j = eD cy 256 f := rfl
theorem cE_55 : cE cy ad 55 i f j = eI cy 32 i := rfl
theorem cE_56 : cE cy ad 56 i f j = eD cy 32 f := rfl
theorem cE_57 : cE cy ad 57 i f j = eD cy 32 f := rfl
theorem cE_58 : cE cy ad 58 i f j = eD cy 32 f := rfl
theorem cE_59 : cE cy ad 59 i f j = eZ cy 32 i := rfl
theorem cE_60 : cE cy ad 60 i f j = eZ cy 32 i := rfl
theorem cE_61 : cE cy ad 61 i f j = eD cy 9 f := rfl
theorem cE_62 : cE cy ad 62 i f j = eD cy 3 f := rfl
theorem cE_63 : cE cy ad 63 i f j = eZ cy 3 i := rfl
theorem cE_64 : cE cy ad 64 i f j = eD cy 3 f := rfl
theorem cE_65 : cE cy ad 65 i f j = eD cy 3 f := rfl
theorem cE_66 : cE cy ad 66 i f j = eD cy 4 f := rfl
theorem cE_67 : cE cy ad 67 i f j = eZ cy 8192 i := rfl
theorem cE_68 : cE cy ad 68 i f j = eI cy 16 i := rfl
theorem cE_69 : cE cy ad 69 i f j = eD cy 16 f := rfl
theorem cE_70 : cE cy ad 70 i f j = eJ cy 1 j := rfl
theorem cE_71 : cE cy ad 71 i f j = eD cy 1 f := rfl
end
def wW (cy : Nat → ClassId) (ad : Nat → Nat) (I : Im) (F : Dm) (J : Jm) : va_W := (List.range 72).map (fun c => (ad c, cE cy ad c (I c) (F c) (J c)))
section
variable {cy : Nat → ClassId} {ad : Nat → Nat} {I : Im} {F : Dm} {J : Jm}
theorem wat {c : Nat} (hc : c < 72) : (wW cy ad I F J)[c]? = some (ad c, cE cy ad c (I c) (F c) (J c)) := by
  unfold wW
  rw [List.getElem?_map, List.getElem?_range hc]
  rfl
theorem wat' {c : Nat} (hc : c < 72) {e : va_E} (he : cE cy ad c (I c) (F c) (J c) = e) : (wW cy ad I F J)[c]? = some (ad c, e) := by rw [wat hc, he]
theorem wlt {c : Nat} {q : Nat × va_E} (h : (wW cy ad I F J)[c]? = some q) : c < 72 := by
  have := (List.getElem?_eq_some_iff.mp h).1
  simpa [wW] using this
theorem wset {c : Nat} (hc : c < 72) (i : Nat → Int32) (f : Nat → UInt64) (j : Nat → Int64) : (wW cy ad I F J).set c (ad c, cE cy ad c i f j) = wW cy ad (va_up I c i) (va_up F c f) (va_up J c j) := by
  apply List.ext_getElem?
  intro k
  by_cases hk : k < 72
  · rw [wat hk]
    by_cases e : k = c
    · subst e
      rw [List.getElem?_set_self (by simp [wW, hk])]
      simp [va_up]
    · rw [List.getElem?_set_ne (Ne.symm e), wat hk]
      simp [va_up, e]
  · rw [List.getElem?_eq_none (by simp [wW]; omega), List.getElem?_eq_none (by simp [wW]; omega)]
theorem wsetI {c k : Nat} {v : Int32} (hc : c < 72) {e : va_E} (he : e = cE cy ad c (va_up (I c) k v) (F c) (J c)) : (wW cy ad I F J).set c (ad c, e) = wW cy ad (u2 I c k v) F J := by
  rw [he, wset hc, u2_up, va_upid, va_upid]
theorem wsetD {c k : Nat} {v : UInt64} (hc : c < 72) {e : va_E} (he : e = cE cy ad c (I c) (va_up (F c) k v) (J c)) : (wW cy ad I F J).set c (ad c, e) = wW cy ad I (u2 F c k v) J := by
  rw [he, wset hc, u2_up, va_upid, va_upid]
theorem wsetJ {c k : Nat} {v : Int64} (hc : c < 72) {e : va_E} (he : e = cE cy ad c (I c) (F c) (va_up (J c) k v)) : (wW cy ad I F J).set c (ad c, e) = wW cy ad I F (u2 J c k v) := by
  rw [he, wset hc, u2_up, va_upid, va_upid]
end
/-- the addresses are apart -/
def adI (ad : Nat → Nat) : Prop := ∀ c d, c < 72 → d < 72 → ad c = ad d → c = d
/-- what a method of the system may change: the world's cells, and what is new -/
def aA (ad : Nat → Nat) (sz : Nat) : Nat → Prop := fun q => (∃ c, c < 72 ∧ q = ad c) ∨ sz ≤ q
theorem aA_le {ad : Nat → Nat} {a b q : Nat} (h : a ≤ b) (g : aA ad b q) : aA ad a q := g.elim Or.inl (fun g => Or.inr (Nat.le_trans h g))
theorem wD {cy : Nat → ClassId} {ad : Nat → Nat} {I : Im} {F : Dm} {J : Jm} {sz : Nat} (h : adI ad) : va_D (aA ad sz) (wW cy ad I F J) := by
  refine ⟨fun a b p q ha hb hpq => ?_, fun k q hk => ?_⟩
  · have la := wlt ha
    have lb := wlt hb
    rw [wat la] at ha
    rw [wat lb] at hb
    cases ha
    cases hb
    exact h a b la lb hpq
  · have lk := wlt hk
    rw [wat lk] at hk
    cases hk
    exact Or.inl ⟨k, lk, rfl⟩
abbrev tyW (cy : Nat → ClassId) : List (ClassId × FieldType) := [(cy 0, .double), (cy 1, .int), (cy 2, .boolean), (cy 3, .object RX0), (cy 4, .array .double), (cy 5, .long)]
/-! the tables' words that stay while classes warm -/
def okW (w : Cond) : Bool := goodWord w || (match w with | .methodLinkNest .. | .fieldLinkNest .. | .castable .. | .declares .. => true | _ => false)
def tT : List Cond := lw_tbl.filter okW
theorem okW_at {a a' : Array Value} {s U : State} {w : Cond} (hW : s.WarmedH U.vm) (hk : okW w = true) (h : w.before a s = true) : w.before a' U = true := by
  unfold okW at hk
  rw [Bool.or_eq_true] at hk
  rcases hk with hk | hk
  · exact word_at hW (good_of_word hk) h
  · cases w with
    | methodLinkNest a i x b => exact va_Nw.use rfl (va_Nw.warmM hW (va_Nw.of rfl h))
    | fieldLinkNest a i b n d x => exact va_Nw.use rfl (va_Nw.warmF hW (va_Nw.of rfl h))
    | castable C T => exact va_Nw.use rfl (va_Nw.warmC hW (va_Nw.of rfl h))
    | declares x => exact va_Nw.use rfl (va_Nw.warmD hW (va_Nw.of rfl h))
    | _ => simp at hk
theorem tT_at {a a' : Array Value} {s U : State} (hW : s.WarmedH U.vm) (h : ∀ w ∈ tT, w.before a s = true) : ∀ w ∈ tT, w.before a' U = true :=
  fun w hw => okW_at hW (List.mem_filter.mp hw).2 (h w hw)
theorem tT_in {w : Cond} {k : Nat} (h : lw_tbl[k]? = some w) (ho : okW w = true) : w ∈ tT := List.mem_filter.mpr ⟨List.mem_of_getElem? h, ho⟩
/-- the texts of the exceptions, at their constants -/
def tStr : List (Nat × String) := [(55, "no room for a board"), (191, "no such board"), (199, "a number is not as said"), (75, "no room for a row"), (94, "broken before, or out"), (105, "no such number"), (193, "the board is not complete"), (195, "no such class"), (135, "no such part"), (161, "no such what"), (173, "no room for a reference")]
def zZ (A : Nat → Prop) (s : State) (H : Heap) : Prop := vx_Zq Bundle.tN "UNASSIGNED_STACK" Bundle.steD A s H ∧ vx_Zq Bundle.tN "SUPPRESSED_SENTINEL" Bundle.listD A s H
theorem zZ.moved {A : Nat → Prop} {u U : State} {H : Heap} (hvm : u.vm.Alike U.vm) (h : zZ A u H) : zZ A U H := ⟨vx_Zq.moved hvm h.1, vx_Zq.moved hvm h.2⟩
theorem zZ.kept {A : Nat → Prop} {U : State} {H H1 : Heap} (h : zZ A U H) (hq : ∀ a : Nat, a < H.size → ¬ A a → H1[a]? = H[a]?) : zZ A U H1 := ⟨vx_Zq.kept h.1 hq, vx_Zq.kept h.2 hq⟩
theorem zZ.narrow {A B : Nat → Prop} {U : State} {H : Heap} (h : zZ A U H) (hAB : ∀ q, B q → A q) : zZ B U H := ⟨vx_Zq.narrow h.1 hAB, vx_Zq.narrow h.2 hAB⟩
/-- the memory that a heap holds -/
def hW (D : va_G) (cy : Nat → ClassId) (ad : Nat → Nat) (I : Im) (G : Dm) (J : Jm) (H : Heap) : Prop := ∃ F : Dm, (∀ c k, cn (F c k) = G c k) ∧ va_P D vwCl (wW cy ad I F J) H
/-- .. at the entry of a method -/
def preW (D : va_G) (cy : Nat → ClassId) (ad : Nat → Nat) (sz : Nat) (I : Im) (G : Dm) (J : Jm) (U : State) : Prop :=
  U.heap.size = sz ∧ hW D cy ad I G J U.heap ∧ va_K D vwCl (tyW cy) U ∧ (∀ w ∈ tT, w.before #[] U = true) ∧ (∀ q ∈ tStr, ∃ a, vk_R RX4 q.1 q.2 a U) ∧ zZ (aA ad sz) U U.heap
/-- what a walk has at hand: the machine, the code, the words, the classes, the texts -/
def Amb (p : Program) (s : State) (m : MethodId) (args : Array Value) (c : Code) (cc : ByteArray) (nL : Nat) (own : String) (D : va_G) (cy : Nat → ClassId) (ad : Nat → Nat) : Prop :=
  p.tables.exec = Jvm.exec ∧ c.code = cc ∧ c.maxLocals = nL ∧ s.vm.findClass own = some m.cls ∧ (∀ w ∈ tT, w.before args s = true) ∧ va_K D vwCl (tyW cy) s ∧ adI ad ∧ (∀ q ∈ tStr, ∃ a, vk_R RX4 q.1 q.2 a s) ∧ zZ (aA ad s.heap.size) s s.heap
/-- where a walk stands -/
def St (D : va_G) (cy : Nat → ClassId) (ad : Nat → Nat) (H0 : Heap) (I : Im) (G : Dm) (J : Jm) (H : Heap) (locs : List Loc) : Prop := hW D cy ad I G J H ∧ va_S (aA ad H0.size) H0 H locs
theorem hs_self (s : State) : s.WarmedH s.vm := by first | exact State.WarmedH.refl s | exact State.WarmedH.rfl | exact State.warmedH_refl s | exact State.WarmedH.refl _
