/-! the world as the constructors leave it -/
def adS (q bA f1 o1 t1 n1 f2 o2 t2 n2 al ac ar ae av q5 ol od : Nat) (r r1 r2 a : Nat → Nat) : Nat → Nat := fun c =>
  if 2 ≤ c ∧ c < 34 then r (c - 2) else if 36 ≤ c ∧ c < 39 then r1 (c - 36) else if 43 ≤ c ∧ c < 46 then r2 (c - 43) else if 54 ≤ c ∧ c < 70 then a c else
  match c with | 0 => q | 1 => bA | 34 => f1 | 35 => o1 | 39 => t1 | 40 => n1 | 41 => f2 | 42 => o2 | 46 => t2 | 47 => n2 | 48 => al | 49 => ac | 50 => ar | 51 => ae | 52 => av | 53 => q5 | 70 => ol | _ => od
def I00 (sd : Int32) : Im := u2 (u2 (u2 (u2 (u2 (u2 (fun _ _ => 0) 0 0 sd) 49 0 10) 49 1 1) 50 3 (-1)) 53 16 10) 53 17 1
def F00 : Dm := fun c => if c = 48 ∨ c = 66 then l16 else fun _ => 0
def J00 (sd : Int32) : Jm := u2 (fun _ _ => 0) 53 1 sd.toInt64
def w4L (cy : Nat → ClassId) (sd : Int32) (q bA f1 o1 t1 n1 f2 o2 t2 n2 al ac ar ae av : Nat) (r r1 r2 : Nat → Nat) : va_W := ((((((q, .inr (4, [.int sd, .ref bA, .int 0, .ref f1, .ref f2, .ref al, .ref ac, .ref ar])) :: (bA, eR cy 32 (fun k => if k < 32 then some (r k) else none)) :: bW r 32) ++ fitL cy f1 o1 t1 n1 r1) ++ fitL cy f2 o2 t2 n2 r2) ++ [(al, eD cy 4 l16)]) ++ [(ac, .inr (1, [.int 10, .int 1, .int 0, .int 0]))]) ++ refL cy ar ae av
def w5L (cy : Nat → ClassId) (sd : Int32) (q5 : Nat) (a : Nat → Nat) : va_W := [(q5, .inr (5, [.int 0, .long sd.toInt64, .int 0, .ref (a 54), .ref (a 55), .ref (a 56), .ref (a 57), .ref (a 58), .ref (a 59), .ref (a 60), .ref (a 61), .ref (a 62), .ref (a 63), .ref (a 64), .ref (a 65), .ref (a 66), .int 10, .int 1, .int 0, .int 0, .ref (a 67), .int 0, .ref (a 68), .ref (a 69)])), (a 54, eD cy 256 (fun _ => 0)), (a 55, eI cy 32 (fun _ => 0)), (a 56, eD cy 32 (fun _ => 0)), (a 57, eD cy 32 (fun _ => 0)), (a 58, eD cy 32 (fun _ => 0)), (a 59, eZ cy 32 (fun _ => 0)), (a 60, eZ cy 32 (fun _ => 0)), (a 61, eD cy 9 (fun _ => 0)), (a 62, eD cy 3 (fun _ => 0)), (a 63, eZ cy 3 (fun _ => 0)), (a 64, eD cy 3 (fun _ => 0)), (a 65, eD cy 3 (fun _ => 0)), (a 66, eD cy 4 l16), (a 67, eZ cy 8192 (fun _ => 0)), (a 68, eI cy 16 (fun _ => 0)), (a 69, eD cy 16 (fun _ => 0))]
set_option maxRecDepth 100000 in
set_option maxHeartbeats 4000000 in
theorem w_conv (cy : Nat → ClassId) (sd : Int32) (q bA f1 o1 t1 n1 f2 o2 t2 n2 al ac ar ae av q5 ol od : Nat) (r r1 r2 a : Nat → Nat) :
    ((w4L cy sd q bA f1 o1 t1 n1 f2 o2 t2 n2 al ac ar ae av r r1 r2 ++ w5L cy sd q5 a) ++ [(ol, eJ cy 1 (fun _ => 0))]) ++ [(od, eD cy 1 (fun _ => 0))] = wW cy (adS q bA f1 o1 t1 n1 f2 o2 t2 n2 al ac ar ae av q5 ol od r r1 r2 a) (I00 sd) F00 (J00 sd) := by
  have hr : (fun k => if k < 32 then some (r k) else none) = fun k => if k < 32 then some (adS q bA f1 o1 t1 n1 f2 o2 t2 n2 al ac ar ae av q5 ol od r r1 r2 a (2 + k)) else none := by
    funext k
    by_cases h : k < 32
    · rw [if_pos h, if_pos h]
      unfold adS
      rw [if_pos (by omega), Nat.add_sub_cancel_left]
    · rw [if_neg h, if_neg h]
  have h1 : (fun k => if k < 3 then some (r1 k) else none) = fun k => if k < 3 then some (adS q bA f1 o1 t1 n1 f2 o2 t2 n2 al ac ar ae av q5 ol od r r1 r2 a (35 + 1 + k)) else none := by
    funext k
    by_cases h : k < 3
    · rw [if_pos h, if_pos h]
      unfold adS
      rw [if_neg (by omega), if_pos (by omega), show 35 + 1 + k - 36 = k by omega]
    · rw [if_neg h, if_neg h]
  have h2 : (fun k => if k < 3 then some (r2 k) else none) = fun k => if k < 3 then some (adS q bA f1 o1 t1 n1 f2 o2 t2 n2 al ac ar ae av q5 ol od r r1 r2 a (42 + 1 + k)) else none := by
    funext k
    by_cases h : k < 3
    · rw [if_pos h, if_pos h]
      unfold adS
      rw [if_neg (by omega), if_neg (by omega), if_pos (by omega), show 42 + 1 + k - 43 = k by omega]
    · rw [if_neg h, if_neg h]
  unfold w4L w5L fitL
  rw [hr, h1, h2]
  rfl
