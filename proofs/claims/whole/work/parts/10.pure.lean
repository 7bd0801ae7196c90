/-! A PURE MACHINE: values are (kind, number); kinds: 0 int, 1 long, 2 null, 3 the script, 5 a text constant (by its number), 9 nothing known, 16 + k a reference to the world's cell k.
A world: the cells' shapes (tag, length), the references (kinds) and the numbers that they hold. Tags: 0 int[], 1 long[], 2 char[], 3 boolean[], 4 + c an object of the class c. -/
abbrev pV : Type := Nat × Int
abbrev pW : Type := List (Nat × Nat) × (Nat → Nat → Nat) × (Nat → Int → Int)
abbrev pK : Type := Nat → List pV → List pV → pW → Prop
abbrev pC : Type := Nat → List pV → pW → pV → pW → Prop
abbrev pE : Type := pV → pW → Prop
abbrev pT : Type := pC → pK → pE → List pV → List pV → pW → Prop
def w32 (x : Int) : Int := (x + 2147483648) % 4294967296 - 2147483648
def w64 (x : Int) : Int := (x + 9223372036854775808) % 18446744073709551616 - 9223372036854775808
def r32 (x : Int) : Prop := -2147483648 ≤ x ∧ x < 2147483648
def r64 (x : Int) : Prop := -9223372036854775808 ≤ x ∧ x < 9223372036854775808
def up2 {ι α : Type} [DecidableEq ι] (f : Nat → ι → α) (k : Nat) (i : ι) (v : α) : Nat → ι → α := fun k' i' => if k' = k ∧ i' = i then v else f k' i'
def i32 (x : Int) : Int32 := Int32.ofInt x
def i64 (x : Int) : Int64 := Int64.ofInt x
theorem w32_in (x : Int) : r32 (w32 x) := by unfold r32 w32; omega
theorem w64_in (x : Int) : r64 (w64 x) := by unfold r64 w64; omega
theorem w32_id {x : Int} (h : r32 x) : w32 x = x := by unfold r32 at h; unfold w32; omega
theorem zs32 : ((Int32.size : Nat) : Int) = 4294967296 := rfl
theorem zs64 : ((Int64.size : Nat) : Int) = 18446744073709551616 := rfl
theorem i32_toInt {x : Int} (h : r32 x) : (i32 x).toInt = x := by
  unfold r32 at h; unfold i32
  rw [Int32.toInt_ofInt]; simp only [Int.bmod, zs32]; split <;> omega
theorem i64_toInt {x : Int} (h : r64 x) : (i64 x).toInt = x := by
  unfold r64 at h; unfold i64
  rw [Int64.toInt_ofInt]; simp only [Int.bmod, zs64]; split <;> omega
theorem i32_of (y : Int32) : i32 y.toInt = y := by unfold i32; simp
theorem i64_of (y : Int64) : i64 y.toInt = y := by unfold i64; simp
theorem r32_of (y : Int32) : r32 y.toInt := by
  have h1 := Int32.le_toInt y; have h2 := Int32.toInt_lt y
  unfold r32; omega
theorem r64_of (y : Int64) : r64 y.toInt := by
  have h1 := Int64.le_toInt y; have h2 := Int64.toInt_lt y
  unfold r64; omega
theorem i32_w (x : Int) : i32 (w32 x) = i32 x := by
  apply Int32.toInt_inj.mp
  unfold i32
  rw [Int32.toInt_ofInt, Int32.toInt_ofInt]
  unfold w32; simp only [Int.bmod, zs32]; split <;> split <;> omega
theorem i64_w (x : Int) : i64 (w64 x) = i64 x := by
  apply Int64.toInt_inj.mp
  unfold i64
  rw [Int64.toInt_ofInt, Int64.toInt_ofInt]
  unfold w64; simp only [Int.bmod, zs64]; split <;> split <;> omega
theorem i32_add (a b : Int) : i32 (w32 (a + b)) = i32 a + i32 b := by rw [i32_w]; unfold i32; exact Int32.ofInt_add _ _
theorem i32_sub (a b : Int) : i32 (w32 (a - b)) = i32 a - i32 b := by rw [i32_w]; unfold i32; exact Int32.ofInt_sub _ _
theorem i32_mul (a b : Int) : i32 (w32 (a * b)) = i32 a * i32 b := by rw [i32_w]; unfold i32; exact Int32.ofInt_mul _ _
theorem i64_add (a b : Int) : i64 (w64 (a + b)) = i64 a + i64 b := by rw [i64_w]; unfold i64; exact Int64.ofInt_add _ _
theorem i64_sub (a b : Int) : i64 (w64 (a - b)) = i64 a - i64 b := by rw [i64_w]; unfold i64; exact Int64.ofInt_sub _ _
theorem i64_mul (a b : Int) : i64 (w64 (a * b)) = i64 a * i64 b := by rw [i64_w]; unfold i64; exact Int64.ofInt_mul _ _
theorem i32_lt {a b : Int} (ha : r32 a) (hb : r32 b) : i32 a < i32 b ↔ a < b := by rw [Int32.lt_iff_toInt_lt, i32_toInt ha, i32_toInt hb]
theorem i32_le {a b : Int} (ha : r32 a) (hb : r32 b) : i32 a ≤ i32 b ↔ a ≤ b := by rw [Int32.le_iff_toInt_le, i32_toInt ha, i32_toInt hb]
theorem i32_eq {a b : Int} (ha : r32 a) (hb : r32 b) : i32 a = i32 b ↔ a = b := by rw [← Int32.toInt_inj, i32_toInt ha, i32_toInt hb]
theorem i32_0 : i32 0 = 0 := rfl
theorem r32_0 : r32 0 := by unfold r32; omega
