/-! LONGS: a word of 64 bits as an integer -/
def q_j (x : Int) : Int64 := Int64.ofInt x
theorem q_jto {x : Int} (h : -9223372036854775808 ≤ x) (h1 : x < 9223372036854775808) : (q_j x).toInt = x := by
  unfold q_j; rw [Int64.toInt_ofInt]; exact Int.bmod_eq_of_le (by show -((18446744073709551616 : Nat) : Int) / 2 ≤ x; omega) (by show x < (((18446744073709551616 : Nat) : Int) + 1) / 2; omega)
theorem q_jof {x : Int64} : q_j x.toInt = x := by unfold q_j; exact Int64.ofInt_toInt x
theorem q_jadd {x y : Int} : q_j x + q_j y = q_j (x + y) := by unfold q_j; exact (Int64.ofInt_add x y).symm
theorem q_jsub {x y : Int} : q_j x - q_j y = q_j (x - y) := by unfold q_j; exact (Int64.ofInt_sub x y).symm
theorem q_jmul {x y : Int} : q_j x * q_j y = q_j (x * y) := by unfold q_j; exact (Int64.ofInt_mul x y).symm
theorem q_i2l {x : Int} (h : -2147483648 ≤ x) (h1 : x < 2147483648) : (q_i x).toInt64 = q_j x := by
  apply Int64.toInt_inj.mp
  rw [Int32.toInt_toInt64, q_to h h1, q_jto (by omega) (by omega)]
theorem q_l2i {x : Int} : (q_j x).toInt32 = q_i x := by unfold q_j q_i; exact Int64.toInt32_ofInt
def q_cm (x y : Int) : Int := if y < x then 1 else if x = y then 0 else -1
theorem q_jcmp {x y : Int} (h : -9223372036854775808 ≤ x) (h1 : x < 9223372036854775808) (h2 : -9223372036854775808 ≤ y) (h3 : y < 9223372036854775808) : lg_cmp (q_j x) (q_j y) = q_i (q_cm x y) := by
  unfold lg_cmp q_cm
  have e1 : (q_j x > q_j y) = (y < x) := by show (q_j y < q_j x) = _; rw [Int64.lt_iff_toInt_lt, q_jto h h1, q_jto h2 h3]
  have e2 : (q_j x = q_j y) = (x = y) := propext ⟨fun q => by rw [← q_jto h h1, ← q_jto h2 h3, q], fun q => by rw [q]⟩
  simp only [e1, e2]
  (repeat' split) <;> rfl
theorem q_cmw {x y : Int} : -1 ≤ q_cm x y ∧ q_cm x y ≤ 1 := by unfold q_cm; (repeat' split) <;> omega
theorem q_cm1 {x y : Int} : (q_i (q_cm x y) < q_i 0) = (x < y) := by
  have h := q_cmw (x := x) (y := y)
  rw [q_lt (by omega) (by omega) (by omega) (by omega)]
  unfold q_cm; (repeat' split) <;> simp <;> omega
theorem q_cm2 {x y : Int} : (q_i 0 < q_i (q_cm x y)) = (y < x) := by
  have h := q_cmw (x := x) (y := y)
  rw [q_lt (by omega) (by omega) (by omega) (by omega)]
  unfold q_cm; (repeat' split) <;> simp <;> omega
theorem q_cm3 {x y : Int} : (q_i (q_cm x y) ≤ q_i 0) = (x ≤ y) := by
  have h := q_cmw (x := x) (y := y)
  rw [q_le (by omega) (by omega) (by omega) (by omega)]
  unfold q_cm; (repeat' split) <;> simp <;> omega
theorem q_cm4 {x y : Int} : (q_i 0 ≤ q_i (q_cm x y)) = (y ≤ x) := by
  have h := q_cmw (x := x) (y := y)
  rw [q_le (by omega) (by omega) (by omega) (by omega)]
  unfold q_cm; (repeat' split) <;> simp <;> omega
theorem q_cm5 {x y : Int} : (q_i (q_cm x y) = q_i 0) = (x = y) := by
  have h := q_cmw (x := x) (y := y)
  rw [q_eq (by omega) (by omega) (by omega) (by omega)]
  unfold q_cm; (repeat' split) <;> simp <;> omega
theorem q_jdiv {x y : Int} (h : 0 ≤ x) (h1 : x < 9223372036854775808) (h2 : 0 < y) (h3 : y < 9223372036854775808) : q_j x / q_j y = q_j (x / y) := by
  have h8 : x / y ≤ x := Int.ediv_le_self y h
  have h7 : 0 ≤ x / y := Int.ediv_nonneg h (by omega)
  apply Int64.toInt_inj.mp
  rw [Int64.toInt_div, q_jto (by omega) h1, q_jto (by omega) h3, q_jto (by omega) (by omega), Int.tdiv_eq_ediv_of_nonneg h]
  exact Int.bmod_eq_of_le (by show -((18446744073709551616 : Nat) : Int) / 2 ≤ _; omega) (by show _ < (((18446744073709551616 : Nat) : Int) + 1) / 2; omega)
theorem q_jrem {x y : Int} : q_j (x - x / y * y) = q_j (x % y) := by rw [q_mo]
theorem q_l118 : (118 : Int32) = q_i 118 := rfl
theorem q_t118 : Int.toNat 118 = 118 := rfl
theorem q_l156 : (156 : Int32) = q_i 156 := rfl
theorem q_t156 : Int.toNat 156 = 156 := rfl
theorem q_j0 : (0 : Int64) = q_j 0 := rfl
theorem q_j1 : (1 : Int64) = q_j 1 := rfl
theorem q_j2 : (2 : Int64) = q_j 2 := rfl
theorem q_j3 : (3 : Int64) = q_j 3 := rfl
theorem q_j4 : (4 : Int64) = q_j 4 := rfl
theorem q_j5 : (5 : Int64) = q_j 5 := rfl
theorem q_j6 : (6 : Int64) = q_j 6 := rfl
theorem q_j9 : (9 : Int64) = q_j 9 := rfl
theorem q_j13 : (13 : Int64) = q_j 13 := rfl
theorem q_j24 : (24 : Int64) = q_j 24 := rfl
theorem q_j50 : (50 : Int64) = q_j 50 := rfl
theorem q_j99 : (99 : Int64) = q_j 99 := rfl
theorem q_j255 : (255 : Int64) = q_j 255 := rfl
theorem q_j9999 : (9999 : Int64) = q_j 9999 := rfl
theorem q_jm9 : (-9 : Int64) = q_j (-9) := rfl
theorem q_jk : (100000 : Int64) = q_j 100000 := rfl
theorem q_jk2 : (10000000000 : Int64) = q_j 10000000000 := rfl
theorem q_jk3 : (1000000000000000 : Int64) = q_j 1000000000000000 := rfl
