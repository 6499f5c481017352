/-! LONGS: a word of 64 bits as an integer -/
def q_j (x : Int) : Int64 := Int64.ofInt x
theorem q_jto {x : Int} (h : -9223372036854775808 ≤ x) (h1 : x < 9223372036854775808) : (q_j x).toInt = x := by
  unfold q_j; rw [Int64.toInt_ofInt]; exact Int.bmod_eq_of_le (by show -((18446744073709551616 : Nat) : Int) / 2 ≤ x; omega) (by show x < (((18446744073709551616 : Nat) : Int) + 1) / 2; omega)
theorem q_jof {x : Int64} : q_j x.toInt = x := by unfold q_j; exact Int64.ofInt_toInt x
theorem q_jadd {x y : Int} : q_j x + q_j y = q_j (x + y) := by unfold q_j; exact (Int64.ofInt_add x y).symm
theorem q_jsub {x y : Int} : q_j x - q_j y = q_j (x - y) := by unfold q_j; exact (Int64.ofInt_sub x y).symm
theorem q_jmul {x y : Int} : q_j x * q_j y = q_j (x * y) := by unfold q_j; exact (Int64.ofInt_mul x y).symm
theorem q_i2l {x : Int} (h : -2147483648 ≤ x) (h1 : x < 2147483648) : (q_i x).toInt64 = q_j x := by
  apply Int64.toInt_inj.mp
  rw [Int32.toInt_toInt64, q_to h h1, q_jto (by omega) (by omega)]
theorem q_l2i {x : Int} : (q_j x).toInt32 = q_i x := by unfold q_j q_i; exact Int64.toInt32_ofInt
def q_cm (x y : Int) : Int := if y < x then 1 else if x = y then 0 else -1
theorem q_jcmp {x y : Int} (h : -9223372036854775808 ≤ x) (h1 : x < 9223372036854775808) (h2 : -9223372036854775808 ≤ y) (h3 : y < 9223372036854775808) : lg_cmp (q_j x) (q_j y) = q_i (q_cm x y) := by
  unfold lg_cmp q_cm
  have e1 : (q_j x > q_j y) = (y < x) := by show (q_j y < q_j x) = _; rw [Int64.lt_iff_toInt_lt, q_jto h h1, q_jto h2 h3]
  have e2 : (q_j x = q_j y) = (x = y) := propext ⟨fun q => by rw [← q_jto h h1, ← q_jto h2 h3, q], fun q => by rw [q]⟩
  simp only [e1, e2]
  (repeat' split) <;> rfl
theorem q_cmw {x y : Int} : -1 ≤ q_cm x y ∧ q_cm x y ≤ 1 := by unfold q_cm; (repeat' split) <;> omega
theorem q_cm1 {x y : Int} : (q_i (q_cm x y) < q_i 0) = (x < y) := by
  have h := q_cmw (x := x) (y := y)
  rw [q_lt (by omega) (by omega) (by omega) (by omega)]
  unfold q_cm; (repeat' split) <;> simp <;> omega
theorem q_cm2 {x y : Int} : (q_i 0 < q_i (q_cm x y)) = (y < x) := by
  have h := q_cmw (x := x) (y := y)
  rw [q_lt (by omega) (by omega) (by omega) (by omega)]
  unfold q_cm; (repeat' split) <;> simp <;> omega
theorem q_cm3 {x y : Int} : (q_i (q_cm x y) ≤ q_i 0) = (x ≤ y) := by
  have h := q_cmw (x := x) (y := y)
  rw [q_le (by omega) (by omega) (by omega) (by omega)]
  unfold q_cm; (repeat' split) <;> simp <;> omega
theorem q_cm4 {x y : Int} : (q_i 0 ≤ q_i (q_cm x y)) = (y ≤ x) := by
  have h := q_cmw (x := x) (y := y)
  rw [q_le (by omega) (by omega) (by omega) (by omega)]
  unfold q_cm; (repeat' split) <;> simp <;> omega
theorem q_cm5 {x y : Int} : (q_i (q_cm x y) = q_i 0) = (x = y) := by
  have h := q_cmw (x := x) (y := y)
  rw [q_eq (by omega) (by omega) (by omega) (by omega)]
  unfold q_cm; (repeat' split) <;> simp <;> omega
theorem q_jdiv {x y : Int} (h : 0 ≤ x) (h1 : x < 9223372036854775808) (h2 : 0 < y) (h3 : y < 9223372036854775808) : q_j x / q_j y = q_j (x / y) := by
  have h8 : x / y ≤ x := Int.ediv_le_self y h
  have h7 : 0 ≤ x / y := Int.ediv_nonneg h (by omega)
  apply Int64.toInt_inj.mp
  rw [Int64.toInt_div, q_jto (by omega) h1, q_jto (by omega) h3, q_jto (by omega) (by omega), Int.tdiv_eq_ediv_of_nonneg h]
  exact Int.bmod_eq_of_le (by show -((18446744073709551616 : Nat) : Int) / 2 ≤ _; omega) (by show _ < (((18446744073709551616 : Nat) : Int) + 1) / 2; omega)
theorem q_jrem {x y : Int} : q_j (x - x / y * y) = q_j (x % y) := by rw [q_mo]
theorem q_l51 : (51 : Int32) = q_i 51 := rfl
theorem q_t51 : Int.toNat 51 = 51 := rfl
theorem q_l118 : (118 : Int32) = q_i 118 := rfl
theorem q_t118 : Int.toNat 118 = 118 := rfl
theorem q_l156 : (156 : Int32) = q_i 156 := rfl
theorem q_t156 : Int.toNat 156 = 156 := rfl
theorem q_j0 : (0 : Int64) = q_j 0 := rfl
theorem q_j1 : (1 : Int64) = q_j 1 := rfl
theorem q_j2 : (2 : Int64) = q_j 2 := rfl
theorem q_j3 : (3 : Int64) = q_j 3 := rfl
theorem q_j4 : (4 : Int64) = q_j 4 := rfl
theorem q_j5 : (5 : Int64) = q_j 5 := rfl
theorem q_j6 : (6 : Int64) = q_j 6 := rfl
theorem q_j9 : (9 : Int64) = q_j 9 := rfl
theorem q_j13 : (13 : Int64) = q_j 13 := rfl
theorem q_j24 : (24 : Int64) = q_j 24 := rfl
theorem q_j50 : (50 : Int64) = q_j 50 := rfl
theorem q_j99 : (99 : Int64) = q_j 99 := rfl
theorem q_j255 : (255 : Int64) = q_j 255 := rfl
theorem q_j9999 : (9999 : Int64) = q_j 9999 := rfl
theorem q_jm9 : (-9 : Int64) = q_j (-9) := rfl
theorem q_jk : (100000 : Int64) = q_j 100000 := rfl
theorem q_jk2 : (10000000000 : Int64) = q_j 10000000000 := rfl
theorem q_jk3 : (1000000000000000 : Int64) = q_j 1000000000000000 := rfl
section Z29
variable {W : Nat → Nat → Int} {o : Int64} {k : Nat} {u : Int} {H : Int}
theorem z_X10_in {v a c : Int} (h : -9223372036854775808 ≤ v ∧ v < 9223372036854775808) (h1 : -9223372036854775808 ≤ a ∧ a < 9223372036854775808) (h2 : -9223372036854775808 ≤ c ∧ c < 9223372036854775808) : F_X10_in (q_I W, o) [.inr (.inl (q_j v)), .inr (.inl (q_j a)), .inr (.inl (q_j c))] = some ((q_I W, o), .ok (some (.inl (q_i (q_b (a ≤ v ∧ v ≤ c)))))) := by
  rw [e_X10_in]
  simp (disch := first | exact nl_i | exact nl_r | exact nl_n | exact q_vp (by omega) (by omega) (by omega) | exact Nat.le_of_ble_eq_true rfl | exact q_nz (by omega) (by omega) (by omega) | exact q_cg (by omega) (by omega) (by omega) (by omega) (by omega) (by omega) (by omega) | exact q_bz | exact q_zo (by omega) | assumption | omega | (simp (disch := omega) only [q_re, q_rn, q_pe, q_pn]; done) | (simp (disch := omega) only [q_re, q_rn, q_pe, q_pn]; omega) | (simp (disch := omega) only [q_re, q_rn, q_pe, q_pn, q_tc]; done) | (simp (disch := omega) only [q_re, q_rn, q_pe, q_pn, q_tc]; omega) | (simp (disch := omega) only [q_re, q_rn, q_pe, q_pn, q_tc]; assumption) | rfl) only [s_X10_in_0, s_X10_in_1, s_X10_in_2, s_X10_in_3, s_X10_in_6, s_X10_in_7, s_X10_in_9, s_X10_in_10, s_X10_in_13, s_X10_in_14, s_X10_in_17, s_X10_in_18, sm_k1_ok, sm_k1_er, sm_tl_s, sm_tl_n, q_Ia, q_Iu, q_add, q_sub, q_mul, q_neg, q_lt, q_le, q_eq, q_tn, q_div, q_mod, q_mo, q_b0, q_if, q_uu, q_re, q_rr, q_r3, q_r4, q_rn, q_pe, q_pn, q_pp, q_ta, q_tm, q_tc, q_na, q_n0, q_n1, q_ip, q_in, q_cpe, Nat.add_zero, ite_not, q_l0, q_l1, q_l2, q_l3, q_l4, q_l5, q_l6, q_l7, q_l8, q_l9, q_l10, q_l11, q_l12, q_l13, q_l14, q_l15, q_l18, q_l19, q_l20, q_l22, q_l24, q_l32, q_l36, q_l37, q_l39, q_l43, q_l45, q_l48, q_l49, q_l50, q_l52, q_l53, q_l55, q_l57, q_l80, q_l93, q_l99, q_l100, q_l103, q_l115, q_l117, q_l119, q_l120, q_l154, q_l155, q_l157, q_l255, q_l256, q_l300, q_l314, q_l500, q_l990, q_l999, q_l1000, q_l1041, q_l2041, q_l9999, q_l10000, q_l31, q_l33, q_m1, q_m2, q_m3, q_m4, q_m5, q_m7, q_m8, q_m9, q_m9999, q_t0, q_t1, q_t2, q_t3, q_t4, q_t5, q_t6, q_t7, q_t8, q_t9, q_t10, q_t11, q_t12, q_t13, q_t14, q_t15, q_t18, q_t19, q_t20, q_t22, q_t24, q_t32, q_t36, q_t37, q_t39, q_t43, q_t45, q_t48, q_t49, q_t50, q_t52, q_t53, q_t55, q_t57, q_t80, q_t93, q_t99, q_t100, q_t103, q_t115, q_t117, q_t119, q_t120, q_t154, q_t155, q_t157, q_t255, q_t256, q_t300, q_t314, q_t500, q_t990, q_t999, q_t1000, q_t1041, q_t2041, q_t9999, q_t10000, q_t31, q_t33, q_jadd, q_jsub, q_jmul, q_i2l, q_l2i, q_jcmp, q_cm1, q_cm2, q_cm3, q_cm4, q_cm5, q_jdiv, q_jrem, q_j0, q_j1, q_j2, q_j3, q_j4, q_j5, q_j6, q_j9, q_j24, q_j50, q_j99, q_j255, q_j9999, q_jm9, q_jk, q_jk2, q_jk3, Nat.reduceAdd, Nat.reduceMul, Nat.zero_add, q_l51, q_l118, q_l156, q_t51, q_t118, q_t156, q_j13]
  by_cases c1 : v < a
  · rw [q_bf (by omega), if_pos c1]
  · rw [if_neg c1]
    by_cases c2 : c < v
    · rw [q_bf (by omega), if_pos c2]
    · rw [q_bt (by omega), if_neg c2]
end Z29
