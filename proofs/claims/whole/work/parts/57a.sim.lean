/-! SIMULATIONS: the class -/
section Z57a
variable {W V : Nat → Nat → Int} {P A P1 A1 : Nat → Int} {H H1 G : Int} {u v w z g k a b c e : Int} {o s : Int64} {F9 : sm_F}
theorem e_rr (x : Int64) : ((x.toUInt64 >>> ((q_j 33).toUInt64 &&& Int64.toUInt64 63)).toInt64).toInt32 = q_i (e_n x) := by
  have e33 : (q_j 33).toUInt64 &&& Int64.toUInt64 63 = 33 := by decide
  rw [e33]
  generalize hy : x.toUInt64 >>> (33 : UInt64) = y
  have hn : y.toNat = x.toUInt64.toNat / 8589934592 := by
    rw [← hy, UInt64.toNat_shiftRight]
    show x.toUInt64.toNat >>> 33 = _
    rw [Nat.shiftRight_eq_div_pow]
  have hl : x.toUInt64.toNat < 18446744073709551616 := UInt64.toNat_lt _
  have hs : y.toNat < 2147483648 := by omega
  have en : e_n x = (y.toNat : Int) := by unfold e_n; rw [hn]
  rw [en]
  apply Int32.toInt_inj.mp
  rw [Int64.toInt_toInt32, q_to (by omega) (by omega)]
  have e1 : y.toInt64.toInt = (y.toNat : Int) := by
    show (y.toBitVec).toInt = (y.toBitVec.toNat : Int)
    exact BitVec.toInt_eq_toNat_of_lt (by show 2 * y.toNat < _; omega)
  rw [e1]
  exact Int.bmod_eq_of_le (by omega) (by omega)
theorem e_nw {x : Int64} : 0 ≤ e_n x ∧ e_n x < 2147483648 := by
  have hl : x.toUInt64.toNat < 18446744073709551616 := UInt64.toNat_lt _
  unfold e_n
  omega
theorem dis_ok {r : Int} (ok : q_ok H 8 P) (hr : 0 ≤ r) : q_ok H 8 (q_dis r P) := by
  have a4 := ok.1.2.2.2.2.1
  have a5 := ok.1.2.2.2.2.2.1
  have a6 := ok.1.2.2.2.2.2.2.1
  have m1 : 0 ≤ r / 8 % P 6 := Int.emod_nonneg _ (by omega)
  have m2 : r / 8 % P 6 < P 6 := Int.emod_lt_of_pos _ (by omega)
  unfold q_dis
  split
  · exact q_ok_pu ok (by omega) (fun s _ => by omega) (fun g _ => by omega) (fun i _ => by omega)
  · split
    · exact q_fill_ok ok (by omega) (by omega)
    · exact ok
theorem dis_rel {r : Int} (h : p_rel H P A) (hr : 0 ≤ r) : p_rel H (q_dis r P) (q_dis r A) := by
  have a6 := h.2.1.1.2.2.2.2.2.2.1
  have e6 := sl_lt h.1.1 (j := 6) (by omega)
  have m1 : 0 ≤ r / 8 % P 6 := Int.emod_nonneg _ (by omega)
  have m2 : r / 8 % P 6 < P 6 := Int.emod_lt_of_pos _ (by omega)
  have ok1 := dis_ok h.2.1 hr
  unfold q_dis at ok1 ⊢
  rw [← e6]
  split
  · rename_i c
    rw [if_pos c] at ok1
    exact cell_rel h (by omega) ok1
  · split
    · exact fill_rel h (by omega)
    · exact h
theorem z_X9_disturb {r : Int} (ok : q_ok H 8 (W 1)) (hr : 0 ≤ r ∧ r < 2147483648) : F_X9_disturb (q_I W, o) [.inr (.inr (9, 0, 0)), .inl (q_i (r))] = some ((q_I (q_rg W 1 (q_dis r (W 1))), o), .ok none) := by
  have a1 := ok.1.2.1
  have a6 := ok.1.2.2.2.2.2.2.1
  have a7 := ok.1.2.2.2.2.2.2.2.1
  have z1 := z_X8_change (W := W) (o := o) (k := 1) (u := r / 8) (v := r / 256 % 19 - 9) (by omega) a6
  have z2 := z_X7_bringIn (W := W) (o := o) (k := 1) (u := 1 + r / 8 % 100) (by omega) (by omega) (by omega)
  rw [e_X9_disturb]
  unfold q_dis
  by_cases c : r % 8 = 0
  · rw [if_pos c]
    simp (disch := first | exact nl_i | exact nl_r | exact nl_n | exact q_vp (by omega) (by omega) (by omega) | exact Nat.le_of_ble_eq_true rfl | exact q_nz (by omega) (by omega) (by omega) | exact q_cg (by omega) (by omega) (by omega) (by omega) (by omega) (by omega) (by omega) | exact q_bz | exact q_zo (by omega) | assumption | omega | (simp (disch := omega) only [q_re, q_rn, q_pe, q_pn]; done) | (simp (disch := omega) only [q_re, q_rn, q_pe, q_pn]; omega) | (simp (disch := omega) only [q_re, q_rn, q_pe, q_pn, q_tc]; done) | (simp (disch := omega) only [q_re, q_rn, q_pe, q_pn, q_tc]; omega) | (simp (disch := omega) only [q_re, q_rn, q_pe, q_pn, q_tc]; assumption) | rfl) only [s_X9_disturb_0, s_X9_disturb_1, s_X9_disturb_3, s_X9_disturb_4, s_X9_disturb_7, s_X9_disturb_8, s_X9_disturb_11, s_X9_disturb_14, s_X9_disturb_15, s_X9_disturb_17, s_X9_disturb_18, s_X9_disturb_19, s_X9_disturb_22, s_X9_disturb_23, s_X9_disturb_25, s_X9_disturb_26, s_X9_disturb_28, s_X9_disturb_29, s_X9_disturb_32, s_X9_disturb_35, s_X9_disturb_36, s_X9_disturb_38, s_X9_disturb_39, s_X9_disturb_40, s_X9_disturb_43, s_X9_disturb_44, s_X9_disturb_47, s_X9_disturb_50, s_X9_disturb_51, s_X9_disturb_52, s_X9_disturb_54, s_X9_disturb_55, s_X9_disturb_57, s_X9_disturb_58, s_X9_disturb_59, s_X9_disturb_62, s_X9_disturb_63, sm_k1_ok, sm_k1_er, sm_tl_s, sm_tl_n, q_Ia, q_Iu, q_add, q_sub, q_mul, q_neg, q_lt, q_le, q_eq, q_tn, q_div, q_mod, q_mo, q_b0, q_if, q_uu, q_re, q_rr, q_r3, q_r4, q_rn, q_pe, q_pn, q_pp, q_ta, q_tm, q_tc, q_na, q_n0, q_n1, q_ip, q_in, q_cpe, Nat.add_zero, ite_not, q_l0, q_l1, q_l2, q_l3, q_l4, q_l5, q_l6, q_l7, q_l8, q_l9, q_l10, q_l11, q_l12, q_l13, q_l14, q_l15, q_l18, q_l19, q_l20, q_l22, q_l24, q_l32, q_l36, q_l37, q_l39, q_l43, q_l45, q_l48, q_l49, q_l50, q_l52, q_l53, q_l55, q_l57, q_l80, q_l93, q_l99, q_l100, q_l103, q_l115, q_l117, q_l119, q_l120, q_l154, q_l155, q_l157, q_l255, q_l256, q_l300, q_l314, q_l500, q_l990, q_l999, q_l1000, q_l1041, q_l2041, q_l9999, q_l10000, q_l31, q_l33, q_m1, q_m2, q_m3, q_m4, q_m5, q_m7, q_m8, q_m9, q_m9999, q_t0, q_t1, q_t2, q_t3, q_t4, q_t5, q_t6, q_t7, q_t8, q_t9, q_t10, q_t11, q_t12, q_t13, q_t14, q_t15, q_t18, q_t19, q_t20, q_t22, q_t24, q_t32, q_t36, q_t37, q_t39, q_t43, q_t45, q_t48, q_t49, q_t50, q_t52, q_t53, q_t55, q_t57, q_t80, q_t93, q_t99, q_t100, q_t103, q_t115, q_t117, q_t119, q_t120, q_t154, q_t155, q_t157, q_t255, q_t256, q_t300, q_t314, q_t500, q_t990, q_t999, q_t1000, q_t1041, q_t2041, q_t9999, q_t10000, q_t31, q_t33, q_jadd, q_jsub, q_jmul, q_i2l, q_l2i, q_jcmp, q_cm1, q_cm2, q_cm3, q_cm4, q_cm5, q_jdiv, q_jrem, q_j0, q_j1, q_j2, q_j3, q_j4, q_j5, q_j6, q_j9, q_j24, q_j50, q_j99, q_j255, q_j9999, q_jm9, q_jk, q_jk2, q_jk3, Nat.reduceAdd, Nat.reduceMul, Nat.zero_add, q_l51, q_l118, q_l156, q_t51, q_t118, q_t156, q_j13, c, z1]
  · rw [if_neg c]
    by_cases d : r % 8 = 1
    · rw [if_pos d]
      simp (disch := first | exact nl_i | exact nl_r | exact nl_n | exact q_vp (by omega) (by omega) (by omega) | exact Nat.le_of_ble_eq_true rfl | exact q_nz (by omega) (by omega) (by omega) | exact q_cg (by omega) (by omega) (by omega) (by omega) (by omega) (by omega) (by omega) | exact q_bz | exact q_zo (by omega) | assumption | omega | (simp (disch := omega) only [q_re, q_rn, q_pe, q_pn]; done) | (simp (disch := omega) only [q_re, q_rn, q_pe, q_pn]; omega) | (simp (disch := omega) only [q_re, q_rn, q_pe, q_pn, q_tc]; done) | (simp (disch := omega) only [q_re, q_rn, q_pe, q_pn, q_tc]; omega) | (simp (disch := omega) only [q_re, q_rn, q_pe, q_pn, q_tc]; assumption) | rfl) only [s_X9_disturb_0, s_X9_disturb_1, s_X9_disturb_3, s_X9_disturb_4, s_X9_disturb_7, s_X9_disturb_8, s_X9_disturb_11, s_X9_disturb_14, s_X9_disturb_15, s_X9_disturb_17, s_X9_disturb_18, s_X9_disturb_19, s_X9_disturb_22, s_X9_disturb_23, s_X9_disturb_25, s_X9_disturb_26, s_X9_disturb_28, s_X9_disturb_29, s_X9_disturb_32, s_X9_disturb_35, s_X9_disturb_36, s_X9_disturb_38, s_X9_disturb_39, s_X9_disturb_40, s_X9_disturb_43, s_X9_disturb_44, s_X9_disturb_47, s_X9_disturb_50, s_X9_disturb_51, s_X9_disturb_52, s_X9_disturb_54, s_X9_disturb_55, s_X9_disturb_57, s_X9_disturb_58, s_X9_disturb_59, s_X9_disturb_62, s_X9_disturb_63, sm_k1_ok, sm_k1_er, sm_tl_s, sm_tl_n, q_Ia, q_Iu, q_add, q_sub, q_mul, q_neg, q_lt, q_le, q_eq, q_tn, q_div, q_mod, q_mo, q_b0, q_if, q_uu, q_re, q_rr, q_r3, q_r4, q_rn, q_pe, q_pn, q_pp, q_ta, q_tm, q_tc, q_na, q_n0, q_n1, q_ip, q_in, q_cpe, Nat.add_zero, ite_not, q_l0, q_l1, q_l2, q_l3, q_l4, q_l5, q_l6, q_l7, q_l8, q_l9, q_l10, q_l11, q_l12, q_l13, q_l14, q_l15, q_l18, q_l19, q_l20, q_l22, q_l24, q_l32, q_l36, q_l37, q_l39, q_l43, q_l45, q_l48, q_l49, q_l50, q_l52, q_l53, q_l55, q_l57, q_l80, q_l93, q_l99, q_l100, q_l103, q_l115, q_l117, q_l119, q_l120, q_l154, q_l155, q_l157, q_l255, q_l256, q_l300, q_l314, q_l500, q_l990, q_l999, q_l1000, q_l1041, q_l2041, q_l9999, q_l10000, q_l31, q_l33, q_m1, q_m2, q_m3, q_m4, q_m5, q_m7, q_m8, q_m9, q_m9999, q_t0, q_t1, q_t2, q_t3, q_t4, q_t5, q_t6, q_t7, q_t8, q_t9, q_t10, q_t11, q_t12, q_t13, q_t14, q_t15, q_t18, q_t19, q_t20, q_t22, q_t24, q_t32, q_t36, q_t37, q_t39, q_t43, q_t45, q_t48, q_t49, q_t50, q_t52, q_t53, q_t55, q_t57, q_t80, q_t93, q_t99, q_t100, q_t103, q_t115, q_t117, q_t119, q_t120, q_t154, q_t155, q_t157, q_t255, q_t256, q_t300, q_t314, q_t500, q_t990, q_t999, q_t1000, q_t1041, q_t2041, q_t9999, q_t10000, q_t31, q_t33, q_jadd, q_jsub, q_jmul, q_i2l, q_l2i, q_jcmp, q_cm1, q_cm2, q_cm3, q_cm4, q_cm5, q_jdiv, q_jrem, q_j0, q_j1, q_j2, q_j3, q_j4, q_j5, q_j6, q_j9, q_j24, q_j50, q_j99, q_j255, q_j9999, q_jm9, q_jk, q_jk2, q_jk3, Nat.reduceAdd, Nat.reduceMul, Nat.zero_add, q_l51, q_l118, q_l156, q_t51, q_t118, q_t156, q_j13, d, z2]
    · rw [if_neg d, q_rs]
      simp (disch := first | exact nl_i | exact nl_r | exact nl_n | exact q_vp (by omega) (by omega) (by omega) | exact Nat.le_of_ble_eq_true rfl | exact q_nz (by omega) (by omega) (by omega) | exact q_cg (by omega) (by omega) (by omega) (by omega) (by omega) (by omega) (by omega) | exact q_bz | exact q_zo (by omega) | assumption | omega | (simp (disch := omega) only [q_re, q_rn, q_pe, q_pn]; done) | (simp (disch := omega) only [q_re, q_rn, q_pe, q_pn]; omega) | (simp (disch := omega) only [q_re, q_rn, q_pe, q_pn, q_tc]; done) | (simp (disch := omega) only [q_re, q_rn, q_pe, q_pn, q_tc]; omega) | (simp (disch := omega) only [q_re, q_rn, q_pe, q_pn, q_tc]; assumption) | rfl) only [s_X9_disturb_0, s_X9_disturb_1, s_X9_disturb_3, s_X9_disturb_4, s_X9_disturb_7, s_X9_disturb_8, s_X9_disturb_11, s_X9_disturb_14, s_X9_disturb_15, s_X9_disturb_17, s_X9_disturb_18, s_X9_disturb_19, s_X9_disturb_22, s_X9_disturb_23, s_X9_disturb_25, s_X9_disturb_26, s_X9_disturb_28, s_X9_disturb_29, s_X9_disturb_32, s_X9_disturb_35, s_X9_disturb_36, s_X9_disturb_38, s_X9_disturb_39, s_X9_disturb_40, s_X9_disturb_43, s_X9_disturb_44, s_X9_disturb_47, s_X9_disturb_50, s_X9_disturb_51, s_X9_disturb_52, s_X9_disturb_54, s_X9_disturb_55, s_X9_disturb_57, s_X9_disturb_58, s_X9_disturb_59, s_X9_disturb_62, s_X9_disturb_63, sm_k1_ok, sm_k1_er, sm_tl_s, sm_tl_n, q_Ia, q_Iu, q_add, q_sub, q_mul, q_neg, q_lt, q_le, q_eq, q_tn, q_div, q_mod, q_mo, q_b0, q_if, q_uu, q_re, q_rr, q_r3, q_r4, q_rn, q_pe, q_pn, q_pp, q_ta, q_tm, q_tc, q_na, q_n0, q_n1, q_ip, q_in, q_cpe, Nat.add_zero, ite_not, q_l0, q_l1, q_l2, q_l3, q_l4, q_l5, q_l6, q_l7, q_l8, q_l9, q_l10, q_l11, q_l12, q_l13, q_l14, q_l15, q_l18, q_l19, q_l20, q_l22, q_l24, q_l32, q_l36, q_l37, q_l39, q_l43, q_l45, q_l48, q_l49, q_l50, q_l52, q_l53, q_l55, q_l57, q_l80, q_l93, q_l99, q_l100, q_l103, q_l115, q_l117, q_l119, q_l120, q_l154, q_l155, q_l157, q_l255, q_l256, q_l300, q_l314, q_l500, q_l990, q_l999, q_l1000, q_l1041, q_l2041, q_l9999, q_l10000, q_l31, q_l33, q_m1, q_m2, q_m3, q_m4, q_m5, q_m7, q_m8, q_m9, q_m9999, q_t0, q_t1, q_t2, q_t3, q_t4, q_t5, q_t6, q_t7, q_t8, q_t9, q_t10, q_t11, q_t12, q_t13, q_t14, q_t15, q_t18, q_t19, q_t20, q_t22, q_t24, q_t32, q_t36, q_t37, q_t39, q_t43, q_t45, q_t48, q_t49, q_t50, q_t52, q_t53, q_t55, q_t57, q_t80, q_t93, q_t99, q_t100, q_t103, q_t115, q_t117, q_t119, q_t120, q_t154, q_t155, q_t157, q_t255, q_t256, q_t300, q_t314, q_t500, q_t990, q_t999, q_t1000, q_t1041, q_t2041, q_t9999, q_t10000, q_t31, q_t33, q_jadd, q_jsub, q_jmul, q_i2l, q_l2i, q_jcmp, q_cm1, q_cm2, q_cm3, q_cm4, q_cm5, q_jdiv, q_jrem, q_j0, q_j1, q_j2, q_j3, q_j4, q_j5, q_j6, q_j9, q_j24, q_j50, q_j99, q_j255, q_j9999, q_jm9, q_jk, q_jk2, q_jk3, Nat.reduceAdd, Nat.reduceMul, Nat.zero_add, q_l51, q_l118, q_l156, q_t51, q_t118, q_t156, q_j13]
theorem sim_rel (h : g_inv H W) (hH : H ≤ 600000) {m : Nat} (hm : m ≤ 99) {V : Nat → Nat → Int} (hV : V 31 = q_cpg (W 31) (W 30) 0 0 157) : ∀ n, n ≤ m → (q_it e_C n (s, q_rg W 1 (q_copy (W 1) (W 0)))).1 = (q_it e_M n (s, V)).1 ∧ p_rel (H + n) ((q_it e_C n (s, q_rg W 1 (q_copy (W 1) (W 0)))).2 1) ((q_it e_M n (s, V)).2 31) := fun n hn => by
  have r0 := rel_copy (P := W 1) (B := q_cpg (W 31) (W 30) 0 0 157) h.1 cpg_0
  refine q_it_r (f := e_C) (g := e_M) (Z := fun n (x y : Int64 × (Nat → Nat → Int)) => x.1 = y.1 ∧ p_rel (H + n) (x.2 1) (y.2 31)) (N := m) (x := (s, q_rg W 1 (q_copy (W 1) (W 0)))) (y := (s, V)) (fun n x y hn hxy => ?_) ⟨rfl, by dsimp only; rw [q_re, hV, show H + ((0 : Nat) : Int) = H by omega]; exact r0⟩ n hn
  obtain ⟨h1, h2⟩ := hxy
  have w := (e_nw (x := e_x x.1)).1
  have h3 := dis_rel h2 w
  have h4 := (hours_rl (W := q_rg x.2 1 (q_dis (e_n (e_x x.1)) (x.2 1))) (V := q_rg y.2 31 (q_dis (e_n (e_x x.1)) (y.2 31))) (k := 1) (H := H + n) (by omega) (by
    show p_rl _ (q_rg x.2 1 _ 1) (q_rg y.2 31 _ 31)
    rw [q_re, q_re]; exact rl_of h3) 1).1
  have g1 : m_hours 1 1 (q_rg x.2 1 (q_dis (e_n (e_x x.1)) (x.2 1))) = m_hour 1 (q_rg x.2 1 (q_dis (e_n (e_x x.1)) (x.2 1))) := rfl
  have g2 : (n_hours 1 1 (q_rg y.2 31 (q_dis (e_n (e_x x.1)) (y.2 31)))).1 = n_hour 1 (q_rg y.2 31 (q_dis (e_n (e_x x.1)) (y.2 31))) := rfl
  rw [g1, g2] at h4
  have k5 : m_hour 1 (q_rg x.2 1 (q_dis (e_n (e_x x.1)) (x.2 1))) 1 5 = q_dis (e_n (e_x x.1)) (x.2 1) 5 := by
    rw [m_hour_p (by omega), h_P_c (by rw [q_re]; exact rel_9 h3) (by omega), q_re]
  have h5 := rl_8 h4 (by
    show m_hour 1 (q_rg x.2 1 (q_dis (e_n (e_x x.1)) (x.2 1))) 1 5 ≤ 8
    rw [k5]; exact h3.2.1.1.2.2.2.2.2.1.2)
  unfold e_C e_M
  dsimp only
  rw [← h1]
  refine ⟨rfl, ?_⟩
  rw [show H + ((n + 1 : Nat) : Int) = H + n + ((1 : Nat) : Int) by omega]
  exact h5
theorem sim_frC {m : Nat} : ∀ n, n ≤ m → ∀ r, r ≠ 1 → r ≠ 21 → r ≠ 22 → r ≠ 23 → (q_it e_C n (s, q_rg W 1 (q_copy (W 1) (W 0)))).2 r = W r := fun n hn => by
  refine q_it_inv (f := e_C) (Z := fun _ (x : Int64 × (Nat → Nat → Int)) => ∀ r, r ≠ 1 → r ≠ 21 → r ≠ 22 → r ≠ 23 → x.2 r = W r) (N := m) (x := (s, q_rg W 1 (q_copy (W 1) (W 0)))) (fun n x hn hx r r1 r21 r22 r23 => ?_) (fun r r1 _ _ _ => q_rn r1) n hn
  show m_hour 1 _ r = W r
  rw [m_hour_o ⟨r1, r21, r22, r23⟩, q_rn r1, hx r r1 r21 r22 r23]
theorem sim_C1 {X : Nat → Nat → Int} {x : Int64} {n m : Nat} (okX : q_ok H 8 (X 1)) (hH : H ≤ 700000) (hn : n < m) (hm : m ≤ 99) (hD : q_ok H 8 (q_dis (e_n (e_x x)) (X 1))) : sm_R T_X9_simulate (0, 21, (q_I X, o), [(some (.inr (.inr (9, 0, 0)))), some (.inr (.inl s)), none, (some (.inl (q_i (m)))), some (.inr (.inl x)), none, (some (.inl (q_i (n))))], []) = sm_R T_X9_simulate (0, 21, (q_I (m_hour 1 (q_rg X 1 (q_dis (e_n (e_x x)) (X 1)))), o), [(some (.inr (.inr (9, 0, 0)))), some (.inr (.inl s)), none, (some (.inl (q_i (m)))), some (.inr (.inl (e_x x))), none, (some (.inl (q_i ((n : Int) + 1))))], []) := by
  have w := e_nw (x := e_x x)
  have y1 := z_X9_disturb (W := X) (o := o) (r := e_n (e_x x)) okX w
  have y2 := z_X3_passOne (W := q_rg X 1 (q_dis (e_n (e_x x)) (X 1))) (o := o) (k := 1) (H := H) (by omega) (by omega) (by rw [q_re]; exact ok_mono hD (Int.le_refl _) (by have := hD.1.2.2.2.2.2.1; omega))
  have ex : x * 6364136223846793005 + 1442695040888963407 = e_x x := rfl
  have er := e_rr (e_x x)
  generalize m_hour 1 (q_rg X 1 (q_dis (e_n (e_x x)) (X 1))) = N at y2 ⊢
  generalize e_x x = x1 at w y1 y2 ex er ⊢
  generalize e_n x1 = r at w y1 y2 er ⊢
  refine (s_X9_simulate_21).trans ?_
  simp (disch := first | exact nl_i | exact nl_r | exact nl_n | exact q_vp (by omega) (by omega) (by omega) | exact Nat.le_of_ble_eq_true rfl | exact q_nz (by omega) (by omega) (by omega) | exact q_cg (by omega) (by omega) (by omega) (by omega) (by omega) (by omega) (by omega) | exact q_bz | exact q_zo (by omega) | assumption | omega | (simp (disch := omega) only [q_re, q_rn, q_pe, q_pn]; done) | (simp (disch := omega) only [q_re, q_rn, q_pe, q_pn]; omega) | (simp (disch := omega) only [q_re, q_rn, q_pe, q_pn, q_tc]; done) | (simp (disch := omega) only [q_re, q_rn, q_pe, q_pn, q_tc]; omega) | (simp (disch := omega) only [q_re, q_rn, q_pe, q_pn, q_tc]; assumption) | rfl) only [s_X9_simulate_0, s_X9_simulate_1, s_X9_simulate_4, s_X9_simulate_5, s_X9_simulate_8, s_X9_simulate_9, s_X9_simulate_12, s_X9_simulate_15, s_X9_simulate_16, s_X9_simulate_18, s_X9_simulate_19, s_X9_simulate_23, s_X9_simulate_24, s_X9_simulate_27, s_X9_simulate_29, s_X9_simulate_32, s_X9_simulate_33, s_X9_simulate_36, s_X9_simulate_37, s_X9_simulate_39, s_X9_simulate_40, s_X9_simulate_42, s_X9_simulate_44, s_X9_simulate_45, s_X9_simulate_46, s_X9_simulate_49, s_X9_simulate_50, s_X9_simulate_53, s_X9_simulate_54, s_X9_simulate_57, s_X9_simulate_60, s_X9_simulate_63, s_X9_simulate_66, s_X9_simulate_68, s_X9_simulate_69, s_X9_simulate_72, s_X9_simulate_75, s_X9_simulate_76, s_X9_simulate_77, s_X9_simulate_80, s_X9_simulate_83, s_X9_simulate_84, sm_k1_ok, sm_k1_er, sm_tl_s, sm_tl_n, q_Ia, q_Iu, q_add, q_sub, q_mul, q_neg, q_lt, q_le, q_eq, q_tn, q_div, q_mod, q_mo, q_b0, q_if, q_uu, q_re, q_rr, q_r3, q_r4, q_rn, q_pe, q_pn, q_pp, q_ta, q_tm, q_tc, q_na, q_n0, q_n1, q_ip, q_in, q_cpe, Nat.add_zero, ite_not, q_l0, q_l1, q_l2, q_l3, q_l4, q_l5, q_l6, q_l7, q_l8, q_l9, q_l10, q_l11, q_l12, q_l13, q_l14, q_l15, q_l18, q_l19, q_l20, q_l22, q_l24, q_l32, q_l36, q_l37, q_l39, q_l43, q_l45, q_l48, q_l49, q_l50, q_l52, q_l53, q_l55, q_l57, q_l80, q_l93, q_l99, q_l100, q_l103, q_l115, q_l117, q_l119, q_l120, q_l154, q_l155, q_l157, q_l255, q_l256, q_l300, q_l314, q_l500, q_l990, q_l999, q_l1000, q_l1041, q_l2041, q_l9999, q_l10000, q_l31, q_l33, q_m1, q_m2, q_m3, q_m4, q_m5, q_m7, q_m8, q_m9, q_m9999, q_t0, q_t1, q_t2, q_t3, q_t4, q_t5, q_t6, q_t7, q_t8, q_t9, q_t10, q_t11, q_t12, q_t13, q_t14, q_t15, q_t18, q_t19, q_t20, q_t22, q_t24, q_t32, q_t36, q_t37, q_t39, q_t43, q_t45, q_t48, q_t49, q_t50, q_t52, q_t53, q_t55, q_t57, q_t80, q_t93, q_t99, q_t100, q_t103, q_t115, q_t117, q_t119, q_t120, q_t154, q_t155, q_t157, q_t255, q_t256, q_t300, q_t314, q_t500, q_t990, q_t999, q_t1000, q_t1041, q_t2041, q_t9999, q_t10000, q_t31, q_t33, q_jadd, q_jsub, q_jmul, q_i2l, q_l2i, q_jcmp, q_cm1, q_cm2, q_cm3, q_cm4, q_cm5, q_jdiv, q_jrem, q_j0, q_j1, q_j2, q_j3, q_j4, q_j5, q_j6, q_j9, q_j24, q_j50, q_j99, q_j255, q_j9999, q_jm9, q_jk, q_jk2, q_jk3, Nat.reduceAdd, Nat.reduceMul, Nat.zero_add, q_l51, q_l118, q_l156, q_t51, q_t118, q_t156, q_j13, ex, er, y1, y2]
set_option maxHeartbeats 4000000 in
theorem sim_C (h : g_inv H W) (hH : H ≤ 600000) {m : Nat} (c : 1 ≤ (m : Int) ∧ (m : Int) ≤ 99) : ∀ o, F_X9_simulate (q_I W, o) [.inr (.inr (9, 0, 0)), .inr (.inl s), .inl (q_i (m))] = some ((q_I (q_it e_C m (s, q_rg W 1 (q_copy (W 1) (W 0)))).2, o), .ok (some (.inl (q_i (10 * q_snow ((q_it e_C m (s, q_rg W 1 (q_copy (W 1) (W 0)))).2 1) + q_rds ((q_it e_C m (s, q_rg W 1 (q_copy (W 1) (W 0)))).2 1)))))) := fun o => by
  have z0 := fun (o : Int64) => z_needHours (W := W) (o := o) (u := m) (by omega) c
  have z1 := fun (o : Int64) => z_cpC (o := o) h
  have rc := sim_rel (s := s) h hH (m := m) (by omega) (V := q_rg W 31 (q_cpg (W 31) (W 30) 0 0 157)) q_re
  rw [e_X9_simulate]
  simp (disch := first | exact nl_i | exact nl_r | exact nl_n | exact q_vp (by omega) (by omega) (by omega) | exact Nat.le_of_ble_eq_true rfl | exact q_nz (by omega) (by omega) (by omega) | exact q_cg (by omega) (by omega) (by omega) (by omega) (by omega) (by omega) (by omega) | exact q_bz | exact q_zo (by omega) | assumption | omega | (simp (disch := omega) only [q_re, q_rn, q_pe, q_pn]; done) | (simp (disch := omega) only [q_re, q_rn, q_pe, q_pn]; omega) | (simp (disch := omega) only [q_re, q_rn, q_pe, q_pn, q_tc]; done) | (simp (disch := omega) only [q_re, q_rn, q_pe, q_pn, q_tc]; omega) | (simp (disch := omega) only [q_re, q_rn, q_pe, q_pn, q_tc]; assumption) | rfl) only [s_X9_simulate_0, s_X9_simulate_1, s_X9_simulate_4, s_X9_simulate_5, s_X9_simulate_8, s_X9_simulate_9, s_X9_simulate_12, s_X9_simulate_15, s_X9_simulate_16, s_X9_simulate_18, s_X9_simulate_19, s_X9_simulate_23, s_X9_simulate_24, s_X9_simulate_27, s_X9_simulate_29, s_X9_simulate_32, s_X9_simulate_33, s_X9_simulate_36, s_X9_simulate_37, s_X9_simulate_39, s_X9_simulate_40, s_X9_simulate_42, s_X9_simulate_44, s_X9_simulate_45, s_X9_simulate_46, s_X9_simulate_49, s_X9_simulate_50, s_X9_simulate_53, s_X9_simulate_54, s_X9_simulate_57, s_X9_simulate_60, s_X9_simulate_63, s_X9_simulate_66, s_X9_simulate_68, s_X9_simulate_69, s_X9_simulate_72, s_X9_simulate_75, s_X9_simulate_76, s_X9_simulate_77, s_X9_simulate_80, s_X9_simulate_83, s_X9_simulate_84, sm_k1_ok, sm_k1_er, sm_tl_s, sm_tl_n, q_Ia, q_Iu, q_add, q_sub, q_mul, q_neg, q_lt, q_le, q_eq, q_tn, q_div, q_mod, q_mo, q_b0, q_if, q_uu, q_re, q_rr, q_r3, q_r4, q_rn, q_pe, q_pn, q_pp, q_ta, q_tm, q_tc, q_na, q_n0, q_n1, q_ip, q_in, q_cpe, Nat.add_zero, ite_not, q_l0, q_l1, q_l2, q_l3, q_l4, q_l5, q_l6, q_l7, q_l8, q_l9, q_l10, q_l11, q_l12, q_l13, q_l14, q_l15, q_l18, q_l19, q_l20, q_l22, q_l24, q_l32, q_l36, q_l37, q_l39, q_l43, q_l45, q_l48, q_l49, q_l50, q_l52, q_l53, q_l55, q_l57, q_l80, q_l93, q_l99, q_l100, q_l103, q_l115, q_l117, q_l119, q_l120, q_l154, q_l155, q_l157, q_l255, q_l256, q_l300, q_l314, q_l500, q_l990, q_l999, q_l1000, q_l1041, q_l2041, q_l9999, q_l10000, q_l31, q_l33, q_m1, q_m2, q_m3, q_m4, q_m5, q_m7, q_m8, q_m9, q_m9999, q_t0, q_t1, q_t2, q_t3, q_t4, q_t5, q_t6, q_t7, q_t8, q_t9, q_t10, q_t11, q_t12, q_t13, q_t14, q_t15, q_t18, q_t19, q_t20, q_t22, q_t24, q_t32, q_t36, q_t37, q_t39, q_t43, q_t45, q_t48, q_t49, q_t50, q_t52, q_t53, q_t55, q_t57, q_t80, q_t93, q_t99, q_t100, q_t103, q_t115, q_t117, q_t119, q_t120, q_t154, q_t155, q_t157, q_t255, q_t256, q_t300, q_t314, q_t500, q_t990, q_t999, q_t1000, q_t1041, q_t2041, q_t9999, q_t10000, q_t31, q_t33, q_jadd, q_jsub, q_jmul, q_i2l, q_l2i, q_jcmp, q_cm1, q_cm2, q_cm3, q_cm4, q_cm5, q_jdiv, q_jrem, q_j0, q_j1, q_j2, q_j3, q_j4, q_j5, q_j6, q_j9, q_j24, q_j50, q_j99, q_j255, q_j9999, q_jm9, q_jk, q_jk2, q_jk3, Nat.reduceAdd, Nat.reduceMul, Nat.zero_add, q_l51, q_l118, q_l156, q_t51, q_t118, q_t156, q_j13, z0, z1]
  refine q_loop (S := fun n (x : Int64 × (Nat → Nat → Int)) => sm_R T_X9_simulate (0, 21, (q_I x.2, o), [(some (.inr (.inr (9, 0, 0)))), some (.inr (.inl s)), none, (some (.inl (q_i (m)))), some (.inr (.inl x.1)), none, (some (.inl (q_i (n))))], [])) (f := e_C) (N := m) (Z := fun n x => x = q_it e_C n (s, q_rg W 1 (q_copy (W 1) (W 0)))) (x := (s, q_rg W 1 (q_copy (W 1) (W 0)))) rfl (fun n x hn hx => by rw [hx]; rfl) ?_ ?_
  · rintro n ⟨x, X⟩ hn hx
    obtain ⟨-, q2⟩ := rc n (by omega)
    rw [← hx] at q2
    dsimp only at q2
    exact sim_C1 q2.2.1 (by omega) hn (by omega) (dis_rel q2 (e_nw (x := e_x x)).1).2.1
  · rintro ⟨x, X⟩ hx1 hx
    obtain ⟨-, q2⟩ := rc m (Nat.le_refl _)
    rw [← hx] at q2 ⊢
    dsimp only at q2 ⊢
    have okx := q2.2.1
    have wr := rds_w okx
    have ws := snow_w okx
    have y3 := z_X5_readySlopes (W := X) (o := o) (k := 1) okx.1.2.2.2.2.1 (fun s hs => q_rd_w okx hs)
    have y4 := z_X5_allSnow (W := X) (o := o) (k := 1) okx.1.2.2.2.2.1
    refine (s_X9_simulate_21).trans ?_
    simp (disch := first | exact nl_i | exact nl_r | exact nl_n | exact q_vp (by omega) (by omega) (by omega) | exact Nat.le_of_ble_eq_true rfl | exact q_nz (by omega) (by omega) (by omega) | exact q_cg (by omega) (by omega) (by omega) (by omega) (by omega) (by omega) (by omega) | exact q_bz | exact q_zo (by omega) | assumption | omega | (simp (disch := omega) only [q_re, q_rn, q_pe, q_pn]; done) | (simp (disch := omega) only [q_re, q_rn, q_pe, q_pn]; omega) | (simp (disch := omega) only [q_re, q_rn, q_pe, q_pn, q_tc]; done) | (simp (disch := omega) only [q_re, q_rn, q_pe, q_pn, q_tc]; omega) | (simp (disch := omega) only [q_re, q_rn, q_pe, q_pn, q_tc]; assumption) | rfl) only [s_X9_simulate_0, s_X9_simulate_1, s_X9_simulate_4, s_X9_simulate_5, s_X9_simulate_8, s_X9_simulate_9, s_X9_simulate_12, s_X9_simulate_15, s_X9_simulate_16, s_X9_simulate_18, s_X9_simulate_19, s_X9_simulate_23, s_X9_simulate_24, s_X9_simulate_27, s_X9_simulate_29, s_X9_simulate_32, s_X9_simulate_33, s_X9_simulate_36, s_X9_simulate_37, s_X9_simulate_39, s_X9_simulate_40, s_X9_simulate_42, s_X9_simulate_44, s_X9_simulate_45, s_X9_simulate_46, s_X9_simulate_49, s_X9_simulate_50, s_X9_simulate_53, s_X9_simulate_54, s_X9_simulate_57, s_X9_simulate_60, s_X9_simulate_63, s_X9_simulate_66, s_X9_simulate_68, s_X9_simulate_69, s_X9_simulate_72, s_X9_simulate_75, s_X9_simulate_76, s_X9_simulate_77, s_X9_simulate_80, s_X9_simulate_83, s_X9_simulate_84, sm_k1_ok, sm_k1_er, sm_tl_s, sm_tl_n, q_Ia, q_Iu, q_add, q_sub, q_mul, q_neg, q_lt, q_le, q_eq, q_tn, q_div, q_mod, q_mo, q_b0, q_if, q_uu, q_re, q_rr, q_r3, q_r4, q_rn, q_pe, q_pn, q_pp, q_ta, q_tm, q_tc, q_na, q_n0, q_n1, q_ip, q_in, q_cpe, Nat.add_zero, ite_not, q_l0, q_l1, q_l2, q_l3, q_l4, q_l5, q_l6, q_l7, q_l8, q_l9, q_l10, q_l11, q_l12, q_l13, q_l14, q_l15, q_l18, q_l19, q_l20, q_l22, q_l24, q_l32, q_l36, q_l37, q_l39, q_l43, q_l45, q_l48, q_l49, q_l50, q_l52, q_l53, q_l55, q_l57, q_l80, q_l93, q_l99, q_l100, q_l103, q_l115, q_l117, q_l119, q_l120, q_l154, q_l155, q_l157, q_l255, q_l256, q_l300, q_l314, q_l500, q_l990, q_l999, q_l1000, q_l1041, q_l2041, q_l9999, q_l10000, q_l31, q_l33, q_m1, q_m2, q_m3, q_m4, q_m5, q_m7, q_m8, q_m9, q_m9999, q_t0, q_t1, q_t2, q_t3, q_t4, q_t5, q_t6, q_t7, q_t8, q_t9, q_t10, q_t11, q_t12, q_t13, q_t14, q_t15, q_t18, q_t19, q_t20, q_t22, q_t24, q_t32, q_t36, q_t37, q_t39, q_t43, q_t45, q_t48, q_t49, q_t50, q_t52, q_t53, q_t55, q_t57, q_t80, q_t93, q_t99, q_t100, q_t103, q_t115, q_t117, q_t119, q_t120, q_t154, q_t155, q_t157, q_t255, q_t256, q_t300, q_t314, q_t500, q_t990, q_t999, q_t1000, q_t1041, q_t2041, q_t9999, q_t10000, q_t31, q_t33, q_jadd, q_jsub, q_jmul, q_i2l, q_l2i, q_jcmp, q_cm1, q_cm2, q_cm3, q_cm4, q_cm5, q_jdiv, q_jrem, q_j0, q_j1, q_j2, q_j3, q_j4, q_j5, q_j6, q_j9, q_j24, q_j50, q_j99, q_j255, q_j9999, q_jm9, q_jk, q_jk2, q_jk3, Nat.reduceAdd, Nat.reduceMul, Nat.zero_add, q_l51, q_l118, q_l156, q_t51, q_t118, q_t156, q_j13, y3, y4]
end Z57a
