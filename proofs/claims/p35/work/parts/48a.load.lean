/-! LOAD -/
section Z48a
variable {W : Nat → Nat → Int} {P A : Nat → Int} {σ : x_sp} {H G : Int} {u v w : Int} {o : Int64}
theorem f_3_v {sg : Int → Int} {s g w : Nat} {P : Nat → Int} {j : Nat} (hj : j < 15) (h4 : j ≠ 4) (h5 : j ≠ 5) (h6 : j ≠ 6) : f_3 sg s g w P j = f_0 sg P j := by
  have e3 : ∀ w : Nat, f_3 sg s g w P j = f_2 sg s g P j := fun w => by
    unfold f_3
    induction w with
    | zero => rfl
    | succ n ih => rw [q_its]; unfold f_w; rw [putw_o (by omega) (by omega)]; exact ih
  have e2 : ∀ g : Nat, f_2 sg s g P j = f_1 sg s P j := fun g => by
    unfold f_2
    induction g with
    | zero => rfl
    | succ n ih => rw [q_its]; unfold f_g; rw [putg_o (by omega) (by omega)]; exact ih
  have e1 : ∀ s : Nat, f_1 sg s P j = f_0 sg P j := fun s => by
    unfold f_1
    induction s with
    | zero => rfl
    | succ n ih => rw [q_its]; unfold f_s; rw [puts_o (by omega) (by omega)]; exact ih
  rw [e3, e2, e1]
theorem f_3_c {sg : Int → Int} {s g w : Nat} {P : Nat → Int} : f_3 sg s g w P 4 = s ∧ f_3 sg s g w P 5 = g ∧ f_3 sg s g w P 6 = w := by
  obtain ⟨b4, b5, b6⟩ := begin_v (P := P) (p := t_nm sg 1 2) (c := t_nm sg 3 4) (i := t_nm sg 7 1) (l := t_nm sg 8 2)
  have a1 : ∀ s : Nat, f_1 sg s P 4 = s ∧ f_1 sg s P 5 = 0 ∧ f_1 sg s P 6 = 0 := fun s => by
    unfold f_1
    induction s with
    | zero => exact ⟨b4, b5, b6⟩
    | succ n ih =>
      rw [show q_it (f_s sg) (n + 1) (f_0 sg P) = q_puts (q_it (f_s sg) n (f_0 sg P)) (t_nm sg (10 + 5 * (n : Int) + 1) 1) (t_nm sg (10 + 5 * (n : Int) + 2) 1) (t_nm sg (10 + 5 * (n : Int) + 3) 2) from rfl]
      rw [puts_4, puts_o (by omega) (by omega), puts_o (by omega) (by omega)]
      exact ⟨by rw [ih.1]; omega, ih.2⟩
  have a2 : ∀ g : Nat, f_2 sg s g P 4 = s ∧ f_2 sg s g P 5 = g ∧ f_2 sg s g P 6 = 0 := fun g => by
    unfold f_2
    induction g with
    | zero => exact a1 s
    | succ n ih =>
      rw [show q_it (f_g sg (10 + 5 * (s : Int))) (n + 1) (f_1 sg s P) = q_putg (q_it (f_g sg (10 + 5 * (s : Int))) n (f_1 sg s P)) (t_nm sg (10 + 5 * (s : Int) + 3 * (n : Int) + 1) 1) (t_nm sg (10 + 5 * (s : Int) + 3 * (n : Int) + 2) 1) from rfl]
      rw [putg_5, putg_o (by omega) (by omega), putg_o (by omega) (by omega)]
      exact ⟨ih.1, by rw [ih.2.1]; omega, ih.2.2⟩
  unfold f_3
  induction w with
  | zero => exact a2 g
  | succ n ih =>
    rw [show q_it (f_w sg (10 + 5 * (s : Int) + 3 * (g : Int) + 1)) (n + 1) (f_2 sg s g P) = q_putw (q_it (f_w sg (10 + 5 * (s : Int) + 3 * (g : Int) + 1)) n (f_2 sg s g P)) (f_v sg (10 + 5 * (s : Int) + 3 * (g : Int) + 1 + 2 * (n : Int))) from rfl]
    rw [putw_6, putw_o (by omega) (by omega), putw_o (by omega) (by omega)]
    exact ⟨ih.1, ih.2.1, by rw [ih.2.2]; omega⟩
theorem f_0_v {sg : Int → Int} {P : Nat → Int} : f_0 sg P 7 = t_nm sg 3 4 ∧ f_0 sg P 1 = t_nm sg 3 4 ∧ f_0 sg P 9 = t_nm sg 3 4 ∧ f_0 sg P 8 = 0 ∧ f_0 sg P 10 = 0 ∧ f_0 sg P 11 = 0 ∧ f_0 sg P 12 = 0 ∧ f_0 sg P 13 = 0 := by
  unfold f_0 q_begin
  simp [q_pu]
theorem f_3_e {sg : Int → Int} {s g w : Nat} {n H : Int} {P Q : Nat → Int} (hH : 0 ≤ H) (h : (t_all sg n).1 ≠ 0) (hs : (s : Int) = (tt_S sg).2.2) (hg : (g : Int) = (tt_G sg).2.2) (hw : (w : Int) = (tt_T sg).2.2) : e_q (f_3 sg s g w P) (f_3 sg s g w Q) :=
  sim_e (fill_sim (R := y_z) hH h hs hg hw).2 (fill_sim (R := y_z) hH h hs hg hw).2
def x_ld (σ : x_sp) (s g w : Nat) : x_sp := (f_3 (y_sg σ.2.2.2.2) s g w y_z, [], none, none, σ.2.2.2.2)
theorem x_load {s g w : Nat} (hk : x_ok H σ) (hH : 0 ≤ H) (c1 : (t_all (y_sg σ.2.2.2.2) σ.2.2.2.2.length).1 ≠ 0) (hs : (s : Int) = (tt_S (y_sg σ.2.2.2.2)).2.2) (hg : (g : Int) = (tt_G (y_sg σ.2.2.2.2)).2.2) (hw : (w : Int) = (tt_T (y_sg σ.2.2.2.2)).2.2) : x_T F_L_tryLoad [.inr (.inr (9, 0, 0))] σ s (x_ld σ s g w) := fun W o hR => by
  obtain ⟨t1, t2⟩ := x_txt hR hk
  have eg := x_sg hR
  have e6 := hR.2.2.2.1
  have a1 := tt_S_w (sg := y_sg σ.2.2.2.2)
  have a2 := tt_G_w (sg := y_sg σ.2.2.2.2)
  have a3 := tt_T_w (sg := y_sg σ.2.2.2.2)
  obtain ⟨s1, g1, w1, z, zc⟩ := z_X6_isGood (W := W) (o := o) t1 t2
  rw [eg, e6] at z zc
  have c2 : (t_all (y_sg σ.2.2.2.2) σ.2.2.2.2.length).1 = 1 := by
    have := (t_all_w (sg := y_sg σ.2.2.2.2) (n := σ.2.2.2.2.length)).1
    omega
  obtain ⟨es, eg1, ew⟩ := zc c1
  rw [← hs] at es
  rw [← hg] at eg1
  rw [← hw] at ew
  subst es; subst eg1; subst ew
  rw [c2] at z
  generalize (t_all (y_sg σ.2.2.2.2) σ.2.2.2.2.length).2 = q at z
  have zf := z_X6_fillState (W := q_rg W 19 (t_row (W 19) q s g w)) (o := o) (s := s) (g := g) (w := w) (by rw [q_re, t_r0]; exact t1) (by rw [q_re, t_r2]) (by rw [q_re, t_r3]) (by rw [q_re, t_r4]) (by omega) (by omega) (by omega) (by rw [q_re, t_r0, q_rn (by omega)]; exact t2)
  rw [q_re, t_r0, q_rn (r := 20) (by omega), q_rn (r := 0) (by omega), eg] at zf
  have eF := f_3_e (P := W 0) (Q := y_z) (s := s) (g := g) (w := w) hH c1 hs hg hw
  have f4 := (f_3_c (sg := y_sg σ.2.2.2.2) (s := s) (g := g) (w := w) (P := W 0)).1
  generalize f_3 (y_sg σ.2.2.2.2) s g w (W 0) = F at zf eF f4
  have vo : ∀ r, r ≠ 0 → r ≠ 19 → r ≠ 24 → r ≠ 25 → (q_rg (q_rg (q_rg (q_rg W 19 (t_row (W 19) q s g w)) 0 F) 24 (q_pu (W 24) 1 0)) 25 (q_pu (q_pu (W 25) 0 0) 1 0)) r = W r := fun r x0 x1 x2 x3 => by rw [q_rn x3, q_rn x2, q_rn x0, q_rn x1]
  refine ⟨q_rg (q_rg (q_rg (q_rg W 19 (t_row (W 19) q s g w)) 0 F) 24 (q_pu (W 24) 1 0)) 25 (q_pu (q_pu (W 25) 0 0) 1 0), w_tryLoad (o1 := o) ?_, ⟨?_, ⟨?_, ?_, fun j P1 hP => by cases hP⟩, fun q1 hq => ?_, ?_, fun j x hx => ?_⟩, fun r hr => vo r (by omega) (by omega) (by omega) (by omega)⟩
  · rw [e_X9_load]
    simp (disch := first | exact nl_i | exact nl_r | exact nl_n | exact q_vp (by omega) (by omega) (by omega) | exact Nat.le_of_ble_eq_true rfl | exact q_nz (by omega) (by omega) (by omega) | exact q_cg (by omega) (by omega) (by omega) (by omega) (by omega) (by omega) (by omega) | exact q_bz | exact q_zo (by omega) | assumption | omega | (simp (disch := omega) only [q_re, q_rn, q_pe, q_pn]; done) | (simp (disch := omega) only [q_re, q_rn, q_pe, q_pn]; omega) | (simp (disch := omega) only [q_re, q_rn, q_pe, q_pn, q_tc]; done) | (simp (disch := omega) only [q_re, q_rn, q_pe, q_pn, q_tc]; omega) | (simp (disch := omega) only [q_re, q_rn, q_pe, q_pn, q_tc]; assumption) | rfl) only [s_X9_load_0, s_X9_load_1, s_X9_load_4, s_X9_load_7, s_X9_load_10, s_X9_load_20, s_X9_load_21, s_X9_load_24, s_X9_load_25, s_X9_load_28, s_X9_load_31, s_X9_load_32, s_X9_load_35, s_X9_load_38, s_X9_load_39, s_X9_load_41, s_X9_load_42, s_X9_load_45, s_X9_load_46, s_X9_load_49, s_X9_load_50, s_X9_load_51, s_X9_load_52, s_X9_load_55, s_X9_load_58, s_X9_load_59, s_X9_load_62, s_X9_load_65, sm_k1_ok, sm_k1_er, sm_tl_s, sm_tl_n, q_Ia, q_Iu, q_add, q_sub, q_mul, q_neg, q_lt, q_le, q_eq, q_tn, q_div, q_mod, q_mo, q_b0, q_if, q_uu, q_re, q_rr, q_r3, q_r4, q_rn, q_pe, q_pn, q_pp, q_ta, q_tm, q_tc, q_na, q_n0, q_n1, q_ip, q_in, q_cpe, Nat.add_zero, ite_not, q_l0, q_l1, q_l2, q_l3, q_l4, q_l5, q_l6, q_l7, q_l8, q_l9, q_l10, q_l11, q_l12, q_l13, q_l14, q_l15, q_l18, q_l19, q_l20, q_l22, q_l24, q_l32, q_l36, q_l37, q_l39, q_l43, q_l45, q_l48, q_l49, q_l50, q_l52, q_l53, q_l55, q_l57, q_l80, q_l93, q_l99, q_l100, q_l103, q_l115, q_l117, q_l119, q_l120, q_l154, q_l155, q_l157, q_l255, q_l256, q_l300, q_l314, q_l500, q_l990, q_l999, q_l1000, q_l1041, q_l2041, q_l9999, q_l10000, q_l31, q_l33, q_m1, q_m2, q_m3, q_m4, q_m5, q_m7, q_m8, q_m9, q_m9999, q_m99003, q_m99002, q_m99001, q_m10, q_l16, q_l25, q_l30, q_l38, q_l40, q_l41, q_l42, q_l51, q_l60, q_l64, q_l98, q_l128, q_l1024, q_l2000, q_l2048, q_l9000, q_l9996, q_l10111, q_l16384, q_l100000, q_l15516947, q_l2147483647, q_t0, q_t1, q_t2, q_t3, q_t4, q_t5, q_t6, q_t7, q_t8, q_t9, q_t10, q_t11, q_t12, q_t13, q_t14, q_t15, q_t18, q_t19, q_t20, q_t22, q_t24, q_t32, q_t36, q_t37, q_t39, q_t43, q_t45, q_t48, q_t49, q_t50, q_t52, q_t53, q_t55, q_t57, q_t80, q_t93, q_t99, q_t100, q_t103, q_t115, q_t117, q_t119, q_t120, q_t154, q_t155, q_t157, q_t255, q_t256, q_t300, q_t314, q_t500, q_t990, q_t999, q_t1000, q_t1041, q_t2041, q_t9999, q_t10000, q_t31, q_t33, q_t16, q_t25, q_t30, q_t38, q_t40, q_t41, q_t42, q_t51, q_t60, q_t64, q_t98, q_t128, q_t1024, q_t2000, q_t2048, q_t9000, q_t9996, q_t10111, q_t16384, q_t100000, q_t15516947, q_t2147483647, q_jadd, q_jsub, q_jmul, q_i2l, q_l2i, q_jcmp, q_cm1, q_cm2, q_cm3, q_cm4, q_cm5, q_jdiv, q_jrem, q_j0, q_j1, q_j2, q_j3, q_j4, q_j5, q_j6, q_j9, q_j24, q_j50, q_j99, q_j255, q_j9999, q_jm9, q_jk, q_jk2, q_jk3, Nat.reduceAdd, Nat.reduceMul, Nat.zero_add, q_l51, q_l118, q_l156, q_t51, q_t118, q_t156, q_j13, z, zf, z_X2_forget]
    refine (s_X9_load_40).trans ?_
    simp (disch := first | exact nl_i | exact nl_r | exact nl_n | exact q_vp (by omega) (by omega) (by omega) | exact Nat.le_of_ble_eq_true rfl | exact q_nz (by omega) (by omega) (by omega) | exact q_cg (by omega) (by omega) (by omega) (by omega) (by omega) (by omega) (by omega) | exact q_bz | exact q_zo (by omega) | assumption | omega | (simp (disch := omega) only [q_re, q_rn, q_pe, q_pn]; done) | (simp (disch := omega) only [q_re, q_rn, q_pe, q_pn]; omega) | (simp (disch := omega) only [q_re, q_rn, q_pe, q_pn, q_tc]; done) | (simp (disch := omega) only [q_re, q_rn, q_pe, q_pn, q_tc]; omega) | (simp (disch := omega) only [q_re, q_rn, q_pe, q_pn, q_tc]; assumption) | rfl) only [s_X9_load_0, s_X9_load_1, s_X9_load_4, s_X9_load_7, s_X9_load_10, s_X9_load_20, s_X9_load_21, s_X9_load_24, s_X9_load_25, s_X9_load_28, s_X9_load_31, s_X9_load_32, s_X9_load_35, s_X9_load_38, s_X9_load_39, s_X9_load_41, s_X9_load_42, s_X9_load_45, s_X9_load_46, s_X9_load_49, s_X9_load_50, s_X9_load_51, s_X9_load_52, s_X9_load_55, s_X9_load_58, s_X9_load_59, s_X9_load_62, s_X9_load_65, sm_k1_ok, sm_k1_er, sm_tl_s, sm_tl_n, q_Ia, q_Iu, q_add, q_sub, q_mul, q_neg, q_lt, q_le, q_eq, q_tn, q_div, q_mod, q_mo, q_b0, q_if, q_uu, q_re, q_rr, q_r3, q_r4, q_rn, q_pe, q_pn, q_pp, q_ta, q_tm, q_tc, q_na, q_n0, q_n1, q_ip, q_in, q_cpe, Nat.add_zero, ite_not, q_l0, q_l1, q_l2, q_l3, q_l4, q_l5, q_l6, q_l7, q_l8, q_l9, q_l10, q_l11, q_l12, q_l13, q_l14, q_l15, q_l18, q_l19, q_l20, q_l22, q_l24, q_l32, q_l36, q_l37, q_l39, q_l43, q_l45, q_l48, q_l49, q_l50, q_l52, q_l53, q_l55, q_l57, q_l80, q_l93, q_l99, q_l100, q_l103, q_l115, q_l117, q_l119, q_l120, q_l154, q_l155, q_l157, q_l255, q_l256, q_l300, q_l314, q_l500, q_l990, q_l999, q_l1000, q_l1041, q_l2041, q_l9999, q_l10000, q_l31, q_l33, q_m1, q_m2, q_m3, q_m4, q_m5, q_m7, q_m8, q_m9, q_m9999, q_m99003, q_m99002, q_m99001, q_m10, q_l16, q_l25, q_l30, q_l38, q_l40, q_l41, q_l42, q_l51, q_l60, q_l64, q_l98, q_l128, q_l1024, q_l2000, q_l2048, q_l9000, q_l9996, q_l10111, q_l16384, q_l100000, q_l15516947, q_l2147483647, q_t0, q_t1, q_t2, q_t3, q_t4, q_t5, q_t6, q_t7, q_t8, q_t9, q_t10, q_t11, q_t12, q_t13, q_t14, q_t15, q_t18, q_t19, q_t20, q_t22, q_t24, q_t32, q_t36, q_t37, q_t39, q_t43, q_t45, q_t48, q_t49, q_t50, q_t52, q_t53, q_t55, q_t57, q_t80, q_t93, q_t99, q_t100, q_t103, q_t115, q_t117, q_t119, q_t120, q_t154, q_t155, q_t157, q_t255, q_t256, q_t300, q_t314, q_t500, q_t990, q_t999, q_t1000, q_t1041, q_t2041, q_t9999, q_t10000, q_t31, q_t33, q_t16, q_t25, q_t30, q_t38, q_t40, q_t41, q_t42, q_t51, q_t60, q_t64, q_t98, q_t128, q_t1024, q_t2000, q_t2048, q_t9000, q_t9996, q_t10111, q_t16384, q_t100000, q_t15516947, q_t2147483647, q_jadd, q_jsub, q_jmul, q_i2l, q_l2i, q_jcmp, q_cm1, q_cm2, q_cm3, q_cm4, q_cm5, q_jdiv, q_jrem, q_j0, q_j1, q_j2, q_j3, q_j4, q_j5, q_j6, q_j9, q_j24, q_j50, q_j99, q_j255, q_j9999, q_jm9, q_jk, q_jk2, q_jk3, Nat.reduceAdd, Nat.reduceMul, Nat.zero_add, q_l51, q_l118, q_l156, q_t51, q_t118, q_t156, q_j13]
    refine (s_X9_load_40).trans ?_
    simp (disch := first | exact nl_i | exact nl_r | exact nl_n | exact q_vp (by omega) (by omega) (by omega) | exact Nat.le_of_ble_eq_true rfl | exact q_nz (by omega) (by omega) (by omega) | exact q_cg (by omega) (by omega) (by omega) (by omega) (by omega) (by omega) (by omega) | exact q_bz | exact q_zo (by omega) | assumption | omega | (simp (disch := omega) only [q_re, q_rn, q_pe, q_pn]; done) | (simp (disch := omega) only [q_re, q_rn, q_pe, q_pn]; omega) | (simp (disch := omega) only [q_re, q_rn, q_pe, q_pn, q_tc]; done) | (simp (disch := omega) only [q_re, q_rn, q_pe, q_pn, q_tc]; omega) | (simp (disch := omega) only [q_re, q_rn, q_pe, q_pn, q_tc]; assumption) | rfl) only [s_X9_load_0, s_X9_load_1, s_X9_load_4, s_X9_load_7, s_X9_load_10, s_X9_load_20, s_X9_load_21, s_X9_load_24, s_X9_load_25, s_X9_load_28, s_X9_load_31, s_X9_load_32, s_X9_load_35, s_X9_load_38, s_X9_load_39, s_X9_load_41, s_X9_load_42, s_X9_load_45, s_X9_load_46, s_X9_load_49, s_X9_load_50, s_X9_load_51, s_X9_load_52, s_X9_load_55, s_X9_load_58, s_X9_load_59, s_X9_load_62, s_X9_load_65, sm_k1_ok, sm_k1_er, sm_tl_s, sm_tl_n, q_Ia, q_Iu, q_add, q_sub, q_mul, q_neg, q_lt, q_le, q_eq, q_tn, q_div, q_mod, q_mo, q_b0, q_if, q_uu, q_re, q_rr, q_r3, q_r4, q_rn, q_pe, q_pn, q_pp, q_ta, q_tm, q_tc, q_na, q_n0, q_n1, q_ip, q_in, q_cpe, Nat.add_zero, ite_not, q_l0, q_l1, q_l2, q_l3, q_l4, q_l5, q_l6, q_l7, q_l8, q_l9, q_l10, q_l11, q_l12, q_l13, q_l14, q_l15, q_l18, q_l19, q_l20, q_l22, q_l24, q_l32, q_l36, q_l37, q_l39, q_l43, q_l45, q_l48, q_l49, q_l50, q_l52, q_l53, q_l55, q_l57, q_l80, q_l93, q_l99, q_l100, q_l103, q_l115, q_l117, q_l119, q_l120, q_l154, q_l155, q_l157, q_l255, q_l256, q_l300, q_l314, q_l500, q_l990, q_l999, q_l1000, q_l1041, q_l2041, q_l9999, q_l10000, q_l31, q_l33, q_m1, q_m2, q_m3, q_m4, q_m5, q_m7, q_m8, q_m9, q_m9999, q_m99003, q_m99002, q_m99001, q_m10, q_l16, q_l25, q_l30, q_l38, q_l40, q_l41, q_l42, q_l51, q_l60, q_l64, q_l98, q_l128, q_l1024, q_l2000, q_l2048, q_l9000, q_l9996, q_l10111, q_l16384, q_l100000, q_l15516947, q_l2147483647, q_t0, q_t1, q_t2, q_t3, q_t4, q_t5, q_t6, q_t7, q_t8, q_t9, q_t10, q_t11, q_t12, q_t13, q_t14, q_t15, q_t18, q_t19, q_t20, q_t22, q_t24, q_t32, q_t36, q_t37, q_t39, q_t43, q_t45, q_t48, q_t49, q_t50, q_t52, q_t53, q_t55, q_t57, q_t80, q_t93, q_t99, q_t100, q_t103, q_t115, q_t117, q_t119, q_t120, q_t154, q_t155, q_t157, q_t255, q_t256, q_t300, q_t314, q_t500, q_t990, q_t999, q_t1000, q_t1041, q_t2041, q_t9999, q_t10000, q_t31, q_t33, q_t16, q_t25, q_t30, q_t38, q_t40, q_t41, q_t42, q_t51, q_t60, q_t64, q_t98, q_t128, q_t1024, q_t2000, q_t2048, q_t9000, q_t9996, q_t10111, q_t16384, q_t100000, q_t15516947, q_t2147483647, q_jadd, q_jsub, q_jmul, q_i2l, q_l2i, q_jcmp, q_cm1, q_cm2, q_cm3, q_cm4, q_cm5, q_jdiv, q_jrem, q_j0, q_j1, q_j2, q_j3, q_j4, q_j5, q_j6, q_j9, q_j24, q_j50, q_j99, q_j255, q_j9999, q_jm9, q_jk, q_jk2, q_jk3, Nat.reduceAdd, Nat.reduceMul, Nat.zero_add, q_l51, q_l118, q_l156, q_t51, q_t118, q_t156, q_j13, Int.reduceAdd]
    refine (s_X9_load_40).trans ?_
    simp (disch := first | exact nl_i | exact nl_r | exact nl_n | exact q_vp (by omega) (by omega) (by omega) | exact Nat.le_of_ble_eq_true rfl | exact q_nz (by omega) (by omega) (by omega) | exact q_cg (by omega) (by omega) (by omega) (by omega) (by omega) (by omega) (by omega) | exact q_bz | exact q_zo (by omega) | assumption | omega | (simp (disch := omega) only [q_re, q_rn, q_pe, q_pn]; done) | (simp (disch := omega) only [q_re, q_rn, q_pe, q_pn]; omega) | (simp (disch := omega) only [q_re, q_rn, q_pe, q_pn, q_tc]; done) | (simp (disch := omega) only [q_re, q_rn, q_pe, q_pn, q_tc]; omega) | (simp (disch := omega) only [q_re, q_rn, q_pe, q_pn, q_tc]; assumption) | rfl) only [s_X9_load_0, s_X9_load_1, s_X9_load_4, s_X9_load_7, s_X9_load_10, s_X9_load_20, s_X9_load_21, s_X9_load_24, s_X9_load_25, s_X9_load_28, s_X9_load_31, s_X9_load_32, s_X9_load_35, s_X9_load_38, s_X9_load_39, s_X9_load_41, s_X9_load_42, s_X9_load_45, s_X9_load_46, s_X9_load_49, s_X9_load_50, s_X9_load_51, s_X9_load_52, s_X9_load_55, s_X9_load_58, s_X9_load_59, s_X9_load_62, s_X9_load_65, sm_k1_ok, sm_k1_er, sm_tl_s, sm_tl_n, q_Ia, q_Iu, q_add, q_sub, q_mul, q_neg, q_lt, q_le, q_eq, q_tn, q_div, q_mod, q_mo, q_b0, q_if, q_uu, q_re, q_rr, q_r3, q_r4, q_rn, q_pe, q_pn, q_pp, q_ta, q_tm, q_tc, q_na, q_n0, q_n1, q_ip, q_in, q_cpe, Nat.add_zero, ite_not, q_l0, q_l1, q_l2, q_l3, q_l4, q_l5, q_l6, q_l7, q_l8, q_l9, q_l10, q_l11, q_l12, q_l13, q_l14, q_l15, q_l18, q_l19, q_l20, q_l22, q_l24, q_l32, q_l36, q_l37, q_l39, q_l43, q_l45, q_l48, q_l49, q_l50, q_l52, q_l53, q_l55, q_l57, q_l80, q_l93, q_l99, q_l100, q_l103, q_l115, q_l117, q_l119, q_l120, q_l154, q_l155, q_l157, q_l255, q_l256, q_l300, q_l314, q_l500, q_l990, q_l999, q_l1000, q_l1041, q_l2041, q_l9999, q_l10000, q_l31, q_l33, q_m1, q_m2, q_m3, q_m4, q_m5, q_m7, q_m8, q_m9, q_m9999, q_m99003, q_m99002, q_m99001, q_m10, q_l16, q_l25, q_l30, q_l38, q_l40, q_l41, q_l42, q_l51, q_l60, q_l64, q_l98, q_l128, q_l1024, q_l2000, q_l2048, q_l9000, q_l9996, q_l10111, q_l16384, q_l100000, q_l15516947, q_l2147483647, q_t0, q_t1, q_t2, q_t3, q_t4, q_t5, q_t6, q_t7, q_t8, q_t9, q_t10, q_t11, q_t12, q_t13, q_t14, q_t15, q_t18, q_t19, q_t20, q_t22, q_t24, q_t32, q_t36, q_t37, q_t39, q_t43, q_t45, q_t48, q_t49, q_t50, q_t52, q_t53, q_t55, q_t57, q_t80, q_t93, q_t99, q_t100, q_t103, q_t115, q_t117, q_t119, q_t120, q_t154, q_t155, q_t157, q_t255, q_t256, q_t300, q_t314, q_t500, q_t990, q_t999, q_t1000, q_t1041, q_t2041, q_t9999, q_t10000, q_t31, q_t33, q_t16, q_t25, q_t30, q_t38, q_t40, q_t41, q_t42, q_t51, q_t60, q_t64, q_t98, q_t128, q_t1024, q_t2000, q_t2048, q_t9000, q_t9996, q_t10111, q_t16384, q_t100000, q_t15516947, q_t2147483647, q_jadd, q_jsub, q_jmul, q_i2l, q_l2i, q_jcmp, q_cm1, q_cm2, q_cm3, q_cm4, q_cm5, q_jdiv, q_jrem, q_j0, q_j1, q_j2, q_j3, q_j4, q_j5, q_j6, q_j9, q_j24, q_j50, q_j99, q_j255, q_j9999, q_jm9, q_jk, q_jk2, q_jk3, Nat.reduceAdd, Nat.reduceMul, Nat.zero_add, q_l51, q_l118, q_l156, q_t51, q_t118, q_t156, q_j13, Int.reduceAdd, f4]
  · rw [q_rn (by omega), q_rn (by omega), q_re]; exact eF
  · rw [q_rn (by omega), q_re, q_pn (by omega)]; exact hR.2.1.1
  · rw [q_rn (by omega), q_re, q_pe]; rfl
  · rw [q_re]
    refine ⟨?_, fun P1 hP => ?_⟩
    · rcases (show q1 = 0 ∨ q1 = 1 by omega) with rfl | rfl
      · rw [q_pn (by omega), q_pe]; rfl
      · rw [q_pe]; rfl
    · rcases (show q1 = 0 ∨ q1 = 1 by omega) with rfl | rfl <;> cases hP
  · rw [q_rn (by omega), q_rn (by omega), q_rn (by omega), q_re, t_r0]; exact e6
  · rw [vo 20 (by omega) (by omega) (by omega) (by omega)]; exact hR.2.2.2.2 j x hx
end Z48a
