/-! HOURS, the class's: melting, the book, an hour -/
section Z27
variable {W : Nat → Nat → Int} {o : Int64} {k : Nat} {u : Int} {H : Int}
theorem q_wa_w {a w : Int} (h : 1 ≤ a ∧ a ≤ 9) (h1 : 0 < w ∧ w ≤ 9) : 0 ≤ w * a ∧ w * a ≤ 81 := by
  constructor
  · exact Int.mul_nonneg (by omega) (by omega)
  · have := Int.mul_le_mul h1.2 h.2 (by omega) (by omega)
    omega
theorem q_mm_w {w : Int} {s : Nat} {P : Nat → Int} (ha : 1 ≤ P (15 + 4 * s) ∧ P (15 + 4 * s) ≤ 9) (hs : 0 ≤ P (15 + 4 * s + 3) ∧ P (15 + 4 * s + 3) ≤ 999) (hw : 0 < w ∧ w ≤ 9) : 0 ≤ q_mm w s P ∧ q_mm w s P ≤ P (15 + 4 * s + 3) := by
  have h1 := q_wa_w ha hw
  unfold q_mm; split <;> omega
theorem q_tme_o {P : Nat → Int} {v : Int} {j : Nat} (h : j ≠ 7 ∧ j ≠ 11 ∧ j ≠ 12) : q_tme P v j = P j := by
  unfold q_tme q_pour
  rw [q_pn h.2.1, q_pn h.1, q_pn h.2.2]
theorem q_ms_o {P : Nat → Int} {w : Int} {s : Nat} {j : Nat} (h : j ≠ 7 ∧ j ≠ 11 ∧ j ≠ 12 ∧ j ≠ 15 + 4 * s + 3) : q_ms w s P j = P j := by
  unfold q_ms
  rw [q_tme_o (by omega), q_pn h.2.2.2]
theorem q_ms_ok {P : Nat → Int} {w : Int} {s : Nat} (h : q_ok H 9 P) (hs : (s : Int) < P 4) (hw : 0 < w ∧ w ≤ 9) : q_ok H 9 (q_ms w s P) := by
  have b := h.2.1 s hs
  have m := q_mm_w b.1 b.2.2.2 hw
  have a4 := h.1.2.2.2.2.1
  have a6 := h.1.2.2.2.2.2.2.1
  exact q_tme_ok (q_ok_pu h (by omega) (fun s _ => by omega) (fun g _ => by omega) (fun i _ => by omega)) (by omega) (by omega)
/-- what melting keeps -/
def q_kq (P Q : Nat → Int) : Prop := ∀ j, (j < 7 ∨ j = 8 ∨ j = 9 ∨ j = 10 ∨ j = 13 ∨ j = 14 ∨ 39 ≤ j ∨ (15 ≤ j ∧ j < 39 ∧ (j - 15) % 4 ≠ 3)) → Q j = P j
theorem q_melt_z {P : Nat → Int} {w : Int} (h : q_ok H 9 P) (hw : 0 < w ∧ w ≤ 9) {n : Nat} (hn : (n : Int) ≤ P 4) : q_ok H 9 (q_it (q_ms w) n P) ∧ q_kq P (q_it (q_ms w) n P) := by
  have a4 := h.1.2.2.2.2.1
  refine q_it_inv (f := q_ms w) (Z := fun _ x => q_ok H 9 x ∧ q_kq P x) (N := n) (x := P) ?_ ⟨h, fun _ _ => rfl⟩ n (Nat.le_refl _)
  rintro m x hm ⟨h1, h2⟩
  have e4 : x 4 = P 4 := h2 4 (by omega)
  refine ⟨q_ms_ok h1 (by omega) hw, fun j hj => ?_⟩
  rw [q_ms_o (by omega)]
  exact h2 j hj
theorem z_X3_melt (hH : H ≤ 2000000) (h : q_ok H 9 (W k)) : F_X3_melt (q_I W, o) [.inr (.inr (5, k, 0))] = some ((q_I (q_rg W k (q_melt (W k))), o), .ok none) := by
  have a4 := h.1.2.2.2.2.1
  have a6 := h.1.2.2.2.2.2.2.1
  have a8 := h.1.2.2.2.2.2.2.2.2.1
  have w1 := q_wet_w h a8.1
  rw [e_X3_melt]
  simp (disch := first | exact nl_i | exact nl_r | exact nl_n | exact q_vp (by omega) (by omega) (by omega) | exact Nat.le_of_ble_eq_true rfl | exact q_nz (by omega) (by omega) (by omega) | exact q_cg (by omega) (by omega) (by omega) (by omega) (by omega) (by omega) (by omega) | exact q_bz | exact q_zo (by omega) | assumption | omega | (simp (disch := omega) only [q_re, q_rn, q_pe, q_pn]; done) | (simp (disch := omega) only [q_re, q_rn, q_pe, q_pn]; omega)) only [s_X3_melt_0, s_X3_melt_1, s_X3_melt_4, s_X3_melt_5, s_X3_melt_8, s_X3_melt_11, s_X3_melt_12, s_X3_melt_13, s_X3_melt_16, s_X3_melt_17, s_X3_melt_18, s_X3_melt_20, s_X3_melt_21, s_X3_melt_24, s_X3_melt_27, s_X3_melt_28, s_X3_melt_31, s_X3_melt_32, s_X3_melt_33, s_X3_melt_34, s_X3_melt_35, s_X3_melt_38, s_X3_melt_39, s_X3_melt_40, s_X3_melt_43, s_X3_melt_44, s_X3_melt_47, s_X3_melt_49, s_X3_melt_50, s_X3_melt_51, s_X3_melt_54, s_X3_melt_56, s_X3_melt_57, s_X3_melt_60, s_X3_melt_61, s_X3_melt_64, s_X3_melt_66, s_X3_melt_69, s_X3_melt_72, s_X3_melt_75, sm_k1_ok, sm_k1_er, sm_tl_s, sm_tl_n, q_Ia, q_Iu, q_add, q_sub, q_mul, q_neg, q_lt, q_le, q_eq, q_tn, q_div, q_mod, q_mo, q_b0, q_if, q_uu, q_re, q_rr, q_r3, q_r4, q_rn, q_pe, q_pn, q_pp, q_ta, q_tm, q_tc, q_na, q_n0, q_n1, q_ip, q_in, q_cpe, Nat.add_zero, ite_not, q_l0, q_l1, q_l2, q_l3, q_l4, q_l5, q_l6, q_l7, q_l8, q_l9, q_l10, q_l11, q_l12, q_l13, q_l14, q_l15, q_l18, q_l19, q_l20, q_l22, q_l24, q_l32, q_l36, q_l37, q_l39, q_l43, q_l45, q_l48, q_l49, q_l50, q_l52, q_l53, q_l55, q_l57, q_l80, q_l93, q_l99, q_l100, q_l103, q_l115, q_l117, q_l119, q_l120, q_l154, q_l155, q_l157, q_l255, q_l256, q_l300, q_l314, q_l500, q_l990, q_l999, q_l1000, q_l1041, q_l2041, q_l9999, q_l10000, q_l31, q_l33, q_m1, q_m2, q_m3, q_m4, q_m5, q_m7, q_m8, q_m9, q_m9999, q_m99003, q_m99002, q_m99001, q_m10, q_l16, q_l25, q_l30, q_l38, q_l40, q_l41, q_l42, q_l51, q_l60, q_l64, q_l98, q_l128, q_l1024, q_l2000, q_l2048, q_l9000, q_l9996, q_l10111, q_l16384, q_l100000, q_l15516947, q_l2147483647, q_t0, q_t1, q_t2, q_t3, q_t4, q_t5, q_t6, q_t7, q_t8, q_t9, q_t10, q_t11, q_t12, q_t13, q_t14, q_t15, q_t18, q_t19, q_t20, q_t22, q_t24, q_t32, q_t36, q_t37, q_t39, q_t43, q_t45, q_t48, q_t49, q_t50, q_t52, q_t53, q_t55, q_t57, q_t80, q_t93, q_t99, q_t100, q_t103, q_t115, q_t117, q_t119, q_t120, q_t154, q_t155, q_t157, q_t255, q_t256, q_t300, q_t314, q_t500, q_t990, q_t999, q_t1000, q_t1041, q_t2041, q_t9999, q_t10000, q_t31, q_t33, q_t16, q_t25, q_t30, q_t38, q_t40, q_t41, q_t42, q_t51, q_t60, q_t64, q_t98, q_t128, q_t1024, q_t2000, q_t2048, q_t9000, q_t9996, q_t10111, q_t16384, q_t100000, q_t15516947, q_t2147483647, z_X8_wetAt]
  unfold q_melt
  generalize q_wet (W k) (W k 8) = w at w1 ⊢
  by_cases hw : w ≤ 0
  · rw [if_pos hw, if_neg (by omega), q_rs]
  · rw [if_neg hw, if_pos (by omega)]
    rw [show q_I W = q_I (q_rg W k (W k)) by rw [q_rs]]
    refine q_loopJ (S := fun n (y : Nat → Int) (j : Option sm_V × Option sm_V) => sm_R T_X3_melt (0, 19, (q_I (q_rg W k y), o), [(some (.inr (.inr (5, k, 0)))), (some (.inl (q_i (w)))), (some (.inl (q_i (n)))), j.1, j.2], [])) (f := q_ms w) (N := (W k 4).toNat) (Z := fun n y => q_ok H 9 y ∧ q_kq (W k) y) (K := fun j => sm_nl j.1 = true ∧ sm_nl j.2 = true) (x := W k) (j := (none, none)) ⟨h, fun _ _ => rfl⟩ ⟨rfl, rfl⟩ ?_ ?_ ?_
    · rintro n y hn ⟨h1, h2⟩
      have e4 : y 4 = W k 4 := h2 4 (by omega)
      refine ⟨q_ms_ok h1 (by omega) (by omega), fun j hj => ?_⟩
      rw [q_ms_o (by omega)]
      exact h2 j hj
    · rintro n y ⟨j1, j2⟩ hn ⟨h1, h2⟩ ⟨g1, g2⟩
      simp only at g1 g2
      have e4 : y 4 = W k 4 := h2 4 (by omega)
      have b := h1.2.1 n (by omega)
      have b7 := h1.1.2.2.2.2.2.2.2.1
      have b1 := h1.1.2.1
      have m := q_mm_w b.1 b.2.2.2 (w := w) (by omega)
      have wa := q_wa_w b.1 (w := w) (by omega)
      refine ⟨((some (.inr (.inr (4, k, n)))), (some (.inl (q_i (q_mm w n y))))), ⟨rfl, rfl⟩, ?_⟩
      refine (s_X3_melt_19).trans ?_
      unfold q_mm at m
      simp (disch := first | exact nl_i | exact nl_r | exact nl_n | exact q_vp (by omega) (by omega) (by omega) | exact Nat.le_of_ble_eq_true rfl | exact q_nz (by omega) (by omega) (by omega) | exact q_cg (by omega) (by omega) (by omega) (by omega) (by omega) (by omega) (by omega) | exact q_bz | exact q_zo (by omega) | assumption | omega | (simp (disch := omega) only [q_re, q_rn, q_pe, q_pn]; done) | (simp (disch := omega) only [q_re, q_rn, q_pe, q_pn]; omega)) only [s_X3_melt_0, s_X3_melt_1, s_X3_melt_4, s_X3_melt_5, s_X3_melt_8, s_X3_melt_11, s_X3_melt_12, s_X3_melt_13, s_X3_melt_16, s_X3_melt_17, s_X3_melt_18, s_X3_melt_20, s_X3_melt_21, s_X3_melt_24, s_X3_melt_27, s_X3_melt_28, s_X3_melt_31, s_X3_melt_32, s_X3_melt_33, s_X3_melt_34, s_X3_melt_35, s_X3_melt_38, s_X3_melt_39, s_X3_melt_40, s_X3_melt_43, s_X3_melt_44, s_X3_melt_47, s_X3_melt_49, s_X3_melt_50, s_X3_melt_51, s_X3_melt_54, s_X3_melt_56, s_X3_melt_57, s_X3_melt_60, s_X3_melt_61, s_X3_melt_64, s_X3_melt_66, s_X3_melt_69, s_X3_melt_72, s_X3_melt_75, sm_k1_ok, sm_k1_er, sm_tl_s, sm_tl_n, q_Ia, q_Iu, q_add, q_sub, q_mul, q_neg, q_lt, q_le, q_eq, q_tn, q_div, q_mod, q_mo, q_b0, q_if, q_uu, q_re, q_rr, q_r3, q_r4, q_rn, q_pe, q_pn, q_pp, q_ta, q_tm, q_tc, q_na, q_n0, q_n1, q_ip, q_in, q_cpe, Nat.add_zero, ite_not, q_l0, q_l1, q_l2, q_l3, q_l4, q_l5, q_l6, q_l7, q_l8, q_l9, q_l10, q_l11, q_l12, q_l13, q_l14, q_l15, q_l18, q_l19, q_l20, q_l22, q_l24, q_l32, q_l36, q_l37, q_l39, q_l43, q_l45, q_l48, q_l49, q_l50, q_l52, q_l53, q_l55, q_l57, q_l80, q_l93, q_l99, q_l100, q_l103, q_l115, q_l117, q_l119, q_l120, q_l154, q_l155, q_l157, q_l255, q_l256, q_l300, q_l314, q_l500, q_l990, q_l999, q_l1000, q_l1041, q_l2041, q_l9999, q_l10000, q_l31, q_l33, q_m1, q_m2, q_m3, q_m4, q_m5, q_m7, q_m8, q_m9, q_m9999, q_m99003, q_m99002, q_m99001, q_m10, q_l16, q_l25, q_l30, q_l38, q_l40, q_l41, q_l42, q_l51, q_l60, q_l64, q_l98, q_l128, q_l1024, q_l2000, q_l2048, q_l9000, q_l9996, q_l10111, q_l16384, q_l100000, q_l15516947, q_l2147483647, q_t0, q_t1, q_t2, q_t3, q_t4, q_t5, q_t6, q_t7, q_t8, q_t9, q_t10, q_t11, q_t12, q_t13, q_t14, q_t15, q_t18, q_t19, q_t20, q_t22, q_t24, q_t32, q_t36, q_t37, q_t39, q_t43, q_t45, q_t48, q_t49, q_t50, q_t52, q_t53, q_t55, q_t57, q_t80, q_t93, q_t99, q_t100, q_t103, q_t115, q_t117, q_t119, q_t120, q_t154, q_t155, q_t157, q_t255, q_t256, q_t300, q_t314, q_t500, q_t990, q_t999, q_t1000, q_t1041, q_t2041, q_t9999, q_t10000, q_t31, q_t33, q_t16, q_t25, q_t30, q_t38, q_t40, q_t41, q_t42, q_t51, q_t60, q_t64, q_t98, q_t128, q_t1024, q_t2000, q_t2048, q_t9000, q_t9996, q_t10111, q_t16384, q_t100000, q_t15516947, q_t2147483647, z_X7_takeMelted, q_ms, q_mm]
    · rintro y ⟨j1, j2⟩ hy ⟨h1, h2⟩ ⟨g1, g2⟩
      have e4 : y 4 = W k 4 := h2 4 (by omega)
      rw [← hy]
      refine (s_X3_melt_19).trans ?_
      simp (disch := first | exact nl_i | exact nl_r | exact nl_n | exact q_vp (by omega) (by omega) (by omega) | exact Nat.le_of_ble_eq_true rfl | exact q_nz (by omega) (by omega) (by omega) | exact q_cg (by omega) (by omega) (by omega) (by omega) (by omega) (by omega) (by omega) | exact q_bz | exact q_zo (by omega) | assumption | omega | (simp (disch := omega) only [q_re, q_rn, q_pe, q_pn]; done) | (simp (disch := omega) only [q_re, q_rn, q_pe, q_pn]; omega)) only [s_X3_melt_0, s_X3_melt_1, s_X3_melt_4, s_X3_melt_5, s_X3_melt_8, s_X3_melt_11, s_X3_melt_12, s_X3_melt_13, s_X3_melt_16, s_X3_melt_17, s_X3_melt_18, s_X3_melt_20, s_X3_melt_21, s_X3_melt_24, s_X3_melt_27, s_X3_melt_28, s_X3_melt_31, s_X3_melt_32, s_X3_melt_33, s_X3_melt_34, s_X3_melt_35, s_X3_melt_38, s_X3_melt_39, s_X3_melt_40, s_X3_melt_43, s_X3_melt_44, s_X3_melt_47, s_X3_melt_49, s_X3_melt_50, s_X3_melt_51, s_X3_melt_54, s_X3_melt_56, s_X3_melt_57, s_X3_melt_60, s_X3_melt_61, s_X3_melt_64, s_X3_melt_66, s_X3_melt_69, s_X3_melt_72, s_X3_melt_75, sm_k1_ok, sm_k1_er, sm_tl_s, sm_tl_n, q_Ia, q_Iu, q_add, q_sub, q_mul, q_neg, q_lt, q_le, q_eq, q_tn, q_div, q_mod, q_mo, q_b0, q_if, q_uu, q_re, q_rr, q_r3, q_r4, q_rn, q_pe, q_pn, q_pp, q_ta, q_tm, q_tc, q_na, q_n0, q_n1, q_ip, q_in, q_cpe, Nat.add_zero, ite_not, q_l0, q_l1, q_l2, q_l3, q_l4, q_l5, q_l6, q_l7, q_l8, q_l9, q_l10, q_l11, q_l12, q_l13, q_l14, q_l15, q_l18, q_l19, q_l20, q_l22, q_l24, q_l32, q_l36, q_l37, q_l39, q_l43, q_l45, q_l48, q_l49, q_l50, q_l52, q_l53, q_l55, q_l57, q_l80, q_l93, q_l99, q_l100, q_l103, q_l115, q_l117, q_l119, q_l120, q_l154, q_l155, q_l157, q_l255, q_l256, q_l300, q_l314, q_l500, q_l990, q_l999, q_l1000, q_l1041, q_l2041, q_l9999, q_l10000, q_l31, q_l33, q_m1, q_m2, q_m3, q_m4, q_m5, q_m7, q_m8, q_m9, q_m9999, q_m99003, q_m99002, q_m99001, q_m10, q_l16, q_l25, q_l30, q_l38, q_l40, q_l41, q_l42, q_l51, q_l60, q_l64, q_l98, q_l128, q_l1024, q_l2000, q_l2048, q_l9000, q_l9996, q_l10111, q_l16384, q_l100000, q_l15516947, q_l2147483647, q_t0, q_t1, q_t2, q_t3, q_t4, q_t5, q_t6, q_t7, q_t8, q_t9, q_t10, q_t11, q_t12, q_t13, q_t14, q_t15, q_t18, q_t19, q_t20, q_t22, q_t24, q_t32, q_t36, q_t37, q_t39, q_t43, q_t45, q_t48, q_t49, q_t50, q_t52, q_t53, q_t55, q_t57, q_t80, q_t93, q_t99, q_t100, q_t103, q_t115, q_t117, q_t119, q_t120, q_t154, q_t155, q_t157, q_t255, q_t256, q_t300, q_t314, q_t500, q_t990, q_t999, q_t1000, q_t1041, q_t2041, q_t9999, q_t10000, q_t31, q_t33, q_t16, q_t25, q_t30, q_t38, q_t40, q_t41, q_t42, q_t51, q_t60, q_t64, q_t98, q_t128, q_t1024, q_t2000, q_t2048, q_t9000, q_t9996, q_t10111, q_t16384, q_t100000, q_t15516947, q_t2147483647, e4]
theorem q_bsh_o {P : Nat → Int} {j : Nat} (h : j < 117) (h1 : j ≠ 14) : q_bsh P j = P j := by
  unfold q_bsh
  rw [q_pn h1]
  unfold q_cp
  rw [if_neg (by omega), if_neg (by omega)]
theorem q_ent_o {P : Nat → Int} {s t : Int} {j : Nat} (h : j < 117) (h1 : j ≠ 14) : q_ent P s t j = P j := by
  unfold q_ent
  split
  · unfold q_ent1; rw [q_pn h1, q_pn (by omega), q_pn (by omega)]
  · unfold q_ent1; rw [q_pn h1, q_pn (by omega), q_pn (by omega), q_bsh_o h h1]
theorem q_ent_14 {P : Nat → Int} {s t : Int} (h : 0 ≤ P 14 ∧ P 14 ≤ 20) : 0 ≤ q_ent P s t 14 ∧ q_ent P s t 14 ≤ 20 := by
  unfold q_ent
  split
  · unfold q_ent1; rw [q_pe]; omega
  · unfold q_ent1; rw [q_pe]; unfold q_bsh; rw [q_pe]; omega
/-- what the book's part keeps -/
def q_kb (P Q : Nat → Int) : Prop := ∀ j, j < 117 → j ≠ 14 → Q j = P j
theorem q_es_z {B P x : Nat → Int} {n : Nat} (h : (q_ok H 9 x ∧ q_kb P x)) : q_ok H 9 (q_es B n x) ∧ q_kb P (q_es B n x) := by
  have b14 := h.1.1.2.2.2.2.2.2.2.2.2
  unfold q_es
  split
  · split
    · exact ⟨q_ok_ext h.1 (by omega) (fun j hj hj1 => q_ent_o hj hj1) (q_ent_14 b14), fun j hj hj1 => by rw [q_ent_o hj hj1]; exact h.2 j hj hj1⟩
    · exact h
  · exact h
theorem q_enter_z {B P : Nat → Int} (h : q_ok H 9 P) (n : Nat) : q_ok H 9 (q_it (q_es B) n P) ∧ q_kb P (q_it (q_es B) n P) :=
  q_it_inv (f := q_es B) (Z := fun _ x => q_ok H 9 x ∧ q_kb P x) (N := n) (x := P) (fun _ _ _ hx => q_es_z hx) ⟨h, fun _ _ _ => rfl⟩ n (Nat.le_refl _)
theorem z_X3_enterReady (hk : k < 3) (h : q_ok H 9 (W k)) (hB : ∀ s : Nat, (s : Int) < W k 4 → 0 ≤ W 23 s ∧ W 23 s ≤ 1) : F_X3_enterReady (q_I W, o) [.inr (.inr (3, 0, 0)), .inr (.inr (5, k, 0))] = some ((q_I (q_rg W k (q_enter (W k) (W 23))), o), .ok none) := by
  have a4 := h.1.2.2.2.2.1
  rw [e_X3_enterReady]
  simp (disch := first | exact nl_i | exact nl_r | exact nl_n | exact q_vp (by omega) (by omega) (by omega) | exact Nat.le_of_ble_eq_true rfl | exact q_nz (by omega) (by omega) (by omega) | exact q_cg (by omega) (by omega) (by omega) (by omega) (by omega) (by omega) (by omega) | exact q_bz | exact q_zo (by omega) | assumption | omega | (simp (disch := omega) only [q_re, q_rn, q_pe, q_pn]; done) | (simp (disch := omega) only [q_re, q_rn, q_pe, q_pn]; omega)) only [s_X3_enterReady_0, s_X3_enterReady_1, s_X3_enterReady_3, s_X3_enterReady_4, s_X3_enterReady_7, s_X3_enterReady_10, s_X3_enterReady_11, s_X3_enterReady_14, s_X3_enterReady_15, s_X3_enterReady_16, s_X3_enterReady_19, s_X3_enterReady_22, s_X3_enterReady_23, s_X3_enterReady_26, s_X3_enterReady_27, s_X3_enterReady_28, s_X3_enterReady_31, s_X3_enterReady_32, s_X3_enterReady_35, s_X3_enterReady_36, s_X3_enterReady_37, s_X3_enterReady_40, s_X3_enterReady_43, s_X3_enterReady_46, s_X3_enterReady_49, sm_k1_ok, sm_k1_er, sm_tl_s, sm_tl_n, q_Ia, q_Iu, q_add, q_sub, q_mul, q_neg, q_lt, q_le, q_eq, q_tn, q_div, q_mod, q_mo, q_b0, q_if, q_uu, q_re, q_rr, q_r3, q_r4, q_rn, q_pe, q_pn, q_pp, q_ta, q_tm, q_tc, q_na, q_n0, q_n1, q_ip, q_in, q_cpe, Nat.add_zero, ite_not, q_l0, q_l1, q_l2, q_l3, q_l4, q_l5, q_l6, q_l7, q_l8, q_l9, q_l10, q_l11, q_l12, q_l13, q_l14, q_l15, q_l18, q_l19, q_l20, q_l22, q_l24, q_l32, q_l36, q_l37, q_l39, q_l43, q_l45, q_l48, q_l49, q_l50, q_l52, q_l53, q_l55, q_l57, q_l80, q_l93, q_l99, q_l100, q_l103, q_l115, q_l117, q_l119, q_l120, q_l154, q_l155, q_l157, q_l255, q_l256, q_l300, q_l314, q_l500, q_l990, q_l999, q_l1000, q_l1041, q_l2041, q_l9999, q_l10000, q_l31, q_l33, q_m1, q_m2, q_m3, q_m4, q_m5, q_m7, q_m8, q_m9, q_m9999, q_m99003, q_m99002, q_m99001, q_m10, q_l16, q_l25, q_l30, q_l38, q_l40, q_l41, q_l42, q_l51, q_l60, q_l64, q_l98, q_l128, q_l1024, q_l2000, q_l2048, q_l9000, q_l9996, q_l10111, q_l16384, q_l100000, q_l15516947, q_l2147483647, q_t0, q_t1, q_t2, q_t3, q_t4, q_t5, q_t6, q_t7, q_t8, q_t9, q_t10, q_t11, q_t12, q_t13, q_t14, q_t15, q_t18, q_t19, q_t20, q_t22, q_t24, q_t32, q_t36, q_t37, q_t39, q_t43, q_t45, q_t48, q_t49, q_t50, q_t52, q_t53, q_t55, q_t57, q_t80, q_t93, q_t99, q_t100, q_t103, q_t115, q_t117, q_t119, q_t120, q_t154, q_t155, q_t157, q_t255, q_t256, q_t300, q_t314, q_t500, q_t990, q_t999, q_t1000, q_t1041, q_t2041, q_t9999, q_t10000, q_t31, q_t33, q_t16, q_t25, q_t30, q_t38, q_t40, q_t41, q_t42, q_t51, q_t60, q_t64, q_t98, q_t128, q_t1024, q_t2000, q_t2048, q_t9000, q_t9996, q_t10111, q_t16384, q_t100000, q_t15516947, q_t2147483647]
  rw [show q_I W = q_I (q_rg W k (W k)) by rw [q_rs]]
  refine q_loop (S := fun n (y : Nat → Int) => sm_R T_X3_enterReady (0, 2, (q_I (q_rg W k y), o), [(some (.inr (.inr (3, 0, 0)))), (some (.inr (.inr (5, k, 0)))), (some (.inl (q_i (n))))], [])) (f := q_es (W 23)) (N := (W k 4).toNat) (Z := fun n y => q_ok H 9 y ∧ q_kb (W k) y) (x := W k) ⟨h, fun _ _ _ => rfl⟩ (fun _ _ _ hx => q_es_z hx) ?_ ?_
  · rintro n y hn ⟨h1, h2⟩
    have e4 : y 4 = W k 4 := h2 4 (by omega) (by omega)
    have b := hB n (by omega)
    have b14 := h1.1.2.2.2.2.2.2.2.2.2
    have r := q_rd_w h1 (s := n) (by omega)
    have hr := z_X4_isReady (W := q_rg W k y) (o := o) (k := k) (s := n) (by rw [q_re]; exact r.1) (by rw [q_re]; exact r.2)
    refine (s_X3_enterReady_2).trans ?_
    simp (disch := first | exact nl_i | exact nl_r | exact nl_n | exact q_vp (by omega) (by omega) (by omega) | exact Nat.le_of_ble_eq_true rfl | exact q_nz (by omega) (by omega) (by omega) | exact q_cg (by omega) (by omega) (by omega) (by omega) (by omega) (by omega) (by omega) | exact q_bz | exact q_zo (by omega) | assumption | omega | (simp (disch := omega) only [q_re, q_rn, q_pe, q_pn]; done) | (simp (disch := omega) only [q_re, q_rn, q_pe, q_pn]; omega)) only [s_X3_enterReady_0, s_X3_enterReady_1, s_X3_enterReady_3, s_X3_enterReady_4, s_X3_enterReady_7, s_X3_enterReady_10, s_X3_enterReady_11, s_X3_enterReady_14, s_X3_enterReady_15, s_X3_enterReady_16, s_X3_enterReady_19, s_X3_enterReady_22, s_X3_enterReady_23, s_X3_enterReady_26, s_X3_enterReady_27, s_X3_enterReady_28, s_X3_enterReady_31, s_X3_enterReady_32, s_X3_enterReady_35, s_X3_enterReady_36, s_X3_enterReady_37, s_X3_enterReady_40, s_X3_enterReady_43, s_X3_enterReady_46, s_X3_enterReady_49, sm_k1_ok, sm_k1_er, sm_tl_s, sm_tl_n, q_Ia, q_Iu, q_add, q_sub, q_mul, q_neg, q_lt, q_le, q_eq, q_tn, q_div, q_mod, q_mo, q_b0, q_if, q_uu, q_re, q_rr, q_r3, q_r4, q_rn, q_pe, q_pn, q_pp, q_ta, q_tm, q_tc, q_na, q_n0, q_n1, q_ip, q_in, q_cpe, Nat.add_zero, ite_not, q_l0, q_l1, q_l2, q_l3, q_l4, q_l5, q_l6, q_l7, q_l8, q_l9, q_l10, q_l11, q_l12, q_l13, q_l14, q_l15, q_l18, q_l19, q_l20, q_l22, q_l24, q_l32, q_l36, q_l37, q_l39, q_l43, q_l45, q_l48, q_l49, q_l50, q_l52, q_l53, q_l55, q_l57, q_l80, q_l93, q_l99, q_l100, q_l103, q_l115, q_l117, q_l119, q_l120, q_l154, q_l155, q_l157, q_l255, q_l256, q_l300, q_l314, q_l500, q_l990, q_l999, q_l1000, q_l1041, q_l2041, q_l9999, q_l10000, q_l31, q_l33, q_m1, q_m2, q_m3, q_m4, q_m5, q_m7, q_m8, q_m9, q_m9999, q_m99003, q_m99002, q_m99001, q_m10, q_l16, q_l25, q_l30, q_l38, q_l40, q_l41, q_l42, q_l51, q_l60, q_l64, q_l98, q_l128, q_l1024, q_l2000, q_l2048, q_l9000, q_l9996, q_l10111, q_l16384, q_l100000, q_l15516947, q_l2147483647, q_t0, q_t1, q_t2, q_t3, q_t4, q_t5, q_t6, q_t7, q_t8, q_t9, q_t10, q_t11, q_t12, q_t13, q_t14, q_t15, q_t18, q_t19, q_t20, q_t22, q_t24, q_t32, q_t36, q_t37, q_t39, q_t43, q_t45, q_t48, q_t49, q_t50, q_t52, q_t53, q_t55, q_t57, q_t80, q_t93, q_t99, q_t100, q_t103, q_t115, q_t117, q_t119, q_t120, q_t154, q_t155, q_t157, q_t255, q_t256, q_t300, q_t314, q_t500, q_t990, q_t999, q_t1000, q_t1041, q_t2041, q_t9999, q_t10000, q_t31, q_t33, q_t16, q_t25, q_t30, q_t38, q_t40, q_t41, q_t42, q_t51, q_t60, q_t64, q_t98, q_t128, q_t1024, q_t2000, q_t2048, q_t9000, q_t9996, q_t10111, q_t16384, q_t100000, q_t15516947, q_t2147483647, e4, hr, z_X0_enter]
    unfold q_es
    by_cases c1 : q_rd y n
    · rw [if_pos c1, if_pos c1]
      by_cases c2 : W 23 n = 0
      · rw [if_pos c2, if_pos c2]
      · rw [if_neg c2, if_neg c2]
    · rw [if_neg c1, if_neg c1]
  · rintro y hy ⟨h1, h2⟩
    have e4 : y 4 = W k 4 := h2 4 (by omega) (by omega)
    refine (s_X3_enterReady_2).trans ?_
    simp (disch := first | exact nl_i | exact nl_r | exact nl_n | exact q_vp (by omega) (by omega) (by omega) | exact Nat.le_of_ble_eq_true rfl | exact q_nz (by omega) (by omega) (by omega) | exact q_cg (by omega) (by omega) (by omega) (by omega) (by omega) (by omega) (by omega) | exact q_bz | exact q_zo (by omega) | assumption | omega | (simp (disch := omega) only [q_re, q_rn, q_pe, q_pn]; done) | (simp (disch := omega) only [q_re, q_rn, q_pe, q_pn]; omega)) only [s_X3_enterReady_0, s_X3_enterReady_1, s_X3_enterReady_3, s_X3_enterReady_4, s_X3_enterReady_7, s_X3_enterReady_10, s_X3_enterReady_11, s_X3_enterReady_14, s_X3_enterReady_15, s_X3_enterReady_16, s_X3_enterReady_19, s_X3_enterReady_22, s_X3_enterReady_23, s_X3_enterReady_26, s_X3_enterReady_27, s_X3_enterReady_28, s_X3_enterReady_31, s_X3_enterReady_32, s_X3_enterReady_35, s_X3_enterReady_36, s_X3_enterReady_37, s_X3_enterReady_40, s_X3_enterReady_43, s_X3_enterReady_46, s_X3_enterReady_49, sm_k1_ok, sm_k1_er, sm_tl_s, sm_tl_n, q_Ia, q_Iu, q_add, q_sub, q_mul, q_neg, q_lt, q_le, q_eq, q_tn, q_div, q_mod, q_mo, q_b0, q_if, q_uu, q_re, q_rr, q_r3, q_r4, q_rn, q_pe, q_pn, q_pp, q_ta, q_tm, q_tc, q_na, q_n0, q_n1, q_ip, q_in, q_cpe, Nat.add_zero, ite_not, q_l0, q_l1, q_l2, q_l3, q_l4, q_l5, q_l6, q_l7, q_l8, q_l9, q_l10, q_l11, q_l12, q_l13, q_l14, q_l15, q_l18, q_l19, q_l20, q_l22, q_l24, q_l32, q_l36, q_l37, q_l39, q_l43, q_l45, q_l48, q_l49, q_l50, q_l52, q_l53, q_l55, q_l57, q_l80, q_l93, q_l99, q_l100, q_l103, q_l115, q_l117, q_l119, q_l120, q_l154, q_l155, q_l157, q_l255, q_l256, q_l300, q_l314, q_l500, q_l990, q_l999, q_l1000, q_l1041, q_l2041, q_l9999, q_l10000, q_l31, q_l33, q_m1, q_m2, q_m3, q_m4, q_m5, q_m7, q_m8, q_m9, q_m9999, q_m99003, q_m99002, q_m99001, q_m10, q_l16, q_l25, q_l30, q_l38, q_l40, q_l41, q_l42, q_l51, q_l60, q_l64, q_l98, q_l128, q_l1024, q_l2000, q_l2048, q_l9000, q_l9996, q_l10111, q_l16384, q_l100000, q_l15516947, q_l2147483647, q_t0, q_t1, q_t2, q_t3, q_t4, q_t5, q_t6, q_t7, q_t8, q_t9, q_t10, q_t11, q_t12, q_t13, q_t14, q_t15, q_t18, q_t19, q_t20, q_t22, q_t24, q_t32, q_t36, q_t37, q_t39, q_t43, q_t45, q_t48, q_t49, q_t50, q_t52, q_t53, q_t55, q_t57, q_t80, q_t93, q_t99, q_t100, q_t103, q_t115, q_t117, q_t119, q_t120, q_t154, q_t155, q_t157, q_t255, q_t256, q_t300, q_t314, q_t500, q_t990, q_t999, q_t1000, q_t1041, q_t2041, q_t9999, q_t10000, q_t31, q_t33, q_t16, q_t25, q_t30, q_t38, q_t40, q_t41, q_t42, q_t51, q_t60, q_t64, q_t98, q_t128, q_t1024, q_t2000, q_t2048, q_t9000, q_t9996, q_t10111, q_t16384, q_t100000, q_t15516947, q_t2147483647, e4]
    unfold q_enter
    rw [← hy]
end Z27
