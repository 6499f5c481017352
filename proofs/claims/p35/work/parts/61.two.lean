/-! TWO OBJECTS: p and q -/
def x_u (W : Nat → Nat → Int) : Nat → Nat → Int := fun r => W (r + 100)
def x_mu (W V : Nat → Nat → Int) : Nat → Nat → Int := fun r j => if 100 ≤ r then V (r - 100) j else W r j
def x_R2 (W : Nat → Nat → Int) (σ ρ : x_sp) : Prop := x_R W σ ∧ x_R (x_u W) ρ
section Z61
variable {W V : Nat → Nat → Int} {σ ρ σ1 : x_sp} {H H1 u v w : Int} {o : Int64} {F : sm_F} {as : List sm_V}
theorem u_mu : x_u (x_mu W V) = V := by
  funext r j
  show (if 100 ≤ r + 100 then V (r + 100 - 100) j else W (r + 100) j) = V r j
  rw [if_pos (by omega), Nat.add_sub_cancel]
theorem mu_u : x_mu W (x_u W) = W := by
  funext r j
  show (if 100 ≤ r then W (r - 100 + 100) j else W r j) = W r j
  by_cases h : 100 ≤ r
  · rw [if_pos h, Nat.sub_add_cancel h]
  · rw [if_neg h]
theorem um_I : sm_um (q_I W, o) = (q_I (x_u W), o) := rfl
theorem mu_I : sm_mu (q_I W, o) (q_I V, o) = (q_I (x_mu W V), o) := by
  unfold sm_mu
  refine Prod.ext ?_ rfl
  funext r j
  show (if 100 ≤ r then q_i (V (r - 100) j) else q_i (W r j)) = q_i (if 100 ≤ r then V (r - 100) j else W r j)
  split <;> rfl
theorem du_9 {M : sm_M} : sm_du F M (.inr (.inr (9, 0, 0)) :: as) = F M (.inr (.inr (9, 0, 0)) :: as) := rfl
theorem du_1 {x : Int32} (hn : as.all sm_nr = true) (h : F (q_I (x_u W), o) (.inr (.inr (9, 0, 0)) :: as) = some ((q_I V, o), .ok (some (.inl x)))) : sm_du F (q_I W, o) (.inr (.inr (109, 0, 0)) :: as) = some ((q_I (x_mu W V), o), .ok (some (.inl x))) := by
  unfold sm_du
  split
  · rename_i as1 he
    have e : as = as1 := (List.cons.inj he).2
    subst e
    rw [um_I, h]
    show sm_g _ (some (sm_mu (q_I W, o) (q_I V, o), _)) = _
    rw [mu_I]
    unfold sm_g
    rw [if_pos hn]
  · rename_i hne
    exact absurd rfl (hne as)
theorem R2_1 (h : x_R2 W σ ρ) (h1 : x_R V σ1) (hf : ∀ r, 41 ≤ r → V r = W r) : x_R2 V σ1 ρ := ⟨h1, by
  have e : x_u V = x_u W := by funext r; exact hf (r + 100) (by omega)
  rw [e]; exact h.2⟩
theorem R2_2 (h : x_R2 W σ ρ) (h1 : x_R V σ1) : x_R2 (x_mu W V) σ σ1 := ⟨by
  refine x_same h.1 (fun r hr => ?_) ?_
  · funext j
    show (if 100 ≤ r then V (r - 100) j else W r j) = _
    rw [if_neg (by omega)]
  · show (if 100 ≤ 19 then V (19 - 100) 0 else W 19 0) = _
    rw [if_neg (by omega)], by rw [u_mu]; exact h1⟩
/-- a call of p -/
theorem d_p (h : x_T F (.inr (.inr (9, 0, 0)) :: as) σ v σ1) (hR : x_R2 W σ ρ) : ∃ V, sm_du F (q_I W, o) (.inr (.inr (9, 0, 0)) :: as) = some ((q_I V, o), .ok (some (.inl (q_i (v))))) ∧ x_R2 V σ1 ρ := by
  obtain ⟨V, e, R, f⟩ := h W o hR.1
  exact ⟨V, e, R2_1 hR R (fun r hr => f r (by omega))⟩
/-- a call of q -/
theorem d_q (hn : as.all sm_nr = true) (h : x_T F (.inr (.inr (9, 0, 0)) :: as) ρ v σ1) (hR : x_R2 W σ ρ) : ∃ V, sm_du F (q_I W, o) (.inr (.inr (109, 0, 0)) :: as) = some ((q_I V, o), .ok (some (.inl (q_i (v))))) ∧ x_R2 V σ σ1 := by
  obtain ⟨V, e, R, f⟩ := h (x_u W) o hR.2
  exact ⟨x_mu W V, du_1 hn e, R2_2 hR R⟩
/-- calls that leave the memory as it is -/
theorem r_p (hR : x_R2 W σ ρ) (h : ∀ X, x_R X σ → F (q_I X, o) (.inr (.inr (9, 0, 0)) :: as) = some ((q_I X, o), .ok (some (.inl (q_i (v)))))) : sm_du F (q_I W, o) (.inr (.inr (9, 0, 0)) :: as) = some ((q_I W, o), .ok (some (.inl (q_i (v))))) := h W hR.1
theorem r_q (hR : x_R2 W σ ρ) (hn : as.all sm_nr = true) (h : ∀ X, x_R X ρ → F (q_I X, o) (.inr (.inr (9, 0, 0)) :: as) = some ((q_I X, o), .ok (some (.inl (q_i (v)))))) : sm_du F (q_I W, o) (.inr (.inr (109, 0, 0)) :: as) = some ((q_I W, o), .ok (some (.inl (q_i (v))))) := by
  have e := du_1 (W := W) hn (h (x_u W) hR.2)
  rw [mu_u] at e
  exact e
theorem tx_ok {L : List Int} (hk : x_ok H σ) (h1 : L.length ≤ 120) (h2 : ∀ c ∈ L, 0 ≤ c ∧ c ≤ 255) : x_ok H (x_tx σ L) := ⟨hk.1, hk.2.1, fun i P hP => hk.2.2.1 i P hP, hk.2.2.2.1, h1, h2⟩
theorem tx_app (hk : x_ok H σ) (h1 : σ.2.2.2.2.length < 120) (hu : 0 ≤ u ∧ u ≤ 255) : x_ok H (x_tx σ (σ.2.2.2.2 ++ [u])) := tx_ok hk (by rw [List.length_append, List.length_singleton]; omega) (fun c hc => by
  rcases List.mem_append.mp hc with q | q
  · exact hk.2.2.2.2.2 c q
  · rw [List.mem_singleton.mp q]; exact hu)
/-- PUT -/
theorem L_put (hk : x_ok H σ) (hR : x_R2 W σ σ) (hu : 0 ≤ u ∧ u ≤ 255) (hl : σ.2.2.2.2.length < 120) : ∃ V, F_L_put (q_I W, o) [.inr (.inr (9, 0, 0)), .inr (.inr (109, 0, 0)), .inl (q_i (u))] = some ((q_I V, o), .ok (some (.inl (q_i (1))))) ∧ x_R2 V (x_tx σ (σ.2.2.2.2 ++ [u])) (x_tx σ (σ.2.2.2.2 ++ [u])) := by
  obtain ⟨V1, e1, R1⟩ := d_p (o := o) (x_append hk hu hl) hR
  obtain ⟨V2, e2, R2⟩ := d_q (o := o) rfl (x_append hk hu hl) R1
  refine ⟨V2, ?_, R2⟩
  have pos : 0 < ((σ.2.2.2.2.length + 1 : Nat) : Int) := by omega
  have mx : ((σ.2.2.2.2.length + 1 : Nat) : Int) ≤ 1000 := by omega
  generalize ((σ.2.2.2.2.length + 1 : Nat) : Int) = n at e1 e2 pos mx
  rw [e_L_put]
  simp (disch := first | exact nl_i | exact nl_r | exact nl_n | exact Nat.le_of_ble_eq_true rfl | assumption | omega | exact q_nz (by omega) (by omega) (by omega) | exact q_vp (by omega) (by omega) (by omega) | exact q_bz | exact q_zo (by omega) | with_reducible rfl) only [s_L_put_0, s_L_put_1, s_L_put_2, t_L_put_5, f_L_put_5, s_L_put_8, s_L_put_9, s_L_put_10, t_L_put_13, f_L_put_13, s_L_put_16, s_L_put_17, s_L_put_20, s_L_put_21, sm_k1_ok, sm_tl_s, sm_tl_n, q_add, q_sub, q_mul, q_neg, q_div, q_mod, q_mo, q_uu, q_tc, q_tn, q_na, q_n0, q_n1, Nat.add_zero, Nat.reduceSub, q_jadd, q_jsub, q_jmul, q_i2l, q_l2i, q_l0, q_l1, q_l2, q_l3, q_l4, q_l5, q_l6, q_l7, q_l8, q_l9, q_l10, q_l11, q_l12, q_l13, q_l14, q_l15, q_l18, q_l19, q_l20, q_l22, q_l24, q_l32, q_l36, q_l37, q_l39, q_l43, q_l45, q_l48, q_l49, q_l50, q_l52, q_l53, q_l55, q_l57, q_l80, q_l93, q_l99, q_l100, q_l103, q_l115, q_l117, q_l119, q_l120, q_l154, q_l155, q_l157, q_l255, q_l256, q_l300, q_l314, q_l500, q_l990, q_l999, q_l1000, q_l1041, q_l2041, q_l9999, q_l10000, q_l31, q_l33, q_m1, q_m2, q_m3, q_m4, q_m5, q_m7, q_m8, q_m9, q_m9999, q_m99003, q_m99002, q_m99001, q_m10, q_l16, q_l25, q_l30, q_l38, q_l40, q_l41, q_l42, q_l51, q_l60, q_l64, q_l98, q_l128, q_l1024, q_l2000, q_l2048, q_l9000, q_l9996, q_l10111, q_l16384, q_l100000, q_l15516947, q_l2147483647, q_t0, q_t1, q_t2, q_t3, q_t4, q_t5, q_t6, q_t7, q_t8, q_t9, q_t10, q_t11, q_t12, q_t13, q_t14, q_t15, q_t18, q_t19, q_t20, q_t22, q_t24, q_t32, q_t36, q_t37, q_t39, q_t43, q_t45, q_t48, q_t49, q_t50, q_t52, q_t53, q_t55, q_t57, q_t80, q_t93, q_t99, q_t100, q_t103, q_t115, q_t117, q_t119, q_t120, q_t154, q_t155, q_t157, q_t255, q_t256, q_t300, q_t314, q_t500, q_t990, q_t999, q_t1000, q_t1041, q_t2041, q_t9999, q_t10000, q_t31, q_t33, q_t16, q_t25, q_t30, q_t38, q_t40, q_t41, q_t42, q_t51, q_t60, q_t64, q_t98, q_t128, q_t1024, q_t2000, q_t2048, q_t9000, q_t9996, q_t10111, q_t16384, q_t100000, q_t15516947, q_t2147483647, e1, e2]
theorem two_v (hu : 0 ≤ u ∧ u ≤ 99) : (0 ≤ 48 + u / 10 ∧ 48 + u / 10 ≤ 57) ∧ 0 ≤ 48 + u % 10 ∧ 48 + u % 10 ≤ 57 := by omega
theorem L_two (hk : x_ok H σ) (hR : x_R2 W σ σ) (hu : 0 ≤ u ∧ u ≤ 99) (hl : σ.2.2.2.2.length < 119) : ∃ V, F_L_two (q_I W, o) [.inr (.inr (9, 0, 0)), .inr (.inr (109, 0, 0)), .inl (q_i (u))] = some ((q_I V, o), .ok (some (.inl (q_i (1))))) ∧ x_R2 V (x_tx σ (σ.2.2.2.2 ++ [48 + u / 10] ++ [48 + u % 10])) (x_tx σ (σ.2.2.2.2 ++ [48 + u / 10] ++ [48 + u % 10])) := by
  obtain ⟨V1, e1, R1⟩ := L_put (o := o) (u := 48 + u / 10) hk hR (by omega) (by omega)
  obtain ⟨V2, e2, R2⟩ := L_put (o := o) (u := 48 + u % 10) (tx_app (u := 48 + u / 10) hk (by omega) (by omega)) R1 (by omega) (by show (σ.2.2.2.2 ++ [48 + u / 10]).length < 120; rw [List.length_append, List.length_singleton]; omega)
  refine ⟨V2, ?_, R2⟩
  rw [e_L_two]
  simp (disch := first | exact nl_i | exact nl_r | exact nl_n | exact Nat.le_of_ble_eq_true rfl | assumption | omega | exact q_nz (by omega) (by omega) (by omega) | exact q_vp (by omega) (by omega) (by omega) | exact q_bz | exact q_zo (by omega) | with_reducible rfl) only [s_L_two_0, s_L_two_1, s_L_two_2, s_L_two_4, s_L_two_5, s_L_two_7, s_L_two_8, s_L_two_9, t_L_two_12, f_L_two_12, s_L_two_15, s_L_two_16, s_L_two_17, s_L_two_19, s_L_two_20, s_L_two_22, s_L_two_23, s_L_two_24, t_L_two_27, f_L_two_27, s_L_two_30, s_L_two_31, s_L_two_34, s_L_two_35, sm_k1_ok, sm_tl_s, sm_tl_n, q_add, q_sub, q_mul, q_neg, q_div, q_mod, q_mo, q_uu, q_tc, q_tn, q_na, q_n0, q_n1, Nat.add_zero, Nat.reduceSub, q_jadd, q_jsub, q_jmul, q_i2l, q_l2i, q_l0, q_l1, q_l2, q_l3, q_l4, q_l5, q_l6, q_l7, q_l8, q_l9, q_l10, q_l11, q_l12, q_l13, q_l14, q_l15, q_l18, q_l19, q_l20, q_l22, q_l24, q_l32, q_l36, q_l37, q_l39, q_l43, q_l45, q_l48, q_l49, q_l50, q_l52, q_l53, q_l55, q_l57, q_l80, q_l93, q_l99, q_l100, q_l103, q_l115, q_l117, q_l119, q_l120, q_l154, q_l155, q_l157, q_l255, q_l256, q_l300, q_l314, q_l500, q_l990, q_l999, q_l1000, q_l1041, q_l2041, q_l9999, q_l10000, q_l31, q_l33, q_m1, q_m2, q_m3, q_m4, q_m5, q_m7, q_m8, q_m9, q_m9999, q_m99003, q_m99002, q_m99001, q_m10, q_l16, q_l25, q_l30, q_l38, q_l40, q_l41, q_l42, q_l51, q_l60, q_l64, q_l98, q_l128, q_l1024, q_l2000, q_l2048, q_l9000, q_l9996, q_l10111, q_l16384, q_l100000, q_l15516947, q_l2147483647, q_t0, q_t1, q_t2, q_t3, q_t4, q_t5, q_t6, q_t7, q_t8, q_t9, q_t10, q_t11, q_t12, q_t13, q_t14, q_t15, q_t18, q_t19, q_t20, q_t22, q_t24, q_t32, q_t36, q_t37, q_t39, q_t43, q_t45, q_t48, q_t49, q_t50, q_t52, q_t53, q_t55, q_t57, q_t80, q_t93, q_t99, q_t100, q_t103, q_t115, q_t117, q_t119, q_t120, q_t154, q_t155, q_t157, q_t255, q_t256, q_t300, q_t314, q_t500, q_t990, q_t999, q_t1000, q_t1041, q_t2041, q_t9999, q_t10000, q_t31, q_t33, q_t16, q_t25, q_t30, q_t38, q_t40, q_t41, q_t42, q_t51, q_t60, q_t64, q_t98, q_t128, q_t1024, q_t2000, q_t2048, q_t9000, q_t9996, q_t10111, q_t16384, q_t100000, q_t15516947, q_t2147483647, e1, e2]
end Z61
