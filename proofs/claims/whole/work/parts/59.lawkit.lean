/-! THE LAW'S LOOP -/
abbrev lw_L (x4 : Int32) (j5 j6 : Option sm_V) : sm_L := [some (.inr (.inr (61, 0, 0))), some (.inr (.inr (9, 0, 0))), some (.inr (.inr (10, 0, 0))), some (.inr (.inr (60, 0, 0))), some (.inl x4), j5, j6]
def lw_64 (x y : Int32) : Int64 := (x.toInt64 <<< ((32 : Int32).toInt64 &&& 63)) ||| (y.toInt64 &&& 4294967295)
section Z59
variable {T : sm_T} {b P A L n : Nat} {xs : Nat → Int32} {V : Nat → Nat → Int32} {W W1 W2 : Nat → Nat → Int} {o o1 : Int64} {x4 : Int32} {j5 j6 l5 l6 : Option sm_V} {r : List sm_V} {k v H H1 : Int} {FL FM : sm_F} {i1 i2 cost : Nat}
theorem lg_cmp_rf (x : Int64) : lg_cmp x x = 0 := by unfold lg_cmp; simp
theorem R_arg {j : Nat} (hro : sm_ro T 61 = some (L, xs)) (hn : 4 * n + 4 ≤ L ∧ L ≤ 2048) (hj : j ≤ 3) (h0 : sm_tab T P = some (.aload_n 0, 1)) (h1 : sm_tab T (P + 1) = some (.iload 4, 2)) (h2 : sm_tab T (P + 3) = some (.iconst (j : Int), 1)) (h3 : sm_tab T (P + 4) = some (.iadd, 1)) (h4 : sm_tab T (P + 5) = some (.iaload, 1)) :
    sm_R T (b, P, (V, o), lw_L (q_i (4 * (n : Int))) j5 j6, r) = sm_R T (b, P + 6, (V, o), lw_L (q_i (4 * (n : Int))) j5 j6, .inl (xs (4 * n + j)) :: r) := by
  have e : q_i (4 * (n : Int)) + q_i (j : Int) = q_i (4 * (n : Int) + j) := q_add
  have hv : vp_in (q_i (4 * (n : Int) + j)) L := q_vp (by omega) (by omega) (by omega)
  have et : (q_i (4 * (n : Int) + j)).toNatClampNeg = 4 * n + j := by rw [q_tn (by omega) (by omega)]; omega
  refine (R_aload_n h0 rfl).trans ((R_iload h1 rfl).trans ((R_iconst (v := q_i j) h2 rfl).trans ((R_iadd h3).trans ?_)))
  rw [e]
  refine (R_roload h4 rfl hro hv).trans ?_
  rw [et]
theorem R_tail {off : Int} (h00 : (∀ pc e, sm_hnd T pc e = none) ∧ sm_rk T < 10 ∧ ∀ x, sm_nat T x = 0) (hc : sm_cal T 122 = some (0, 1, 0, 10, F_X10_thrown)) (hk : W2 26 0 = k) (hr : 0 ≤ k ∧ k ≤ 9) (ho : k = 0 → o1 = (q_i v).toInt64) (h0 : sm_tab T P = some (.istore 6, 2)) (h1 : sm_tab T (P + 2) = some (.aload_n 2, 1)) (h2 : sm_tab T (P + 3) = some (.invokevirtual 122, 3)) (h3 : sm_tab T (P + 6) = some (.iload 5, 2)) (h4 : sm_tab T (P + 8) = some (.if_icmp .eq 5, 3)) (h5 : sm_tab T (P + 13) = some (.iload 5, 2)) (h6 : sm_tab T (P + 15) = some (.ifCond .ne 15, 3)) (h7 : sm_tab T (P + 18) = some (.aload_n 3, 1)) (h8 : sm_tab T (P + 19) = some (.iconst 0, 1)) (h9 : sm_tab T (P + 20) = some (.laload, 1)) (h10 : sm_tab T (P + 21) = some (.iload 6, 2)) (h11 : sm_tab T (P + 23) = some (.i2l, 1)) (h12 : sm_tab T (P + 24) = some (.lcmp, 1)) (h13 : sm_tab T (P + 25) = some (.ifCond .eq 5, 3)) (h14 : sm_tab T (P + 30) = some (.goto off, 3)) (ht : ((P + 30 : Nat) : Int) + off = (2134 : Nat)) :
    sm_R T (b, P, (q_I W2, o1), lw_L x4 (some (.inl (q_i (k)))) l6, [.inl (q_i (v))]) = sm_R T (b, 2134, (q_I W2, o1), lw_L x4 (some (.inl (q_i (k)))) (some (.inl (q_i (v)))), []) := by
  have hz := z_X10_thrown (W := W2) (o := o1)
  rw [hk] at hz
  refine (R_istore (l1 := lw_L x4 (some (.inl (q_i (k)))) (some (.inl (q_i (v))))) h0 rfl).trans ((R_aload_n h1 rfl).trans ?_)
  refine (R_call (virt := true) (as := [.inr (.inr (10, 0, 0))]) (r := []) h2 hc rfl (Nat.zero_le _) (Nat.zero_le _) (fun _ => ⟨rfl, rfl⟩) (fun q => by cases q) (h00.1 _) h00.2.1).trans ?_
  rw [hz]
  show sm_R T (b - 0, P + 3 + 3, (q_I W2, o1), lw_L x4 (some (.inl (q_i (k)))) (some (.inl (q_i (v)))), [.inl (q_i (k))]) = _
  refine (R_iload h3 rfl).trans ((R_icmp_eq (tgt := P + 13) h4 (by omega)).trans ?_)
  rw [if_pos rfl]
  refine (R_iload h5 rfl).trans ((R_if_ne (tgt := P + 30) h6 (by omega)).trans ?_)
  by_cases c : k = 0
  · rw [if_neg (by rw [c]; exact fun q => q rfl)]
    refine (R_aload_n h7 rfl).trans ((R_iconst (v := 0) h8 rfl).trans ((R_laload h9).trans ((R_iload h10 rfl).trans ((R_i2l h11).trans ((R_lcmp h12).trans ((R_if_eq (tgt := P + 30) h13 (by omega)).trans ?_))))))
    rw [ho c, lg_cmp_rf, if_pos rfl]
    exact R_goto h14 ht
  · rw [if_pos (by intro q; rw [show (0 : Int32) = q_i 0 from rfl, q_eq (by omega) (by omega) (by omega) (by omega)] at q; exact c q)]
    exact R_goto h14 ht
theorem R_bool {x : Int32} {ls : sm_L} (h0 : sm_tab T P = some (.ifCond .eq 7, 3)) (h1 : sm_tab T (P + 3) = some (.iconst 1, 1)) (h2 : sm_tab T (P + 4) = some (.goto 4, 3)) (h3 : sm_tab T (P + 7) = some (.iconst 0, 1)) : sm_R T (b, P, (V, o), ls, .inl x :: r) = sm_R T (b, P + 8, (V, o), ls, .inl (if x = 0 then 0 else 1) :: r) := by
  refine (R_if_eq (tgt := P + 7) h0 (by omega)).trans ?_
  by_cases c : x = 0
  · rw [if_pos c, if_pos c]
    exact R_iconst h3 rfl
  · rw [if_neg c, if_neg c]
    exact (R_iconst h1 rfl).trans (R_goto h2 (by omega))
/-- a call on both sides -/
theorem R_case {as : List sm_V} (hk : g_ok H1 W FL FM (.inr (.inr (9, 0, 0)) :: (as ++ [.inr (.inr (60, 0, 0))])) (.inr (.inr (10, 0, 0)) :: as)) (hcost : cost ≤ b) (h0 : sm_tab T P = some (.aload_n 1, 1))
    (hp : ∀ (b : Nat) (V : Nat → Nat → Int32) (o : Int64) (j5 : Option sm_V) (r : List sm_V), sm_R T (b, P + 1, (V, o), lw_L x4 j5 j6, r) = sm_R T (b, P + 1 + A, (V, o), lw_L x4 j5 j6, as.reverse ++ r))
    (h1 : sm_tab T (P + 1 + A) = some (.aload_n 3, 1)) (h2 : sm_tab T (P + 1 + A + 1) = some (.invokestatic i1, 3)) (hc1 : sm_cal T i1 = some (2, as.length + 2, cost, 99, FL)) (h3 : sm_tab T (P + 1 + A + 4) = some (.istore 5, 2)) (h4 : sm_tab T (P + 1 + A + 6) = some (.aload_n 2, 1))
    (hp2 : ∀ (b : Nat) (V : Nat → Nat → Int32) (o : Int64) (j5 : Option sm_V) (r : List sm_V), sm_R T (b, P + 1 + A + 7, (V, o), lw_L x4 j5 j6, r) = sm_R T (b, P + 1 + A + 7 + A, (V, o), lw_L x4 j5 j6, as.reverse ++ r))
    (h5 : sm_tab T (P + 1 + A + 7 + A) = some (.invokevirtual i2, 3)) (hc2 : sm_cal T i2 = some (0, as.length + 1, 0, 10, FM)) (hc : sm_cal T 122 = some (0, 1, 0, 10, F_X10_thrown)) (h00 : (∀ pc e, sm_hnd T pc e = none) ∧ sm_rk T < 10 ∧ ∀ x, sm_nat T x = 0)
    (hT : ∀ (b : Nat) (W2 : Nat → Nat → Int) (o1 : Int64) (k v : Int), W2 26 0 = k → (0 ≤ k ∧ k ≤ 9) → (k = 0 → o1 = (q_i v).toInt64) → sm_R T (b, P + 1 + A + 7 + A + 3, (q_I W2, o1), lw_L x4 (some (.inl (q_i (k)))) j6, [.inl (q_i (v))]) = sm_R T (b, 2134, (q_I W2, o1), lw_L x4 (some (.inl (q_i (k)))) (some (.inl (q_i (v)))), [])) :
    ∃ (W2 : Nat → Nat → Int) (o1 : Int64) (l5 l6 : Option sm_V), g_inv H1 W2 ∧ sm_R T (b, P, (q_I W, o), lw_L x4 j5 j6, []) = sm_R T (b - cost, 2134, (q_I W2, o1), lw_L x4 l5 l6, []) := by
  obtain ⟨W1, W2, o1, k, v, e1, e2, e3, e4, e5, e6⟩ := hk o
  refine ⟨W2, o1, (some (.inl (q_i (k)))), (some (.inl (q_i (v)))), e6, ?_⟩
  have s1 : (.inr (.inr (9, 0, 0)) :: (as ++ [.inr (.inr (60, 0, 0))]) : List sm_V).reverse ++ [] = .inr (.inr (60, 0, 0)) :: (as.reverse ++ [.inr (.inr (9, 0, 0))]) := by simp
  have s2 : (.inr (.inr (10, 0, 0)) :: as : List sm_V).reverse ++ [] = as.reverse ++ [.inr (.inr (10, 0, 0))] := by simp
  refine (R_aload_n h0 rfl).trans ((hp _ _ _ _ _).trans ((R_aload_n h1 rfl).trans ?_))
  rw [← s1]
  refine (R_call (virt := false) (as := .inr (.inr (9, 0, 0)) :: (as ++ [.inr (.inr (60, 0, 0))])) (r := []) h2 hc1 (by simp) (Nat.zero_le _) hcost (fun q => by cases q) (fun _ => ⟨by decide, h00.2.2 _⟩) (h00.1 _) h00.2.1).trans ?_
  rw [e1]
  show sm_R T (b - cost, P + 1 + A + 1 + 3, (q_I W1, o1), lw_L x4 j5 j6, [.inl (q_i (k))]) = _
  refine (R_istore (l1 := lw_L x4 (some (.inl (q_i (k)))) j6) h3 rfl).trans ((R_aload_n h4 rfl).trans ((hp2 _ _ _ _ _).trans ?_))
  rw [← s2]
  refine (R_call (virt := true) (as := .inr (.inr (10, 0, 0)) :: as) (r := []) h5 hc2 (by simp) (Nat.zero_le _) (Nat.zero_le _) (fun _ => ⟨rfl, rfl⟩) (fun q => by cases q) (h00.1 _) h00.2.1).trans ?_
  rw [e2]
  exact hT _ _ _ _ _ e3 e4 e5
theorem R_pair {off : Int} (e1 : FL (q_I W, o) [.inr (.inr (9, 0, 0))] = some ((q_I W1, o), .ok (some (.inl (q_i (v)))))) (e2 : FM (q_I W1, o) [.inr (.inr (10, 0, 0))] = some ((q_I W2, o), .ok (some (.inl (q_i (v)))))) (h0 : sm_tab T P = some (.aload_n 1, 1)) (h1 : sm_tab T (P + 1) = some (.invokevirtual i1, 3)) (hc1 : sm_cal T i1 = some (0, 1, 0, 9, FL)) (h2 : sm_tab T (P + 4) = some (.aload_n 2, 1)) (h3 : sm_tab T (P + 5) = some (.invokevirtual i2, 3)) (hc2 : sm_cal T i2 = some (0, 1, 0, 10, FM)) (h00 : (∀ pc e, sm_hnd T pc e = none) ∧ sm_rk T < 10 ∧ ∀ x, sm_nat T x = 0) (h4 : sm_tab T (P + 8) = some (.if_icmp .eq off, 3)) (ht : ((P + 8 : Nat) : Int) + off = (2134 : Nat)) :
    sm_R T (b, P, (q_I W, o), lw_L x4 j5 j6, []) = sm_R T (b, 2134, (q_I W2, o), lw_L x4 j5 j6, []) := by
  refine (R_aload_n h0 rfl).trans ?_
  refine (R_call (virt := true) (as := [.inr (.inr (9, 0, 0))]) (r := []) h1 hc1 rfl (Nat.zero_le _) (Nat.zero_le _) (fun _ => ⟨rfl, rfl⟩) (fun q => by cases q) (h00.1 _) h00.2.1).trans ?_
  rw [e1]
  show sm_R T (b - 0, P + 1 + 3, (q_I W1, o), lw_L x4 j5 j6, [.inl (q_i (v))]) = _
  refine (R_aload_n h2 rfl).trans ?_
  refine (R_call (virt := true) (as := [.inr (.inr (10, 0, 0))]) (r := [.inl (q_i (v))]) h3 hc2 rfl (by simp) (Nat.zero_le _) (fun _ => ⟨rfl, rfl⟩) (fun q => by cases q) (h00.1 _) h00.2.1).trans ?_
  rw [e2]
  show sm_R T (b - 0 - 0, P + 5 + 3, (q_I W2, o), lw_L x4 j5 j6, [.inl (q_i (v)), .inl (q_i (v))]) = _
  refine (R_icmp_eq (tgt := 2134) h4 ht).trans ?_
  rw [if_pos rfl]
  rfl
end Z59
