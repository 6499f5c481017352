/-! THE LAW'S LOOP, from its head to its end -/
theorem and31 (x : Int32) : ∃ c : Nat, c < 32 ∧ x &&& 31 = q_i (c : Int) := by
  have h1 : (x &&& 31).toBitVec.toNat < 32 := by
    rw [Int32.toBitVec_and, BitVec.toNat_and]
    exact Nat.and_lt_two_pow (n := 5) _ (by decide)
  refine ⟨(x &&& 31).toBitVec.toNat, h1, ?_⟩
  rw [← q_itI (x &&& 31)]
  congr 1
  rw [q_itI]
  show (x &&& 31).toBitVec.toInt = _
  rw [BitVec.toInt_eq_toNat_cond, if_pos (by omega)]
section Z61
variable {L : Nat} {xs : Nat → Int32}
theorem law_run (hL : L ≤ 2048) : ∀ (f n b : Nat) (W : Nat → Nat → Int) (o : Int64) (j5 j6 : Option sm_V), L < 4 * n + 4 * f + 4 → n + f ≤ 600 → 3 * f ≤ b → g_inv (99 * (n : Int)) W → ∃ (W2 : Nat → Nat → Int) (o1 : Int64), sm_R (T_law L xs) (b, 23, (q_I W, o), lw_L (q_i (4 * (n : Int))) j5 j6, []) = some ((q_I W2, o1), .ok (some (.inl (q_i (1))))) := by
  intro f
  induction f with
  | zero =>
    intro n b W o j5 j6 h1 h2 h3 h
    refine ⟨W, o, ?_⟩
    refine (R_iload rfl rfl).trans ((R_aload_n rfl rfl).trans ((R_alen (n := L) (v := q_i L) rfl rfl rfl).trans ((R_iconst (v := q_i 4) rfl rfl).trans ((R_isub rfl).trans ((R_icmp_gt (tgt := 2140) rfl (by decide)).trans ?_)))))
    rw [q_sub, if_pos (by rw [q_lt (by omega) (by omega) (by omega) (by omega)]; omega)]
    exact (R_iconst (v := q_i 1) rfl rfl).trans (R_zreturn rfl rfl (Or.inr rfl))
  | succ f ih =>
    intro n b W o j5 j6 h1 h2 h3 h
    by_cases c : L < 4 * n + 4
    · refine ⟨W, o, ?_⟩
      refine (R_iload rfl rfl).trans ((R_aload_n rfl rfl).trans ((R_alen (n := L) (v := q_i L) rfl rfl rfl).trans ((R_iconst (v := q_i 4) rfl rfl).trans ((R_isub rfl).trans ((R_icmp_gt (tgt := 2140) rfl (by decide)).trans ?_)))))
      rw [q_sub, if_pos (by rw [q_lt (by omega) (by omega) (by omega) (by omega)]; omega)]
      exact (R_iconst (v := q_i 1) rfl rfl).trans (R_zreturn rfl rfl (Or.inr rfl))
    · have hn : 4 * n + 4 ≤ L ∧ L ≤ 2048 := by omega
      have go : ∀ P : Nat, lw_go L xs n (99 * (n : Int)) P → ∃ (W2 : Nat → Nat → Int) (o1 : Int64), sm_R (T_law L xs) (b, P, (q_I W, o), lw_L (q_i (4 * (n : Int))) j5 j6, []) = some ((q_I W2, o1), .ok (some (.inl (q_i (1))))) := fun P hP => by
        obtain ⟨b1, W2, o1, l5, l6, g1, g2, g3⟩ := hP b W o j5 j6 (by omega) hn (by omega) h
        rw [show 99 * (n : Int) + 99 = 99 * ((n + 1 : Nat) : Int) by omega] at g2
        obtain ⟨W3, o3, z⟩ := ih (n + 1) b1 W2 o1 l5 l6 (by omega) (by omega) (by omega) g2
        refine ⟨W3, o3, g3.trans ?_⟩
        have e : q_i (4 * (n : Int)) + q_i 4 = q_i (4 * ((n + 1 : Nat) : Int)) := by rw [q_add]; congr 1
        refine (R_iinc (v := q_i 4) (l1 := lw_L (q_i (4 * (n : Int)) + q_i 4) l5 l6) rfl rfl rfl rfl).trans ((R_goto (tgt := 23) rfl (by decide)).trans ?_)
        rw [e]
        exact z
      obtain ⟨k, hk, ek⟩ := and31 (xs (4 * n))
      have en : (q_i (4 * (n : Int))).toNatClampNeg = 4 * n := by rw [q_tn (by omega) (by omega)]; omega
      have hd : sm_R (T_law L xs) (b, 23, (q_I W, o), lw_L (q_i (4 * (n : Int))) j5 j6, []) = sm_R (T_law L xs) (b, 39, (q_I W, o), lw_L (q_i (4 * (n : Int))) j5 j6, [.inl (q_i (k : Int))]) := by
        refine (R_iload rfl rfl).trans ((R_aload_n rfl rfl).trans ((R_alen (n := L) (v := q_i L) rfl rfl rfl).trans ((R_iconst (v := q_i 4) rfl rfl).trans ((R_isub rfl).trans ((R_icmp_gt (tgt := 2140) rfl (by decide)).trans ?_)))))
        rw [q_sub, if_neg (by rw [q_lt (by omega) (by omega) (by omega) (by omega)]; omega)]
        refine (R_aload_n rfl rfl).trans ((R_iload rfl rfl).trans ((R_roload (n := L) (f := xs) rfl rfl rfl (q_vp (by omega) (by omega) (by omega))).trans ((R_bipush (v := 31) rfl rfl).trans ((R_iand rfl).trans ?_))))
        rw [en, ek]
      rw [hd]
      have hs : k = 0 ∨ k = 1 ∨ k = 2 ∨ k = 3 ∨ k = 4 ∨ k = 5 ∨ k = 6 ∨ k = 7 ∨ k = 8 ∨ k = 9 ∨ k = 10 ∨ k = 11 ∨ k = 12 ∨ k = 13 ∨ k = 14 ∨ k = 15 ∨ k = 16 ∨ k = 17 ∨ k = 18 ∨ k = 19 ∨ k = 20 ∨ k = 21 ∨ k = 22 ∨ k = 23 ∨ k = 24 ∨ k = 25 ∨ k = 26 ∨ k = 27 ∨ k = 28 ∨ k = 29 ∨ k = 30 ∨ k = 31 := by omega
      clear hd ek hk
      rcases hs with rfl | rfl | rfl | rfl | rfl | rfl | rfl | rfl | rfl | rfl | rfl | rfl | rfl | rfl | rfl | rfl | rfl | rfl | rfl | rfl | rfl | rfl | rfl | rfl | rfl | rfl | rfl | rfl | rfl | rfl | rfl | rfl
      · rw [R_switch (tgt := 180) (off := 141) rfl rfl (by decide)]; exact go _ lc_0
      · rw [R_switch (tgt := 236) (off := 197) rfl rfl (by decide)]; exact go _ lc_1
      · rw [R_switch (tgt := 249) (off := 210) rfl rfl (by decide)]; exact go _ lc_2
      · rw [R_switch (tgt := 262) (off := 223) rfl rfl (by decide)]; exact go _ lc_3
      · rw [R_switch (tgt := 306) (off := 267) rfl rfl (by decide)]; exact go _ lc_4
      · rw [R_switch (tgt := 362) (off := 323) rfl rfl (by decide)]; exact go _ lc_5
      · rw [R_switch (tgt := 430) (off := 391) rfl rfl (by decide)]; exact go _ lc_6
      · rw [R_switch (tgt := 498) (off := 459) rfl rfl (by decide)]; exact go _ lc_7
      · rw [R_switch (tgt := 554) (off := 515) rfl rfl (by decide)]; exact go _ lc_8
      · rw [R_switch (tgt := 622) (off := 583) rfl rfl (by decide)]; exact go _ lc_9
      · rw [R_switch (tgt := 678) (off := 639) rfl rfl (by decide)]; exact go _ lc_10
      · rw [R_switch (tgt := 734) (off := 695) rfl rfl (by decide)]; exact go _ lc_11
      · rw [R_switch (tgt := 802) (off := 763) rfl rfl (by decide)]; exact go _ lc_12
      · rw [R_switch (tgt := 858) (off := 819) rfl rfl (by decide)]; exact go _ lc_13
      · rw [R_switch (tgt := 926) (off := 887) rfl rfl (by decide)]; exact go _ lc_14
      · rw [R_switch (tgt := 1006) (off := 967) rfl rfl (by decide)]; exact go _ lc_15
      · rw [R_switch (tgt := 1086) (off := 1047) rfl rfl (by decide)]; exact go _ lc_16
      · rw [R_switch (tgt := 1142) (off := 1103) rfl rfl (by decide)]; exact go _ lc_17
      · rw [R_switch (tgt := 1210) (off := 1171) rfl rfl (by decide)]; exact go _ lc_18
      · rw [R_switch (tgt := 1278) (off := 1239) rfl rfl (by decide)]; exact go _ lc_19
      · rw [R_switch (tgt := 1362) (off := 1323) rfl rfl (by decide)]; exact go _ lc_20
      · rw [R_switch (tgt := 1406) (off := 1367) rfl rfl (by decide)]; exact go _ lc_21
      · rw [R_switch (tgt := 1462) (off := 1423) rfl rfl (by decide)]; exact go _ lc_22
      · rw [R_switch (tgt := 1518) (off := 1479) rfl rfl (by decide)]; exact go _ lc_23
      · rw [R_switch (tgt := 1586) (off := 1547) rfl rfl (by decide)]; exact go _ lc_24
      · rw [R_switch (tgt := 1642) (off := 1603) rfl rfl (by decide)]; exact go _ lc_25
      · rw [R_switch (tgt := 1710) (off := 1671) rfl rfl (by decide)]; exact go _ lc_26
      · rw [R_switch (tgt := 1766) (off := 1727) rfl rfl (by decide)]; exact go _ lc_27
      · rw [R_switch (tgt := 1822) (off := 1783) rfl rfl (by decide)]; exact go _ lc_28
      · rw [R_switch (tgt := 1922) (off := 1883) rfl rfl (by decide)]; exact go _ lc_29
      · rw [R_switch (tgt := 2022) (off := 1983) rfl rfl (by decide)]; exact go _ lc_30
      · rw [R_switch (tgt := 2078) (off := 2039) rfl rfl (by decide)]; exact go _ lc_31
end Z61
