/-! THE LAW'S CASES -/
section Z60
variable {b L n : Nat} {xs : Nat → Int32} {W : Nat → Nat → Int} {o : Int64} {j5 j6 : Option sm_V} {H : Int}
theorem q_itI (x : Int32) : q_i x.toInt = x := by unfold q_i; exact Int32.ofInt_toInt x
theorem q_itr (x : Int32) : -2147483648 ≤ x.toInt ∧ x.toInt < 2147483648 := ⟨x.le_toInt, x.toInt_lt⟩
/-- from a case to the loop's end -/
def lw_go (L : Nat) (xs : Nat → Int32) (n : Nat) (H : Int) (P : Nat) : Prop := ∀ (b : Nat) (W : Nat → Nat → Int) (o : Int64) (j5 j6 : Option sm_V), 3 ≤ b → 4 * n + 4 ≤ L ∧ L ≤ 2048 → 0 ≤ H ∧ H ≤ 60000 → g_inv H W → ∃ (b1 : Nat) (W2 : Nat → Nat → Int) (o1 : Int64) (l5 l6 : Option sm_V), b ≤ b1 + 3 ∧ g_inv (H + 99) W2 ∧ sm_R (T_law L xs) (b, P, (q_I W, o), lw_L (q_i (4 * (n : Int))) j5 j6, []) = sm_R (T_law L xs) (b1, 2134, (q_I W2, o1), lw_L (q_i (4 * (n : Int))) l5 l6, [])
theorem lc_0 : lw_go L xs n H 180 := fun b W o j5 j6 hb hn hH h => by
  have k1 := k_append h  (u := (xs (4 * n + 1)).toInt) (q_itr _)
  simp only [q_itI] at k1
  obtain ⟨W2, o1, l5, l6, g1, g2⟩ := R_case (T := T_law L xs) (b := b) (P := 180) (A := 6) (x4 := q_i (4 * (n : Int))) (j5 := j5) (j6 := j6) (o := o) (as := [.inl (xs (4 * n + 1))]) k1 (cost := 1) (by omega) rfl
    (fun b V o j5 r => (R_arg (j := 1) rfl hn (by decide) rfl rfl rfl rfl rfl)) rfl rfl rfl rfl rfl
    (fun b V o j5 r => (R_arg (j := 1) rfl hn (by decide) rfl rfl rfl rfl rfl)) rfl rfl rfl T_law_0
    (fun b W2 o1 k v a1 a2 a3 => R_tail T_law_0 rfl a1 a2 a3 rfl rfl rfl rfl rfl rfl rfl rfl rfl rfl rfl rfl rfl rfl rfl (by decide))
  exact ⟨b - 1, W2, o1, l5, l6, by omega, inv_mono g1 (by omega), g2⟩
theorem lc_1 : lw_go L xs n H 236 := fun b W o j5 j6 hb hn hH h => by
  have k1 := k_clearText h
  have e1 := z_X9_clearText (W := W) (o := o)
  have e2 := z_X10_clearText (W := q_rg W 19 (q_pu (W 19) 0 0)) (o := o)
  have ev : q_rg W 19 (q_pu (W 19) 0 0) 26 1 = W 19 0 := by rw [q_rn (by omega)]; exact h.2.1.2.1
  rw [ev, q_rn (r := 26) (by omega)] at e2
  exact ⟨b, _, o, j5, j6, by omega, inv_mono k1 (by omega), R_pair e1 e2 rfl rfl rfl rfl rfl rfl T_law_0 rfl (by decide)⟩
theorem lc_2 : lw_go L xs n H 249 := fun b W o j5 j6 hb hn hH h => by
  obtain ⟨W1, W2, v, e1, e2, k1⟩ := k_errorPosition h o
  exact ⟨b, W2, o, j5, j6, by omega, inv_mono k1 (by omega), R_pair e1 e2 rfl rfl rfl rfl rfl rfl T_law_0 rfl (by decide)⟩
theorem lc_3 : lw_go L xs n H 262 := fun b W o j5 j6 hb hn hH h => by
  have k1 := k_load h (by omega)
  obtain ⟨W2, o1, l5, l6, g1, g2⟩ := R_case (T := T_law L xs) (b := b) (P := 262) (A := 0) (x4 := q_i (4 * (n : Int))) (j5 := j5) (j6 := j6) (o := o) (as := []) k1 (cost := 1) (by omega) rfl
    (fun b V o j5 r => rfl) rfl rfl rfl rfl rfl
    (fun b V o j5 r => rfl) rfl rfl rfl T_law_0
    (fun b W2 o1 k v a1 a2 a3 => R_tail T_law_0 rfl a1 a2 a3 rfl rfl rfl rfl rfl rfl rfl rfl rfl rfl rfl rfl rfl rfl rfl (by decide))
  exact ⟨b - 1, W2, o1, l5, l6, by omega, inv_mono g1 (by omega), g2⟩
theorem lc_4 : lw_go L xs n H 306 := fun b W o j5 j6 hb hn hH h => by
  have k1 := k_about h (by omega) (u := (xs (4 * n + 1)).toInt) (q_itr _)
  simp only [q_itI] at k1
  obtain ⟨W2, o1, l5, l6, g1, g2⟩ := R_case (T := T_law L xs) (b := b) (P := 306) (A := 6) (x4 := q_i (4 * (n : Int))) (j5 := j5) (j6 := j6) (o := o) (as := [.inl (xs (4 * n + 1))]) k1 (cost := 1) (by omega) rfl
    (fun b V o j5 r => (R_arg (j := 1) rfl hn (by decide) rfl rfl rfl rfl rfl)) rfl rfl rfl rfl rfl
    (fun b V o j5 r => (R_arg (j := 1) rfl hn (by decide) rfl rfl rfl rfl rfl)) rfl rfl rfl T_law_0
    (fun b W2 o1 k v a1 a2 a3 => R_tail T_law_0 rfl a1 a2 a3 rfl rfl rfl rfl rfl rfl rfl rfl rfl rfl rfl rfl rfl rfl rfl (by decide))
  exact ⟨b - 1, W2, o1, l5, l6, by omega, inv_mono g1 (by omega), g2⟩
theorem lc_5 : lw_go L xs n H 362 := fun b W o j5 j6 hb hn hH h => by
  have k1 := k_slope h  (u := (xs (4 * n + 1)).toInt) (v := (xs (4 * n + 2)).toInt) (q_itr _) (q_itr _)
  simp only [q_itI] at k1
  obtain ⟨W2, o1, l5, l6, g1, g2⟩ := R_case (T := T_law L xs) (b := b) (P := 362) (A := 12) (x4 := q_i (4 * (n : Int))) (j5 := j5) (j6 := j6) (o := o) (as := [.inl (xs (4 * n + 1)), .inl (xs (4 * n + 2))]) k1 (cost := 2) (by omega) rfl
    (fun b V o j5 r => (R_arg (j := 1) rfl hn (by decide) rfl rfl rfl rfl rfl).trans ((R_arg (j := 2) rfl hn (by decide) rfl rfl rfl rfl rfl))) rfl rfl rfl rfl rfl
    (fun b V o j5 r => (R_arg (j := 1) rfl hn (by decide) rfl rfl rfl rfl rfl).trans ((R_arg (j := 2) rfl hn (by decide) rfl rfl rfl rfl rfl))) rfl rfl rfl T_law_0
    (fun b W2 o1 k v a1 a2 a3 => R_tail T_law_0 rfl a1 a2 a3 rfl rfl rfl rfl rfl rfl rfl rfl rfl rfl rfl rfl rfl rfl rfl (by decide))
  exact ⟨b - 2, W2, o1, l5, l6, by omega, inv_mono g1 (by omega), g2⟩
theorem lc_6 : lw_go L xs n H 430 := fun b W o j5 j6 hb hn hH h => by
  have k1 := k_gun h  (u := (xs (4 * n + 1)).toInt) (v := (xs (4 * n + 2)).toInt) (q_itr _) (q_itr _)
  simp only [q_itI] at k1
  obtain ⟨W2, o1, l5, l6, g1, g2⟩ := R_case (T := T_law L xs) (b := b) (P := 430) (A := 12) (x4 := q_i (4 * (n : Int))) (j5 := j5) (j6 := j6) (o := o) (as := [.inl (xs (4 * n + 1)), .inl (xs (4 * n + 2))]) k1 (cost := 2) (by omega) rfl
    (fun b V o j5 r => (R_arg (j := 1) rfl hn (by decide) rfl rfl rfl rfl rfl).trans ((R_arg (j := 2) rfl hn (by decide) rfl rfl rfl rfl rfl))) rfl rfl rfl rfl rfl
    (fun b V o j5 r => (R_arg (j := 1) rfl hn (by decide) rfl rfl rfl rfl rfl).trans ((R_arg (j := 2) rfl hn (by decide) rfl rfl rfl rfl rfl))) rfl rfl rfl T_law_0
    (fun b W2 o1 k v a1 a2 a3 => R_tail T_law_0 rfl a1 a2 a3 rfl rfl rfl rfl rfl rfl rfl rfl rfl rfl rfl rfl rfl rfl rfl (by decide))
  exact ⟨b - 2, W2, o1, l5, l6, by omega, inv_mono g1 (by omega), g2⟩
theorem lc_7 : lw_go L xs n H 498 := fun b W o j5 j6 hb hn hH h => by
  have k1 := k_account h  (u := (xs (4 * n + 1)).toInt) (q_itr _)
  simp only [q_itI] at k1
  obtain ⟨W2, o1, l5, l6, g1, g2⟩ := R_case (T := T_law L xs) (b := b) (P := 498) (A := 6) (x4 := q_i (4 * (n : Int))) (j5 := j5) (j6 := j6) (o := o) (as := [.inl (xs (4 * n + 1))]) k1 (cost := 1) (by omega) rfl
    (fun b V o j5 r => (R_arg (j := 1) rfl hn (by decide) rfl rfl rfl rfl rfl)) rfl rfl rfl rfl rfl
    (fun b V o j5 r => (R_arg (j := 1) rfl hn (by decide) rfl rfl rfl rfl rfl)) rfl rfl rfl T_law_0
    (fun b W2 o1 k v a1 a2 a3 => R_tail T_law_0 rfl a1 a2 a3 rfl rfl rfl rfl rfl rfl rfl rfl rfl rfl rfl rfl rfl rfl rfl (by decide))
  exact ⟨b - 1, W2, o1, l5, l6, by omega, inv_mono g1 (by omega), g2⟩
theorem lc_8 : lw_go L xs n H 554 := fun b W o j5 j6 hb hn hH h => by
  have k1 := k_book h  (u := (xs (4 * n + 1)).toInt) (v := (xs (4 * n + 2)).toInt) (q_itr _) (q_itr _)
  simp only [q_itI] at k1
  obtain ⟨W2, o1, l5, l6, g1, g2⟩ := R_case (T := T_law L xs) (b := b) (P := 554) (A := 12) (x4 := q_i (4 * (n : Int))) (j5 := j5) (j6 := j6) (o := o) (as := [.inl (xs (4 * n + 1)), .inl (xs (4 * n + 2))]) k1 (cost := 1) (by omega) rfl
    (fun b V o j5 r => (R_arg (j := 1) rfl hn (by decide) rfl rfl rfl rfl rfl).trans ((R_arg (j := 2) rfl hn (by decide) rfl rfl rfl rfl rfl))) rfl rfl rfl rfl rfl
    (fun b V o j5 r => (R_arg (j := 1) rfl hn (by decide) rfl rfl rfl rfl rfl).trans ((R_arg (j := 2) rfl hn (by decide) rfl rfl rfl rfl rfl))) rfl rfl rfl T_law_0
    (fun b W2 o1 k v a1 a2 a3 => R_tail T_law_0 rfl a1 a2 a3 rfl rfl rfl rfl rfl rfl rfl rfl rfl rfl rfl rfl rfl rfl rfl (by decide))
  exact ⟨b - 1, W2, o1, l5, l6, by omega, inv_mono g1 (by omega), g2⟩
theorem lc_9 : lw_go L xs n H 622 := fun b W o j5 j6 hb hn hH h => by
  have k1 := k_wet h  (u := (xs (4 * n + 1)).toInt) (q_itr _)
  simp only [q_itI] at k1
  obtain ⟨W2, o1, l5, l6, g1, g2⟩ := R_case (T := T_law L xs) (b := b) (P := 622) (A := 6) (x4 := q_i (4 * (n : Int))) (j5 := j5) (j6 := j6) (o := o) (as := [.inl (xs (4 * n + 1))]) k1 (cost := 1) (by omega) rfl
    (fun b V o j5 r => (R_arg (j := 1) rfl hn (by decide) rfl rfl rfl rfl rfl)) rfl rfl rfl rfl rfl
    (fun b V o j5 r => (R_arg (j := 1) rfl hn (by decide) rfl rfl rfl rfl rfl)) rfl rfl rfl T_law_0
    (fun b W2 o1 k v a1 a2 a3 => R_tail T_law_0 rfl a1 a2 a3 rfl rfl rfl rfl rfl rfl rfl rfl rfl rfl rfl rfl rfl rfl rfl (by decide))
  exact ⟨b - 1, W2, o1, l5, l6, by omega, inv_mono g1 (by omega), g2⟩
theorem lc_10 : lw_go L xs n H 678 := fun b W o j5 j6 hb hn hH h => by
  have k1 := k_pass h (by omega) (u := (xs (4 * n + 1)).toInt) (q_itr _)
  simp only [q_itI] at k1
  obtain ⟨W2, o1, l5, l6, g1, g2⟩ := R_case (T := T_law L xs) (b := b) (P := 678) (A := 6) (x4 := q_i (4 * (n : Int))) (j5 := j5) (j6 := j6) (o := o) (as := [.inl (xs (4 * n + 1))]) k1 (cost := 1) (by omega) rfl
    (fun b V o j5 r => (R_arg (j := 1) rfl hn (by decide) rfl rfl rfl rfl rfl)) rfl rfl rfl rfl rfl
    (fun b V o j5 r => (R_arg (j := 1) rfl hn (by decide) rfl rfl rfl rfl rfl)) rfl rfl rfl T_law_0
    (fun b W2 o1 k v a1 a2 a3 => R_tail T_law_0 rfl a1 a2 a3 rfl rfl rfl rfl rfl rfl rfl rfl rfl rfl rfl rfl rfl rfl rfl (by decide))
  exact ⟨b - 1, W2, o1, l5, l6, by omega, inv_mono g1 (by omega), g2⟩
theorem lc_11 : lw_go L xs n H 734 := fun b W o j5 j6 hb hn hH h => by
  have k1 := k_set h  (u := (xs (4 * n + 1)).toInt) (v := (xs (4 * n + 2)).toInt) (q_itr _) (q_itr _)
  simp only [q_itI] at k1
  obtain ⟨W2, o1, l5, l6, g1, g2⟩ := R_case (T := T_law L xs) (b := b) (P := 734) (A := 12) (x4 := q_i (4 * (n : Int))) (j5 := j5) (j6 := j6) (o := o) (as := [.inl (xs (4 * n + 1)), .inl (xs (4 * n + 2))]) k1 (cost := 1) (by omega) rfl
    (fun b V o j5 r => (R_arg (j := 1) rfl hn (by decide) rfl rfl rfl rfl rfl).trans ((R_arg (j := 2) rfl hn (by decide) rfl rfl rfl rfl rfl))) rfl rfl rfl rfl rfl
    (fun b V o j5 r => (R_arg (j := 1) rfl hn (by decide) rfl rfl rfl rfl rfl).trans ((R_arg (j := 2) rfl hn (by decide) rfl rfl rfl rfl rfl))) rfl rfl rfl T_law_0
    (fun b W2 o1 k v a1 a2 a3 => R_tail T_law_0 rfl a1 a2 a3 rfl rfl rfl rfl rfl rfl rfl rfl rfl rfl rfl rfl rfl rfl rfl (by decide))
  exact ⟨b - 1, W2, o1, l5, l6, by omega, inv_mono g1 (by omega), g2⟩
theorem lc_12 : lw_go L xs n H 802 := fun b W o j5 j6 hb hn hH h => by
  have k1 := k_fill h  (u := (xs (4 * n + 1)).toInt) (q_itr _)
  simp only [q_itI] at k1
  obtain ⟨W2, o1, l5, l6, g1, g2⟩ := R_case (T := T_law L xs) (b := b) (P := 802) (A := 6) (x4 := q_i (4 * (n : Int))) (j5 := j5) (j6 := j6) (o := o) (as := [.inl (xs (4 * n + 1))]) k1 (cost := 1) (by omega) rfl
    (fun b V o j5 r => (R_arg (j := 1) rfl hn (by decide) rfl rfl rfl rfl rfl)) rfl rfl rfl rfl rfl
    (fun b V o j5 r => (R_arg (j := 1) rfl hn (by decide) rfl rfl rfl rfl rfl)) rfl rfl rfl T_law_0
    (fun b W2 o1 k v a1 a2 a3 => R_tail T_law_0 rfl a1 a2 a3 rfl rfl rfl rfl rfl rfl rfl rfl rfl rfl rfl rfl rfl rfl rfl (by decide))
  exact ⟨b - 1, W2, o1, l5, l6, by omega, inv_mono g1 (by omega), g2⟩
theorem lc_13 : lw_go L xs n H 858 := fun b W o j5 j6 hb hn hH h => by
  have k1 := k_setWet h  (u := (xs (4 * n + 1)).toInt) (v := (xs (4 * n + 2)).toInt) (q_itr _) (q_itr _)
  simp only [q_itI] at k1
  obtain ⟨W2, o1, l5, l6, g1, g2⟩ := R_case (T := T_law L xs) (b := b) (P := 858) (A := 12) (x4 := q_i (4 * (n : Int))) (j5 := j5) (j6 := j6) (o := o) (as := [.inl (xs (4 * n + 1)), .inl (xs (4 * n + 2))]) k1 (cost := 1) (by omega) rfl
    (fun b V o j5 r => (R_arg (j := 1) rfl hn (by decide) rfl rfl rfl rfl rfl).trans ((R_arg (j := 2) rfl hn (by decide) rfl rfl rfl rfl rfl))) rfl rfl rfl rfl rfl
    (fun b V o j5 r => (R_arg (j := 1) rfl hn (by decide) rfl rfl rfl rfl rfl).trans ((R_arg (j := 2) rfl hn (by decide) rfl rfl rfl rfl rfl))) rfl rfl rfl T_law_0
    (fun b W2 o1 k v a1 a2 a3 => R_tail T_law_0 rfl a1 a2 a3 rfl rfl rfl rfl rfl rfl rfl rfl rfl rfl rfl rfl rfl rfl rfl (by decide))
  exact ⟨b - 1, W2, o1, l5, l6, by omega, inv_mono g1 (by omega), g2⟩
theorem lc_14 : lw_go L xs n H 926 := fun b W o j5 j6 hb hn hH h => by
  have k1 := k_setSlope h  (u := (xs (4 * n + 1)).toInt) (v := (xs (4 * n + 2)).toInt) (w := (xs (4 * n + 3)).toInt) (q_itr _) (q_itr _) (q_itr _)
  simp only [q_itI] at k1
  obtain ⟨W2, o1, l5, l6, g1, g2⟩ := R_case (T := T_law L xs) (b := b) (P := 926) (A := 18) (x4 := q_i (4 * (n : Int))) (j5 := j5) (j6 := j6) (o := o) (as := [.inl (xs (4 * n + 1)), .inl (xs (4 * n + 2)), .inl (xs (4 * n + 3))]) k1 (cost := 2) (by omega) rfl
    (fun b V o j5 r => (R_arg (j := 1) rfl hn (by decide) rfl rfl rfl rfl rfl).trans ((R_arg (j := 2) rfl hn (by decide) rfl rfl rfl rfl rfl).trans ((R_arg (j := 3) rfl hn (by decide) rfl rfl rfl rfl rfl)))) rfl rfl rfl rfl rfl
    (fun b V o j5 r => (R_arg (j := 1) rfl hn (by decide) rfl rfl rfl rfl rfl).trans ((R_arg (j := 2) rfl hn (by decide) rfl rfl rfl rfl rfl).trans ((R_arg (j := 3) rfl hn (by decide) rfl rfl rfl rfl rfl)))) rfl rfl rfl T_law_0
    (fun b W2 o1 k v a1 a2 a3 => R_tail T_law_0 rfl a1 a2 a3 rfl rfl rfl rfl rfl rfl rfl rfl rfl rfl rfl rfl rfl rfl rfl (by decide))
  exact ⟨b - 2, W2, o1, l5, l6, by omega, inv_mono g1 (by omega), g2⟩
theorem lc_15 : lw_go L xs n H 1006 := fun b W o j5 j6 hb hn hH h => by
  have k1 := k_addSlope h  (u := (xs (4 * n + 1)).toInt) (v := (xs (4 * n + 2)).toInt) (w := (xs (4 * n + 3)).toInt) (q_itr _) (q_itr _) (q_itr _)
  simp only [q_itI] at k1
  obtain ⟨W2, o1, l5, l6, g1, g2⟩ := R_case (T := T_law L xs) (b := b) (P := 1006) (A := 18) (x4 := q_i (4 * (n : Int))) (j5 := j5) (j6 := j6) (o := o) (as := [.inl (xs (4 * n + 1)), .inl (xs (4 * n + 2)), .inl (xs (4 * n + 3))]) k1 (cost := 1) (by omega) rfl
    (fun b V o j5 r => (R_arg (j := 1) rfl hn (by decide) rfl rfl rfl rfl rfl).trans ((R_arg (j := 2) rfl hn (by decide) rfl rfl rfl rfl rfl).trans ((R_arg (j := 3) rfl hn (by decide) rfl rfl rfl rfl rfl)))) rfl rfl rfl rfl rfl
    (fun b V o j5 r => (R_arg (j := 1) rfl hn (by decide) rfl rfl rfl rfl rfl).trans ((R_arg (j := 2) rfl hn (by decide) rfl rfl rfl rfl rfl).trans ((R_arg (j := 3) rfl hn (by decide) rfl rfl rfl rfl rfl)))) rfl rfl rfl T_law_0
    (fun b W2 o1 k v a1 a2 a3 => R_tail T_law_0 rfl a1 a2 a3 rfl rfl rfl rfl rfl rfl rfl rfl rfl rfl rfl rfl rfl rfl rfl (by decide))
  exact ⟨b - 1, W2, o1, l5, l6, by omega, inv_mono g1 (by omega), g2⟩
theorem lc_16 : lw_go L xs n H 1086 := fun b W o j5 j6 hb hn hH h => by
  have k1 := k_removeSlope h  (u := (xs (4 * n + 1)).toInt) (q_itr _)
  simp only [q_itI] at k1
  obtain ⟨W2, o1, l5, l6, g1, g2⟩ := R_case (T := T_law L xs) (b := b) (P := 1086) (A := 6) (x4 := q_i (4 * (n : Int))) (j5 := j5) (j6 := j6) (o := o) (as := [.inl (xs (4 * n + 1))]) k1 (cost := 2) (by omega) rfl
    (fun b V o j5 r => (R_arg (j := 1) rfl hn (by decide) rfl rfl rfl rfl rfl)) rfl rfl rfl rfl rfl
    (fun b V o j5 r => (R_arg (j := 1) rfl hn (by decide) rfl rfl rfl rfl rfl)) rfl rfl rfl T_law_0
    (fun b W2 o1 k v a1 a2 a3 => R_tail T_law_0 rfl a1 a2 a3 rfl rfl rfl rfl rfl rfl rfl rfl rfl rfl rfl rfl rfl rfl rfl (by decide))
  exact ⟨b - 2, W2, o1, l5, l6, by omega, inv_mono g1 (by omega), g2⟩
theorem lc_17 : lw_go L xs n H 1142 := fun b W o j5 j6 hb hn hH h => by
  have k1 := k_addGun h  (u := (xs (4 * n + 1)).toInt) (v := (xs (4 * n + 2)).toInt) (q_itr _) (q_itr _)
  simp only [q_itI] at k1
  obtain ⟨W2, o1, l5, l6, g1, g2⟩ := R_case (T := T_law L xs) (b := b) (P := 1142) (A := 12) (x4 := q_i (4 * (n : Int))) (j5 := j5) (j6 := j6) (o := o) (as := [.inl (xs (4 * n + 1)), .inl (xs (4 * n + 2))]) k1 (cost := 3) (by omega) rfl
    (fun b V o j5 r => (R_arg (j := 1) rfl hn (by decide) rfl rfl rfl rfl rfl).trans ((R_arg (j := 2) rfl hn (by decide) rfl rfl rfl rfl rfl))) rfl rfl rfl rfl rfl
    (fun b V o j5 r => (R_arg (j := 1) rfl hn (by decide) rfl rfl rfl rfl rfl).trans ((R_arg (j := 2) rfl hn (by decide) rfl rfl rfl rfl rfl))) rfl rfl rfl T_law_0
    (fun b W2 o1 k v a1 a2 a3 => R_tail T_law_0 rfl a1 a2 a3 rfl rfl rfl rfl rfl rfl rfl rfl rfl rfl rfl rfl rfl rfl rfl (by decide))
  exact ⟨b - 3, W2, o1, l5, l6, by omega, inv_mono g1 (by omega), g2⟩
theorem lc_18 : lw_go L xs n H 1210 := fun b W o j5 j6 hb hn hH h => by
  have k1 := k_bring h  (u := (xs (4 * n + 1)).toInt) (v := (xs (4 * n + 2)).toInt) (q_itr _) (q_itr _)
  simp only [q_itI] at k1
  obtain ⟨W2, o1, l5, l6, g1, g2⟩ := R_case (T := T_law L xs) (b := b) (P := 1210) (A := 12) (x4 := q_i (4 * (n : Int))) (j5 := j5) (j6 := j6) (o := o) (as := [.inl (xs (4 * n + 1)), .inl (xs (4 * n + 2))]) k1 (cost := 2) (by omega) rfl
    (fun b V o j5 r => (R_arg (j := 1) rfl hn (by decide) rfl rfl rfl rfl rfl).trans ((R_arg (j := 2) rfl hn (by decide) rfl rfl rfl rfl rfl))) rfl rfl rfl rfl rfl
    (fun b V o j5 r => (R_arg (j := 1) rfl hn (by decide) rfl rfl rfl rfl rfl).trans ((R_arg (j := 2) rfl hn (by decide) rfl rfl rfl rfl rfl))) rfl rfl rfl T_law_0
    (fun b W2 o1 k v a1 a2 a3 => R_tail T_law_0 rfl a1 a2 a3 rfl rfl rfl rfl rfl rfl rfl rfl rfl rfl rfl rfl rfl rfl rfl (by decide))
  exact ⟨b - 2, W2, o1, l5, l6, by omega, inv_mono g1 (by omega), g2⟩
theorem lc_19 : lw_go L xs n H 1278 := fun b W o j5 j6 hb hn hH h => by
  have k1 := k_allow h (u := (xs (4 * n + 1)).toInt) (v := if xs (4 * n + 2) = 0 then 0 else 1) (q_itr _) (by split <;> omega)
  have ev : q_i (if xs (4 * n + 2) = 0 then 0 else 1) = (if xs (4 * n + 2) = 0 then 0 else 1) := by split <;> rfl
  rw [q_itI, ev] at k1
  obtain ⟨W2, o1, l5, l6, g1, g2⟩ := R_case (T := T_law L xs) (b := b) (P := 1278) (A := 20) (x4 := q_i (4 * (n : Int))) (j5 := j5) (j6 := j6) (o := o) (as := [.inl (xs (4 * n + 1)), .inl (if xs (4 * n + 2) = 0 then 0 else 1)]) k1 (cost := 1) (by omega) rfl
    (fun b V o j5 r => (R_arg (j := 1) rfl hn (by decide) rfl rfl rfl rfl rfl).trans ((R_arg (j := 2) rfl hn (by decide) rfl rfl rfl rfl rfl).trans ((R_bool (P := 1291) rfl rfl rfl rfl)))) rfl rfl rfl rfl rfl
    (fun b V o j5 r => (R_arg (j := 1) rfl hn (by decide) rfl rfl rfl rfl rfl).trans ((R_arg (j := 2) rfl hn (by decide) rfl rfl rfl rfl rfl).trans ((R_bool (P := 1318) rfl rfl rfl rfl)))) rfl rfl rfl T_law_0
    (fun b W2 o1 k v a1 a2 a3 => R_tail T_law_0 rfl a1 a2 a3 rfl rfl rfl rfl rfl rfl rfl rfl rfl rfl rfl rfl rfl rfl rfl (by decide))
  exact ⟨b - 1, W2, o1, l5, l6, by omega, inv_mono g1 (by omega), g2⟩
theorem lc_20 : lw_go L xs n H 1362 := fun b W o j5 j6 hb hn hH h => by
  have k1 := k_undo h
  obtain ⟨W2, o1, l5, l6, g1, g2⟩ := R_case (T := T_law L xs) (b := b) (P := 1362) (A := 0) (x4 := q_i (4 * (n : Int))) (j5 := j5) (j6 := j6) (o := o) (as := []) k1 (cost := 1) (by omega) rfl
    (fun b V o j5 r => rfl) rfl rfl rfl rfl rfl
    (fun b V o j5 r => rfl) rfl rfl rfl T_law_0
    (fun b W2 o1 k v a1 a2 a3 => R_tail T_law_0 rfl a1 a2 a3 rfl rfl rfl rfl rfl rfl rfl rfl rfl rfl rfl rfl rfl rfl rfl (by decide))
  exact ⟨b - 1, W2, o1, l5, l6, by omega, inv_mono g1 (by omega), g2⟩
theorem lc_21 : lw_go L xs n H 1406 := fun b W o j5 j6 hb hn hH h => by
  have k1 := k_whyNot h (by omega) (u := (xs (4 * n + 1)).toInt) (q_itr _)
  simp only [q_itI] at k1
  obtain ⟨W2, o1, l5, l6, g1, g2⟩ := R_case (T := T_law L xs) (b := b) (P := 1406) (A := 6) (x4 := q_i (4 * (n : Int))) (j5 := j5) (j6 := j6) (o := o) (as := [.inl (xs (4 * n + 1))]) k1 (cost := 1) (by omega) rfl
    (fun b V o j5 r => (R_arg (j := 1) rfl hn (by decide) rfl rfl rfl rfl rfl)) rfl rfl rfl rfl rfl
    (fun b V o j5 r => (R_arg (j := 1) rfl hn (by decide) rfl rfl rfl rfl rfl)) rfl rfl rfl T_law_0
    (fun b W2 o1 k v a1 a2 a3 => R_tail T_law_0 rfl a1 a2 a3 rfl rfl rfl rfl rfl rfl rfl rfl rfl rfl rfl rfl rfl rfl rfl (by decide))
  exact ⟨b - 1, W2, o1, l5, l6, by omega, inv_mono g1 (by omega), g2⟩
theorem lc_22 : lw_go L xs n H 1462 := fun b W o j5 j6 hb hn hH h => by
  have k1 := k_order h  (u := (xs (4 * n + 1)).toInt) (q_itr _)
  simp only [q_itI] at k1
  obtain ⟨W2, o1, l5, l6, g1, g2⟩ := R_case (T := T_law L xs) (b := b) (P := 1462) (A := 6) (x4 := q_i (4 * (n : Int))) (j5 := j5) (j6 := j6) (o := o) (as := [.inl (xs (4 * n + 1))]) k1 (cost := 1) (by omega) rfl
    (fun b V o j5 r => (R_arg (j := 1) rfl hn (by decide) rfl rfl rfl rfl rfl)) rfl rfl rfl rfl rfl
    (fun b V o j5 r => (R_arg (j := 1) rfl hn (by decide) rfl rfl rfl rfl rfl)) rfl rfl rfl T_law_0
    (fun b W2 o1 k v a1 a2 a3 => R_tail T_law_0 rfl a1 a2 a3 rfl rfl rfl rfl rfl rfl rfl rfl rfl rfl rfl rfl rfl rfl rfl (by decide))
  exact ⟨b - 1, W2, o1, l5, l6, by omega, inv_mono g1 (by omega), g2⟩
theorem lc_23 : lw_go L xs n H 1518 := fun b W o j5 j6 hb hn hH h => by
  have k1 := k_ahead h (by omega) (u := (xs (4 * n + 1)).toInt) (v := (xs (4 * n + 2)).toInt) (q_itr _) (q_itr _)
  simp only [q_itI] at k1
  obtain ⟨W2, o1, l5, l6, g1, g2⟩ := R_case (T := T_law L xs) (b := b) (P := 1518) (A := 12) (x4 := q_i (4 * (n : Int))) (j5 := j5) (j6 := j6) (o := o) (as := [.inl (xs (4 * n + 1)), .inl (xs (4 * n + 2))]) k1 (cost := 1) (by omega) rfl
    (fun b V o j5 r => (R_arg (j := 1) rfl hn (by decide) rfl rfl rfl rfl rfl).trans ((R_arg (j := 2) rfl hn (by decide) rfl rfl rfl rfl rfl))) rfl rfl rfl rfl rfl
    (fun b V o j5 r => (R_arg (j := 1) rfl hn (by decide) rfl rfl rfl rfl rfl).trans ((R_arg (j := 2) rfl hn (by decide) rfl rfl rfl rfl rfl))) rfl rfl rfl T_law_0
    (fun b W2 o1 k v a1 a2 a3 => R_tail T_law_0 rfl a1 a2 a3 rfl rfl rfl rfl rfl rfl rfl rfl rfl rfl rfl rfl rfl rfl rfl (by decide))
  exact ⟨b - 1, W2, o1, l5, l6, by omega, inv_mono g1 (by omega), g2⟩
theorem lc_24 : lw_go L xs n H 1586 := fun b W o j5 j6 hb hn hH h => by
  have k1 := k_readyAfter h (by omega) (u := (xs (4 * n + 1)).toInt) (q_itr _)
  simp only [q_itI] at k1
  obtain ⟨W2, o1, l5, l6, g1, g2⟩ := R_case (T := T_law L xs) (b := b) (P := 1586) (A := 6) (x4 := q_i (4 * (n : Int))) (j5 := j5) (j6 := j6) (o := o) (as := [.inl (xs (4 * n + 1))]) k1 (cost := 1) (by omega) rfl
    (fun b V o j5 r => (R_arg (j := 1) rfl hn (by decide) rfl rfl rfl rfl rfl)) rfl rfl rfl rfl rfl
    (fun b V o j5 r => (R_arg (j := 1) rfl hn (by decide) rfl rfl rfl rfl rfl)) rfl rfl rfl T_law_0
    (fun b W2 o1 k v a1 a2 a3 => R_tail T_law_0 rfl a1 a2 a3 rfl rfl rfl rfl rfl rfl rfl rfl rfl rfl rfl rfl rfl rfl rfl (by decide))
  exact ⟨b - 1, W2, o1, l5, l6, by omega, inv_mono g1 (by omega), g2⟩
theorem lc_25 : lw_go L xs n H 1642 := fun b W o j5 j6 hb hn hH h => by
  have k1 := k_bestPlace h (by omega) (u := (xs (4 * n + 1)).toInt) (v := (xs (4 * n + 2)).toInt) (q_itr _) (q_itr _)
  simp only [q_itI] at k1
  obtain ⟨W2, o1, l5, l6, g1, g2⟩ := R_case (T := T_law L xs) (b := b) (P := 1642) (A := 12) (x4 := q_i (4 * (n : Int))) (j5 := j5) (j6 := j6) (o := o) (as := [.inl (xs (4 * n + 1)), .inl (xs (4 * n + 2))]) k1 (cost := 2) (by omega) rfl
    (fun b V o j5 r => (R_arg (j := 1) rfl hn (by decide) rfl rfl rfl rfl rfl).trans ((R_arg (j := 2) rfl hn (by decide) rfl rfl rfl rfl rfl))) rfl rfl rfl rfl rfl
    (fun b V o j5 r => (R_arg (j := 1) rfl hn (by decide) rfl rfl rfl rfl rfl).trans ((R_arg (j := 2) rfl hn (by decide) rfl rfl rfl rfl rfl))) rfl rfl rfl T_law_0
    (fun b W2 o1 k v a1 a2 a3 => R_tail T_law_0 rfl a1 a2 a3 rfl rfl rfl rfl rfl rfl rfl rfl rfl rfl rfl rfl rfl rfl rfl (by decide))
  exact ⟨b - 2, W2, o1, l5, l6, by omega, inv_mono g1 (by omega), g2⟩
theorem lc_26 : lw_go L xs n H 1710 := fun b W o j5 j6 hb hn hH h => by
  have k1 := k_missing h (by omega) (u := (xs (4 * n + 1)).toInt) (q_itr _)
  simp only [q_itI] at k1
  obtain ⟨W2, o1, l5, l6, g1, g2⟩ := R_case (T := T_law L xs) (b := b) (P := 1710) (A := 6) (x4 := q_i (4 * (n : Int))) (j5 := j5) (j6 := j6) (o := o) (as := [.inl (xs (4 * n + 1))]) k1 (cost := 1) (by omega) rfl
    (fun b V o j5 r => (R_arg (j := 1) rfl hn (by decide) rfl rfl rfl rfl rfl)) rfl rfl rfl rfl rfl
    (fun b V o j5 r => (R_arg (j := 1) rfl hn (by decide) rfl rfl rfl rfl rfl)) rfl rfl rfl T_law_0
    (fun b W2 o1 k v a1 a2 a3 => R_tail T_law_0 rfl a1 a2 a3 rfl rfl rfl rfl rfl rfl rfl rfl rfl rfl rfl rfl rfl rfl rfl (by decide))
  exact ⟨b - 1, W2, o1, l5, l6, by omega, inv_mono g1 (by omega), g2⟩
theorem lc_27 : lw_go L xs n H 1766 := fun b W o j5 j6 hb hn hH h => by
  have k1 := k_coldest h (by omega) (u := (xs (4 * n + 1)).toInt) (q_itr _)
  simp only [q_itI] at k1
  obtain ⟨W2, o1, l5, l6, g1, g2⟩ := R_case (T := T_law L xs) (b := b) (P := 1766) (A := 6) (x4 := q_i (4 * (n : Int))) (j5 := j5) (j6 := j6) (o := o) (as := [.inl (xs (4 * n + 1))]) k1 (cost := 1) (by omega) rfl
    (fun b V o j5 r => (R_arg (j := 1) rfl hn (by decide) rfl rfl rfl rfl rfl)) rfl rfl rfl rfl rfl
    (fun b V o j5 r => (R_arg (j := 1) rfl hn (by decide) rfl rfl rfl rfl rfl)) rfl rfl rfl T_law_0
    (fun b W2 o1 k v a1 a2 a3 => R_tail T_law_0 rfl a1 a2 a3 rfl rfl rfl rfl rfl rfl rfl rfl rfl rfl rfl rfl rfl rfl rfl (by decide))
  exact ⟨b - 1, W2, o1, l5, l6, by omega, inv_mono g1 (by omega), g2⟩
theorem lc_28 : lw_go L xs n H 1822 := fun b W o j5 j6 hb hn hH h => by
  have k1 := k_runScript h (by omega) (u := (xs (4 * n + 1)).toInt) (q_itr _) (s := (lw_64 (xs (4 * n + 2)) (xs (4 * n + 3))).toInt) ⟨Int64.le_toInt _, Int64.toInt_lt _⟩
  rw [q_itI, q_jof] at k1
  obtain ⟨W2, o1, l5, l6, g1, g2⟩ := R_case (T := T_law L xs) (b := b) (P := 1822) (A := 28) (x4 := q_i (4 * (n : Int))) (j5 := j5) (j6 := j6) (o := o) (as := [.inl (xs (4 * n + 1)), .inr (.inl (lw_64 (xs (4 * n + 2)) (xs (4 * n + 3))))]) k1 (cost := 1) (by omega) rfl
    (fun b V o j5 r => (R_arg (j := 1) rfl hn (by decide) rfl rfl rfl rfl rfl).trans ((R_arg (j := 2) rfl hn (by decide) rfl rfl rfl rfl rfl).trans ((R_i2l rfl).trans ((R_bipush (v := 32) rfl rfl).trans ((R_lshl rfl).trans ((R_arg (j := 3) rfl hn (by decide) rfl rfl rfl rfl rfl).trans ((R_i2l rfl).trans ((R_ldc2 (v := 4294967295) rfl rfl).trans ((R_land rfl).trans ((R_lor rfl))))))))))) rfl rfl rfl rfl rfl
    (fun b V o j5 r => (R_arg (j := 1) rfl hn (by decide) rfl rfl rfl rfl rfl).trans ((R_arg (j := 2) rfl hn (by decide) rfl rfl rfl rfl rfl).trans ((R_i2l rfl).trans ((R_bipush (v := 32) rfl rfl).trans ((R_lshl rfl).trans ((R_arg (j := 3) rfl hn (by decide) rfl rfl rfl rfl rfl).trans ((R_i2l rfl).trans ((R_ldc2 (v := 4294967295) rfl rfl).trans ((R_land rfl).trans ((R_lor rfl))))))))))) rfl rfl rfl T_law_0
    (fun b W2 o1 k v a1 a2 a3 => R_tail T_law_0 rfl a1 a2 a3 rfl rfl rfl rfl rfl rfl rfl rfl rfl rfl rfl rfl rfl rfl rfl (by decide))
  exact ⟨b - 1, W2, o1, l5, l6, by omega, inv_mono g1 (by omega), g2⟩
theorem lc_29 : lw_go L xs n H 1922 := fun b W o j5 j6 hb hn hH h => by
  have k1 := k_simulate h (by omega) (u := (xs (4 * n + 3)).toInt) (q_itr _) (s := lw_64 (xs (4 * n + 1)) (xs (4 * n + 2)))
  rw [q_itI] at k1
  obtain ⟨W2, o1, l5, l6, g1, g2⟩ := R_case (T := T_law L xs) (b := b) (P := 1922) (A := 28) (x4 := q_i (4 * (n : Int))) (j5 := j5) (j6 := j6) (o := o) (as := [.inr (.inl (lw_64 (xs (4 * n + 1)) (xs (4 * n + 2)))), .inl (xs (4 * n + 3))]) k1 (cost := 1) (by omega) rfl
    (fun b V o j5 r => (R_arg (j := 1) rfl hn (by decide) rfl rfl rfl rfl rfl).trans ((R_i2l rfl).trans ((R_bipush (v := 32) rfl rfl).trans ((R_lshl rfl).trans ((R_arg (j := 2) rfl hn (by decide) rfl rfl rfl rfl rfl).trans ((R_i2l rfl).trans ((R_ldc2 (v := 4294967295) rfl rfl).trans ((R_land rfl).trans ((R_lor rfl).trans ((R_arg (j := 3) rfl hn (by decide) rfl rfl rfl rfl rfl))))))))))) rfl rfl rfl rfl rfl
    (fun b V o j5 r => (R_arg (j := 1) rfl hn (by decide) rfl rfl rfl rfl rfl).trans ((R_i2l rfl).trans ((R_bipush (v := 32) rfl rfl).trans ((R_lshl rfl).trans ((R_arg (j := 2) rfl hn (by decide) rfl rfl rfl rfl rfl).trans ((R_i2l rfl).trans ((R_ldc2 (v := 4294967295) rfl rfl).trans ((R_land rfl).trans ((R_lor rfl).trans ((R_arg (j := 3) rfl hn (by decide) rfl rfl rfl rfl rfl))))))))))) rfl rfl rfl T_law_0
    (fun b W2 o1 k v a1 a2 a3 => R_tail T_law_0 rfl a1 a2 a3 rfl rfl rfl rfl rfl rfl rfl rfl rfl rfl rfl rfl rfl rfl rfl (by decide))
  exact ⟨b - 1, W2, o1, l5, l6, by omega, inv_mono g1 (by omega), g2⟩
theorem lc_30 : lw_go L xs n H 2022 := fun b W o j5 j6 hb hn hH h => by
  have k1 := k_save h  (u := (xs (4 * n + 1)).toInt) (q_itr _)
  simp only [q_itI] at k1
  obtain ⟨W2, o1, l5, l6, g1, g2⟩ := R_case (T := T_law L xs) (b := b) (P := 2022) (A := 6) (x4 := q_i (4 * (n : Int))) (j5 := j5) (j6 := j6) (o := o) (as := [.inl (xs (4 * n + 1))]) k1 (cost := 1) (by omega) rfl
    (fun b V o j5 r => (R_arg (j := 1) rfl hn (by decide) rfl rfl rfl rfl rfl)) rfl rfl rfl rfl rfl
    (fun b V o j5 r => (R_arg (j := 1) rfl hn (by decide) rfl rfl rfl rfl rfl)) rfl rfl rfl T_law_0
    (fun b W2 o1 k v a1 a2 a3 => R_tail T_law_0 rfl a1 a2 a3 rfl rfl rfl rfl rfl rfl rfl rfl rfl rfl rfl rfl rfl rfl rfl (by decide))
  exact ⟨b - 1, W2, o1, l5, l6, by omega, inv_mono g1 (by omega), g2⟩
theorem lc_31 : lw_go L xs n H 2078 := fun b W o j5 j6 hb hn hH h => by
  have k1 := k_restore h  (u := (xs (4 * n + 1)).toInt) (q_itr _)
  simp only [q_itI] at k1
  obtain ⟨W2, o1, l5, l6, g1, g2⟩ := R_case (T := T_law L xs) (b := b) (P := 2078) (A := 6) (x4 := q_i (4 * (n : Int))) (j5 := j5) (j6 := j6) (o := o) (as := [.inl (xs (4 * n + 1))]) k1 (cost := 2) (by omega) rfl
    (fun b V o j5 r => (R_arg (j := 1) rfl hn (by decide) rfl rfl rfl rfl rfl)) rfl rfl rfl rfl rfl
    (fun b V o j5 r => (R_arg (j := 1) rfl hn (by decide) rfl rfl rfl rfl rfl)) rfl rfl rfl T_law_0
    (fun b W2 o1 k v a1 a2 a3 => R_tail T_law_0 rfl a1 a2 a3 rfl rfl rfl rfl rfl rfl rfl rfl rfl rfl rfl rfl rfl rfl rfl (by decide))
  exact ⟨b - 2, W2, o1, l5, l6, by omega, inv_mono g1 (by omega), g2⟩
end Z60
