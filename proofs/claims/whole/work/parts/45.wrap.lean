/-! THE LAW'S WRAPPERS: what they hand on -/
section Z45w
variable {V V1 : Nat → Nat → Int32} {o o1 : Int64} {v : Int32}
theorem w_append {a1 : Int32} (h : F_X9_append (V, o) [.inr (.inr (9, 0, 0)), .inl a1] = some ((V1, o1), .ok (some (.inl v)))) : F_L_append (V, o) [.inr (.inr (9, 0, 0)), .inl a1, .inr (.inr (60, 0, 0))] = some ((V1, v.toInt64), .ok (some (.inl 0))) := by
  rw [e_L_append]
  simp (disch := first | exact nl_i | exact nl_r | exact nl_n | exact Nat.le_of_ble_eq_true rfl | rfl | assumption | omega) only [s_L_append_0, s_L_append_1, s_L_append_2, s_L_append_3, s_L_append_4, s_L_append_7, s_L_append_8, s_L_append_9, s_L_append_13, s_L_append_14, s_L_append_16, s_L_append_17, s_L_append_18, s_L_append_19, h, sm_k2_ok, sm_k2_er, sm_tl_s, sm_tl_n, sm_gt, q_ip, q_in, List.set_cons_zero, List.set_cons_succ]
theorem w_append_1 {a1 : Int32} (h : F_X9_append (V, o) [.inr (.inr (9, 0, 0)), .inl a1] = some ((V1, o1), .error 1)) : F_L_append (V, o) [.inr (.inr (9, 0, 0)), .inl a1, .inr (.inr (60, 0, 0))] = some ((V1, o1), .ok (some (.inl 1))) := by
  rw [e_L_append]
  simp (disch := first | exact nl_i | exact nl_r | exact nl_n | exact Nat.le_of_ble_eq_true rfl | rfl | assumption | omega) only [s_L_append_0, s_L_append_1, s_L_append_2, s_L_append_3, s_L_append_4, s_L_append_7, s_L_append_8, s_L_append_9, s_L_append_13, s_L_append_14, s_L_append_16, s_L_append_17, s_L_append_18, s_L_append_19, h, sm_k2_ok, sm_k2_er, sm_tl_s, sm_tl_n, sm_gt, q_ip, q_in, List.set_cons_zero, List.set_cons_succ]
  try rfl
theorem w_append_2 {a1 : Int32} (h : F_X9_append (V, o) [.inr (.inr (9, 0, 0)), .inl a1] = some ((V1, o1), .error 2)) : F_L_append (V, o) [.inr (.inr (9, 0, 0)), .inl a1, .inr (.inr (60, 0, 0))] = some ((V1, o1), .ok (some (.inl 2))) := by
  rw [e_L_append]
  simp (disch := first | exact nl_i | exact nl_r | exact nl_n | exact Nat.le_of_ble_eq_true rfl | rfl | assumption | omega) only [s_L_append_0, s_L_append_1, s_L_append_2, s_L_append_3, s_L_append_4, s_L_append_7, s_L_append_8, s_L_append_9, s_L_append_13, s_L_append_14, s_L_append_16, s_L_append_17, s_L_append_18, s_L_append_19, h, sm_k2_ok, sm_k2_er, sm_tl_s, sm_tl_n, sm_gt, q_ip, q_in, List.set_cons_zero, List.set_cons_succ]
  try rfl
theorem w_load  (h : F_X9_load (V, o) [.inr (.inr (9, 0, 0))] = some ((V1, o1), .ok (some (.inl v)))) : F_L_load (V, o) [.inr (.inr (9, 0, 0)), .inr (.inr (60, 0, 0))] = some ((V1, v.toInt64), .ok (some (.inl 0))) := by
  rw [e_L_load]
  simp (disch := first | exact nl_i | exact nl_r | exact nl_n | exact Nat.le_of_ble_eq_true rfl | rfl | assumption | omega) only [s_L_load_0, s_L_load_1, s_L_load_2, s_L_load_3, s_L_load_6, s_L_load_7, s_L_load_8, s_L_load_12, s_L_load_13, s_L_load_14, s_L_load_15, h, sm_k2_ok, sm_k2_er, sm_tl_s, sm_tl_n, sm_gt, q_ip, q_in, List.set_cons_zero, List.set_cons_succ]
theorem w_load_2  (h : F_X9_load (V, o) [.inr (.inr (9, 0, 0))] = some ((V1, o1), .error 2)) : F_L_load (V, o) [.inr (.inr (9, 0, 0)), .inr (.inr (60, 0, 0))] = some ((V1, o1), .ok (some (.inl 1))) := by
  rw [e_L_load]
  simp (disch := first | exact nl_i | exact nl_r | exact nl_n | exact Nat.le_of_ble_eq_true rfl | rfl | assumption | omega) only [s_L_load_0, s_L_load_1, s_L_load_2, s_L_load_3, s_L_load_6, s_L_load_7, s_L_load_8, s_L_load_12, s_L_load_13, s_L_load_14, s_L_load_15, h, sm_k2_ok, sm_k2_er, sm_tl_s, sm_tl_n, sm_gt, q_ip, q_in, List.set_cons_zero, List.set_cons_succ]
  try rfl
theorem w_about {a1 : Int32} (h : F_X9_about (V, o) [.inr (.inr (9, 0, 0)), .inl a1] = some ((V1, o1), .ok (some (.inl v)))) : F_L_about (V, o) [.inr (.inr (9, 0, 0)), .inl a1, .inr (.inr (60, 0, 0))] = some ((V1, v.toInt64), .ok (some (.inl 0))) := by
  rw [e_L_about]
  simp (disch := first | exact nl_i | exact nl_r | exact nl_n | exact Nat.le_of_ble_eq_true rfl | rfl | assumption | omega) only [s_L_about_0, s_L_about_1, s_L_about_2, s_L_about_3, s_L_about_4, s_L_about_7, s_L_about_8, s_L_about_9, s_L_about_13, s_L_about_14, s_L_about_15, s_L_about_16, h, sm_k2_ok, sm_k2_er, sm_tl_s, sm_tl_n, sm_gt, q_ip, q_in, List.set_cons_zero, List.set_cons_succ]
theorem w_about_1 {a1 : Int32} (h : F_X9_about (V, o) [.inr (.inr (9, 0, 0)), .inl a1] = some ((V1, o1), .error 1)) : F_L_about (V, o) [.inr (.inr (9, 0, 0)), .inl a1, .inr (.inr (60, 0, 0))] = some ((V1, o1), .ok (some (.inl 1))) := by
  rw [e_L_about]
  simp (disch := first | exact nl_i | exact nl_r | exact nl_n | exact Nat.le_of_ble_eq_true rfl | rfl | assumption | omega) only [s_L_about_0, s_L_about_1, s_L_about_2, s_L_about_3, s_L_about_4, s_L_about_7, s_L_about_8, s_L_about_9, s_L_about_13, s_L_about_14, s_L_about_15, s_L_about_16, h, sm_k2_ok, sm_k2_er, sm_tl_s, sm_tl_n, sm_gt, q_ip, q_in, List.set_cons_zero, List.set_cons_succ]
  try rfl
theorem w_slope {a1 : Int32} {a2 : Int32} (h : F_X9_slope (V, o) [.inr (.inr (9, 0, 0)), .inl a1, .inl a2] = some ((V1, o1), .ok (some (.inl v)))) : F_L_slope (V, o) [.inr (.inr (9, 0, 0)), .inl a1, .inl a2, .inr (.inr (60, 0, 0))] = some ((V1, v.toInt64), .ok (some (.inl 0))) := by
  rw [e_L_slope]
  simp (disch := first | exact nl_i | exact nl_r | exact nl_n | exact Nat.le_of_ble_eq_true rfl | rfl | assumption | omega) only [s_L_slope_0, s_L_slope_1, s_L_slope_2, s_L_slope_3, s_L_slope_4, s_L_slope_5, s_L_slope_8, s_L_slope_9, s_L_slope_10, s_L_slope_15, s_L_slope_16, s_L_slope_19, s_L_slope_20, s_L_slope_21, s_L_slope_22, h, sm_k2_ok, sm_k2_er, sm_tl_s, sm_tl_n, sm_gt, q_ip, q_in, List.set_cons_zero, List.set_cons_succ]
theorem w_slope_3 {a1 : Int32} {a2 : Int32} (h : F_X9_slope (V, o) [.inr (.inr (9, 0, 0)), .inl a1, .inl a2] = some ((V1, o1), .error 3)) : F_L_slope (V, o) [.inr (.inr (9, 0, 0)), .inl a1, .inl a2, .inr (.inr (60, 0, 0))] = some ((V1, o1), .ok (some (.inl 1))) := by
  rw [e_L_slope]
  simp (disch := first | exact nl_i | exact nl_r | exact nl_n | exact Nat.le_of_ble_eq_true rfl | rfl | assumption | omega) only [s_L_slope_0, s_L_slope_1, s_L_slope_2, s_L_slope_3, s_L_slope_4, s_L_slope_5, s_L_slope_8, s_L_slope_9, s_L_slope_10, s_L_slope_15, s_L_slope_16, s_L_slope_19, s_L_slope_20, s_L_slope_21, s_L_slope_22, h, sm_k2_ok, sm_k2_er, sm_tl_s, sm_tl_n, sm_gt, q_ip, q_in, List.set_cons_zero, List.set_cons_succ]
  try rfl
theorem w_slope_1 {a1 : Int32} {a2 : Int32} (h : F_X9_slope (V, o) [.inr (.inr (9, 0, 0)), .inl a1, .inl a2] = some ((V1, o1), .error 1)) : F_L_slope (V, o) [.inr (.inr (9, 0, 0)), .inl a1, .inl a2, .inr (.inr (60, 0, 0))] = some ((V1, o1), .ok (some (.inl 2))) := by
  rw [e_L_slope]
  simp (disch := first | exact nl_i | exact nl_r | exact nl_n | exact Nat.le_of_ble_eq_true rfl | rfl | assumption | omega) only [s_L_slope_0, s_L_slope_1, s_L_slope_2, s_L_slope_3, s_L_slope_4, s_L_slope_5, s_L_slope_8, s_L_slope_9, s_L_slope_10, s_L_slope_15, s_L_slope_16, s_L_slope_19, s_L_slope_20, s_L_slope_21, s_L_slope_22, h, sm_k2_ok, sm_k2_er, sm_tl_s, sm_tl_n, sm_gt, q_ip, q_in, List.set_cons_zero, List.set_cons_succ]
  try rfl
theorem w_gun {a1 : Int32} {a2 : Int32} (h : F_X9_gun (V, o) [.inr (.inr (9, 0, 0)), .inl a1, .inl a2] = some ((V1, o1), .ok (some (.inl v)))) : F_L_gun (V, o) [.inr (.inr (9, 0, 0)), .inl a1, .inl a2, .inr (.inr (60, 0, 0))] = some ((V1, v.toInt64), .ok (some (.inl 0))) := by
  rw [e_L_gun]
  simp (disch := first | exact nl_i | exact nl_r | exact nl_n | exact Nat.le_of_ble_eq_true rfl | rfl | assumption | omega) only [s_L_gun_0, s_L_gun_1, s_L_gun_2, s_L_gun_3, s_L_gun_4, s_L_gun_5, s_L_gun_8, s_L_gun_9, s_L_gun_10, s_L_gun_15, s_L_gun_16, s_L_gun_19, s_L_gun_20, s_L_gun_21, s_L_gun_22, h, sm_k2_ok, sm_k2_er, sm_tl_s, sm_tl_n, sm_gt, q_ip, q_in, List.set_cons_zero, List.set_cons_succ]
theorem w_gun_3 {a1 : Int32} {a2 : Int32} (h : F_X9_gun (V, o) [.inr (.inr (9, 0, 0)), .inl a1, .inl a2] = some ((V1, o1), .error 3)) : F_L_gun (V, o) [.inr (.inr (9, 0, 0)), .inl a1, .inl a2, .inr (.inr (60, 0, 0))] = some ((V1, o1), .ok (some (.inl 1))) := by
  rw [e_L_gun]
  simp (disch := first | exact nl_i | exact nl_r | exact nl_n | exact Nat.le_of_ble_eq_true rfl | rfl | assumption | omega) only [s_L_gun_0, s_L_gun_1, s_L_gun_2, s_L_gun_3, s_L_gun_4, s_L_gun_5, s_L_gun_8, s_L_gun_9, s_L_gun_10, s_L_gun_15, s_L_gun_16, s_L_gun_19, s_L_gun_20, s_L_gun_21, s_L_gun_22, h, sm_k2_ok, sm_k2_er, sm_tl_s, sm_tl_n, sm_gt, q_ip, q_in, List.set_cons_zero, List.set_cons_succ]
  try rfl
theorem w_gun_1 {a1 : Int32} {a2 : Int32} (h : F_X9_gun (V, o) [.inr (.inr (9, 0, 0)), .inl a1, .inl a2] = some ((V1, o1), .error 1)) : F_L_gun (V, o) [.inr (.inr (9, 0, 0)), .inl a1, .inl a2, .inr (.inr (60, 0, 0))] = some ((V1, o1), .ok (some (.inl 2))) := by
  rw [e_L_gun]
  simp (disch := first | exact nl_i | exact nl_r | exact nl_n | exact Nat.le_of_ble_eq_true rfl | rfl | assumption | omega) only [s_L_gun_0, s_L_gun_1, s_L_gun_2, s_L_gun_3, s_L_gun_4, s_L_gun_5, s_L_gun_8, s_L_gun_9, s_L_gun_10, s_L_gun_15, s_L_gun_16, s_L_gun_19, s_L_gun_20, s_L_gun_21, s_L_gun_22, h, sm_k2_ok, sm_k2_er, sm_tl_s, sm_tl_n, sm_gt, q_ip, q_in, List.set_cons_zero, List.set_cons_succ]
  try rfl
theorem w_account {a1 : Int32} (h : F_X9_account (V, o) [.inr (.inr (9, 0, 0)), .inl a1] = some ((V1, o1), .ok (some (.inl v)))) : F_L_account (V, o) [.inr (.inr (9, 0, 0)), .inl a1, .inr (.inr (60, 0, 0))] = some ((V1, v.toInt64), .ok (some (.inl 0))) := by
  rw [e_L_account]
  simp (disch := first | exact nl_i | exact nl_r | exact nl_n | exact Nat.le_of_ble_eq_true rfl | rfl | assumption | omega) only [s_L_account_0, s_L_account_1, s_L_account_2, s_L_account_3, s_L_account_4, s_L_account_7, s_L_account_8, s_L_account_9, s_L_account_13, s_L_account_14, s_L_account_15, s_L_account_16, h, sm_k2_ok, sm_k2_er, sm_tl_s, sm_tl_n, sm_gt, q_ip, q_in, List.set_cons_zero, List.set_cons_succ]
theorem w_account_1 {a1 : Int32} (h : F_X9_account (V, o) [.inr (.inr (9, 0, 0)), .inl a1] = some ((V1, o1), .error 1)) : F_L_account (V, o) [.inr (.inr (9, 0, 0)), .inl a1, .inr (.inr (60, 0, 0))] = some ((V1, o1), .ok (some (.inl 1))) := by
  rw [e_L_account]
  simp (disch := first | exact nl_i | exact nl_r | exact nl_n | exact Nat.le_of_ble_eq_true rfl | rfl | assumption | omega) only [s_L_account_0, s_L_account_1, s_L_account_2, s_L_account_3, s_L_account_4, s_L_account_7, s_L_account_8, s_L_account_9, s_L_account_13, s_L_account_14, s_L_account_15, s_L_account_16, h, sm_k2_ok, sm_k2_er, sm_tl_s, sm_tl_n, sm_gt, q_ip, q_in, List.set_cons_zero, List.set_cons_succ]
  try rfl
theorem w_book {a1 : Int32} {a2 : Int32} (h : F_X9_book (V, o) [.inr (.inr (9, 0, 0)), .inl a1, .inl a2] = some ((V1, o1), .ok (some (.inl v)))) : F_L_book (V, o) [.inr (.inr (9, 0, 0)), .inl a1, .inl a2, .inr (.inr (60, 0, 0))] = some ((V1, v.toInt64), .ok (some (.inl 0))) := by
  rw [e_L_book]
  simp (disch := first | exact nl_i | exact nl_r | exact nl_n | exact Nat.le_of_ble_eq_true rfl | rfl | assumption | omega) only [s_L_book_0, s_L_book_1, s_L_book_2, s_L_book_3, s_L_book_4, s_L_book_5, s_L_book_8, s_L_book_9, s_L_book_10, s_L_book_15, s_L_book_16, s_L_book_17, s_L_book_18, h, sm_k2_ok, sm_k2_er, sm_tl_s, sm_tl_n, sm_gt, q_ip, q_in, List.set_cons_zero, List.set_cons_succ]
theorem w_book_1 {a1 : Int32} {a2 : Int32} (h : F_X9_book (V, o) [.inr (.inr (9, 0, 0)), .inl a1, .inl a2] = some ((V1, o1), .error 1)) : F_L_book (V, o) [.inr (.inr (9, 0, 0)), .inl a1, .inl a2, .inr (.inr (60, 0, 0))] = some ((V1, o1), .ok (some (.inl 1))) := by
  rw [e_L_book]
  simp (disch := first | exact nl_i | exact nl_r | exact nl_n | exact Nat.le_of_ble_eq_true rfl | rfl | assumption | omega) only [s_L_book_0, s_L_book_1, s_L_book_2, s_L_book_3, s_L_book_4, s_L_book_5, s_L_book_8, s_L_book_9, s_L_book_10, s_L_book_15, s_L_book_16, s_L_book_17, s_L_book_18, h, sm_k2_ok, sm_k2_er, sm_tl_s, sm_tl_n, sm_gt, q_ip, q_in, List.set_cons_zero, List.set_cons_succ]
  try rfl
theorem w_wet {a1 : Int32} (h : F_X9_wet (V, o) [.inr (.inr (9, 0, 0)), .inl a1] = some ((V1, o1), .ok (some (.inl v)))) : F_L_wet (V, o) [.inr (.inr (9, 0, 0)), .inl a1, .inr (.inr (60, 0, 0))] = some ((V1, v.toInt64), .ok (some (.inl 0))) := by
  rw [e_L_wet]
  simp (disch := first | exact nl_i | exact nl_r | exact nl_n | exact Nat.le_of_ble_eq_true rfl | rfl | assumption | omega) only [s_L_wet_0, s_L_wet_1, s_L_wet_2, s_L_wet_3, s_L_wet_4, s_L_wet_7, s_L_wet_8, s_L_wet_9, s_L_wet_13, s_L_wet_14, s_L_wet_15, s_L_wet_16, h, sm_k2_ok, sm_k2_er, sm_tl_s, sm_tl_n, sm_gt, q_ip, q_in, List.set_cons_zero, List.set_cons_succ]
theorem w_wet_1 {a1 : Int32} (h : F_X9_wet (V, o) [.inr (.inr (9, 0, 0)), .inl a1] = some ((V1, o1), .error 1)) : F_L_wet (V, o) [.inr (.inr (9, 0, 0)), .inl a1, .inr (.inr (60, 0, 0))] = some ((V1, o1), .ok (some (.inl 1))) := by
  rw [e_L_wet]
  simp (disch := first | exact nl_i | exact nl_r | exact nl_n | exact Nat.le_of_ble_eq_true rfl | rfl | assumption | omega) only [s_L_wet_0, s_L_wet_1, s_L_wet_2, s_L_wet_3, s_L_wet_4, s_L_wet_7, s_L_wet_8, s_L_wet_9, s_L_wet_13, s_L_wet_14, s_L_wet_15, s_L_wet_16, h, sm_k2_ok, sm_k2_er, sm_tl_s, sm_tl_n, sm_gt, q_ip, q_in, List.set_cons_zero, List.set_cons_succ]
  try rfl
theorem w_pass {a1 : Int32} (h : F_X9_pass (V, o) [.inr (.inr (9, 0, 0)), .inl a1] = some ((V1, o1), .ok (some (.inl v)))) : F_L_pass (V, o) [.inr (.inr (9, 0, 0)), .inl a1, .inr (.inr (60, 0, 0))] = some ((V1, v.toInt64), .ok (some (.inl 0))) := by
  rw [e_L_pass]
  simp (disch := first | exact nl_i | exact nl_r | exact nl_n | exact Nat.le_of_ble_eq_true rfl | rfl | assumption | omega) only [s_L_pass_0, s_L_pass_1, s_L_pass_2, s_L_pass_3, s_L_pass_4, s_L_pass_7, s_L_pass_8, s_L_pass_9, s_L_pass_13, s_L_pass_14, s_L_pass_15, s_L_pass_16, h, sm_k2_ok, sm_k2_er, sm_tl_s, sm_tl_n, sm_gt, q_ip, q_in, List.set_cons_zero, List.set_cons_succ]
theorem w_pass_1 {a1 : Int32} (h : F_X9_pass (V, o) [.inr (.inr (9, 0, 0)), .inl a1] = some ((V1, o1), .error 1)) : F_L_pass (V, o) [.inr (.inr (9, 0, 0)), .inl a1, .inr (.inr (60, 0, 0))] = some ((V1, o1), .ok (some (.inl 1))) := by
  rw [e_L_pass]
  simp (disch := first | exact nl_i | exact nl_r | exact nl_n | exact Nat.le_of_ble_eq_true rfl | rfl | assumption | omega) only [s_L_pass_0, s_L_pass_1, s_L_pass_2, s_L_pass_3, s_L_pass_4, s_L_pass_7, s_L_pass_8, s_L_pass_9, s_L_pass_13, s_L_pass_14, s_L_pass_15, s_L_pass_16, h, sm_k2_ok, sm_k2_er, sm_tl_s, sm_tl_n, sm_gt, q_ip, q_in, List.set_cons_zero, List.set_cons_succ]
  try rfl
theorem w_set {a1 : Int32} {a2 : Int32} (h : F_X9_set (V, o) [.inr (.inr (9, 0, 0)), .inl a1, .inl a2] = some ((V1, o1), .ok (some (.inl v)))) : F_L_set (V, o) [.inr (.inr (9, 0, 0)), .inl a1, .inl a2, .inr (.inr (60, 0, 0))] = some ((V1, v.toInt64), .ok (some (.inl 0))) := by
  rw [e_L_set]
  simp (disch := first | exact nl_i | exact nl_r | exact nl_n | exact Nat.le_of_ble_eq_true rfl | rfl | assumption | omega) only [s_L_set_0, s_L_set_1, s_L_set_2, s_L_set_3, s_L_set_4, s_L_set_5, s_L_set_8, s_L_set_9, s_L_set_10, s_L_set_15, s_L_set_16, s_L_set_17, s_L_set_18, h, sm_k2_ok, sm_k2_er, sm_tl_s, sm_tl_n, sm_gt, q_ip, q_in, List.set_cons_zero, List.set_cons_succ]
theorem w_set_1 {a1 : Int32} {a2 : Int32} (h : F_X9_set (V, o) [.inr (.inr (9, 0, 0)), .inl a1, .inl a2] = some ((V1, o1), .error 1)) : F_L_set (V, o) [.inr (.inr (9, 0, 0)), .inl a1, .inl a2, .inr (.inr (60, 0, 0))] = some ((V1, o1), .ok (some (.inl 1))) := by
  rw [e_L_set]
  simp (disch := first | exact nl_i | exact nl_r | exact nl_n | exact Nat.le_of_ble_eq_true rfl | rfl | assumption | omega) only [s_L_set_0, s_L_set_1, s_L_set_2, s_L_set_3, s_L_set_4, s_L_set_5, s_L_set_8, s_L_set_9, s_L_set_10, s_L_set_15, s_L_set_16, s_L_set_17, s_L_set_18, h, sm_k2_ok, sm_k2_er, sm_tl_s, sm_tl_n, sm_gt, q_ip, q_in, List.set_cons_zero, List.set_cons_succ]
  try rfl
theorem w_fill {a1 : Int32} (h : F_X9_fill (V, o) [.inr (.inr (9, 0, 0)), .inl a1] = some ((V1, o1), .ok (some (.inl v)))) : F_L_fill (V, o) [.inr (.inr (9, 0, 0)), .inl a1, .inr (.inr (60, 0, 0))] = some ((V1, v.toInt64), .ok (some (.inl 0))) := by
  rw [e_L_fill]
  simp (disch := first | exact nl_i | exact nl_r | exact nl_n | exact Nat.le_of_ble_eq_true rfl | rfl | assumption | omega) only [s_L_fill_0, s_L_fill_1, s_L_fill_2, s_L_fill_3, s_L_fill_4, s_L_fill_7, s_L_fill_8, s_L_fill_9, s_L_fill_13, s_L_fill_14, s_L_fill_15, s_L_fill_16, h, sm_k2_ok, sm_k2_er, sm_tl_s, sm_tl_n, sm_gt, q_ip, q_in, List.set_cons_zero, List.set_cons_succ]
theorem w_fill_1 {a1 : Int32} (h : F_X9_fill (V, o) [.inr (.inr (9, 0, 0)), .inl a1] = some ((V1, o1), .error 1)) : F_L_fill (V, o) [.inr (.inr (9, 0, 0)), .inl a1, .inr (.inr (60, 0, 0))] = some ((V1, o1), .ok (some (.inl 1))) := by
  rw [e_L_fill]
  simp (disch := first | exact nl_i | exact nl_r | exact nl_n | exact Nat.le_of_ble_eq_true rfl | rfl | assumption | omega) only [s_L_fill_0, s_L_fill_1, s_L_fill_2, s_L_fill_3, s_L_fill_4, s_L_fill_7, s_L_fill_8, s_L_fill_9, s_L_fill_13, s_L_fill_14, s_L_fill_15, s_L_fill_16, h, sm_k2_ok, sm_k2_er, sm_tl_s, sm_tl_n, sm_gt, q_ip, q_in, List.set_cons_zero, List.set_cons_succ]
  try rfl
theorem w_setWet {a1 : Int32} {a2 : Int32} (h : F_X9_setWet (V, o) [.inr (.inr (9, 0, 0)), .inl a1, .inl a2] = some ((V1, o1), .ok (some (.inl v)))) : F_L_setWet (V, o) [.inr (.inr (9, 0, 0)), .inl a1, .inl a2, .inr (.inr (60, 0, 0))] = some ((V1, v.toInt64), .ok (some (.inl 0))) := by
  rw [e_L_setWet]
  simp (disch := first | exact nl_i | exact nl_r | exact nl_n | exact Nat.le_of_ble_eq_true rfl | rfl | assumption | omega) only [s_L_setWet_0, s_L_setWet_1, s_L_setWet_2, s_L_setWet_3, s_L_setWet_4, s_L_setWet_5, s_L_setWet_8, s_L_setWet_9, s_L_setWet_10, s_L_setWet_15, s_L_setWet_16, s_L_setWet_17, s_L_setWet_18, h, sm_k2_ok, sm_k2_er, sm_tl_s, sm_tl_n, sm_gt, q_ip, q_in, List.set_cons_zero, List.set_cons_succ]
theorem w_setWet_1 {a1 : Int32} {a2 : Int32} (h : F_X9_setWet (V, o) [.inr (.inr (9, 0, 0)), .inl a1, .inl a2] = some ((V1, o1), .error 1)) : F_L_setWet (V, o) [.inr (.inr (9, 0, 0)), .inl a1, .inl a2, .inr (.inr (60, 0, 0))] = some ((V1, o1), .ok (some (.inl 1))) := by
  rw [e_L_setWet]
  simp (disch := first | exact nl_i | exact nl_r | exact nl_n | exact Nat.le_of_ble_eq_true rfl | rfl | assumption | omega) only [s_L_setWet_0, s_L_setWet_1, s_L_setWet_2, s_L_setWet_3, s_L_setWet_4, s_L_setWet_5, s_L_setWet_8, s_L_setWet_9, s_L_setWet_10, s_L_setWet_15, s_L_setWet_16, s_L_setWet_17, s_L_setWet_18, h, sm_k2_ok, sm_k2_er, sm_tl_s, sm_tl_n, sm_gt, q_ip, q_in, List.set_cons_zero, List.set_cons_succ]
  try rfl
theorem w_setSlope {a1 : Int32} {a2 : Int32} {a3 : Int32} (h : F_X9_setSlope (V, o) [.inr (.inr (9, 0, 0)), .inl a1, .inl a2, .inl a3] = some ((V1, o1), .ok (some (.inl v)))) : F_L_setSlope (V, o) [.inr (.inr (9, 0, 0)), .inl a1, .inl a2, .inl a3, .inr (.inr (60, 0, 0))] = some ((V1, v.toInt64), .ok (some (.inl 0))) := by
  rw [e_L_setSlope]
  simp (disch := first | exact nl_i | exact nl_r | exact nl_n | exact Nat.le_of_ble_eq_true rfl | rfl | assumption | omega) only [s_L_setSlope_0, s_L_setSlope_2, s_L_setSlope_3, s_L_setSlope_4, s_L_setSlope_5, s_L_setSlope_6, s_L_setSlope_7, s_L_setSlope_10, s_L_setSlope_11, s_L_setSlope_12, s_L_setSlope_17, s_L_setSlope_18, s_L_setSlope_21, s_L_setSlope_22, s_L_setSlope_23, s_L_setSlope_24, h, sm_k2_ok, sm_k2_er, sm_tl_s, sm_tl_n, sm_gt, q_ip, q_in, List.set_cons_zero, List.set_cons_succ]
theorem w_setSlope_3 {a1 : Int32} {a2 : Int32} {a3 : Int32} (h : F_X9_setSlope (V, o) [.inr (.inr (9, 0, 0)), .inl a1, .inl a2, .inl a3] = some ((V1, o1), .error 3)) : F_L_setSlope (V, o) [.inr (.inr (9, 0, 0)), .inl a1, .inl a2, .inl a3, .inr (.inr (60, 0, 0))] = some ((V1, o1), .ok (some (.inl 1))) := by
  rw [e_L_setSlope]
  simp (disch := first | exact nl_i | exact nl_r | exact nl_n | exact Nat.le_of_ble_eq_true rfl | rfl | assumption | omega) only [s_L_setSlope_0, s_L_setSlope_2, s_L_setSlope_3, s_L_setSlope_4, s_L_setSlope_5, s_L_setSlope_6, s_L_setSlope_7, s_L_setSlope_10, s_L_setSlope_11, s_L_setSlope_12, s_L_setSlope_17, s_L_setSlope_18, s_L_setSlope_21, s_L_setSlope_22, s_L_setSlope_23, s_L_setSlope_24, h, sm_k2_ok, sm_k2_er, sm_tl_s, sm_tl_n, sm_gt, q_ip, q_in, List.set_cons_zero, List.set_cons_succ]
  try rfl
theorem w_setSlope_1 {a1 : Int32} {a2 : Int32} {a3 : Int32} (h : F_X9_setSlope (V, o) [.inr (.inr (9, 0, 0)), .inl a1, .inl a2, .inl a3] = some ((V1, o1), .error 1)) : F_L_setSlope (V, o) [.inr (.inr (9, 0, 0)), .inl a1, .inl a2, .inl a3, .inr (.inr (60, 0, 0))] = some ((V1, o1), .ok (some (.inl 2))) := by
  rw [e_L_setSlope]
  simp (disch := first | exact nl_i | exact nl_r | exact nl_n | exact Nat.le_of_ble_eq_true rfl | rfl | assumption | omega) only [s_L_setSlope_0, s_L_setSlope_2, s_L_setSlope_3, s_L_setSlope_4, s_L_setSlope_5, s_L_setSlope_6, s_L_setSlope_7, s_L_setSlope_10, s_L_setSlope_11, s_L_setSlope_12, s_L_setSlope_17, s_L_setSlope_18, s_L_setSlope_21, s_L_setSlope_22, s_L_setSlope_23, s_L_setSlope_24, h, sm_k2_ok, sm_k2_er, sm_tl_s, sm_tl_n, sm_gt, q_ip, q_in, List.set_cons_zero, List.set_cons_succ]
  try rfl
theorem w_addSlope {a1 : Int32} {a2 : Int32} {a3 : Int32} (h : F_X9_addSlope (V, o) [.inr (.inr (9, 0, 0)), .inl a1, .inl a2, .inl a3] = some ((V1, o1), .ok (some (.inl v)))) : F_L_addSlope (V, o) [.inr (.inr (9, 0, 0)), .inl a1, .inl a2, .inl a3, .inr (.inr (60, 0, 0))] = some ((V1, v.toInt64), .ok (some (.inl 0))) := by
  rw [e_L_addSlope]
  simp (disch := first | exact nl_i | exact nl_r | exact nl_n | exact Nat.le_of_ble_eq_true rfl | rfl | assumption | omega) only [s_L_addSlope_0, s_L_addSlope_2, s_L_addSlope_3, s_L_addSlope_4, s_L_addSlope_5, s_L_addSlope_6, s_L_addSlope_7, s_L_addSlope_10, s_L_addSlope_11, s_L_addSlope_12, s_L_addSlope_17, s_L_addSlope_18, s_L_addSlope_21, s_L_addSlope_22, s_L_addSlope_23, s_L_addSlope_24, h, sm_k2_ok, sm_k2_er, sm_tl_s, sm_tl_n, sm_gt, q_ip, q_in, List.set_cons_zero, List.set_cons_succ]
theorem w_addSlope_1 {a1 : Int32} {a2 : Int32} {a3 : Int32} (h : F_X9_addSlope (V, o) [.inr (.inr (9, 0, 0)), .inl a1, .inl a2, .inl a3] = some ((V1, o1), .error 1)) : F_L_addSlope (V, o) [.inr (.inr (9, 0, 0)), .inl a1, .inl a2, .inl a3, .inr (.inr (60, 0, 0))] = some ((V1, o1), .ok (some (.inl 1))) := by
  rw [e_L_addSlope]
  simp (disch := first | exact nl_i | exact nl_r | exact nl_n | exact Nat.le_of_ble_eq_true rfl | rfl | assumption | omega) only [s_L_addSlope_0, s_L_addSlope_2, s_L_addSlope_3, s_L_addSlope_4, s_L_addSlope_5, s_L_addSlope_6, s_L_addSlope_7, s_L_addSlope_10, s_L_addSlope_11, s_L_addSlope_12, s_L_addSlope_17, s_L_addSlope_18, s_L_addSlope_21, s_L_addSlope_22, s_L_addSlope_23, s_L_addSlope_24, h, sm_k2_ok, sm_k2_er, sm_tl_s, sm_tl_n, sm_gt, q_ip, q_in, List.set_cons_zero, List.set_cons_succ]
  try rfl
theorem w_addSlope_2 {a1 : Int32} {a2 : Int32} {a3 : Int32} (h : F_X9_addSlope (V, o) [.inr (.inr (9, 0, 0)), .inl a1, .inl a2, .inl a3] = some ((V1, o1), .error 2)) : F_L_addSlope (V, o) [.inr (.inr (9, 0, 0)), .inl a1, .inl a2, .inl a3, .inr (.inr (60, 0, 0))] = some ((V1, o1), .ok (some (.inl 2))) := by
  rw [e_L_addSlope]
  simp (disch := first | exact nl_i | exact nl_r | exact nl_n | exact Nat.le_of_ble_eq_true rfl | rfl | assumption | omega) only [s_L_addSlope_0, s_L_addSlope_2, s_L_addSlope_3, s_L_addSlope_4, s_L_addSlope_5, s_L_addSlope_6, s_L_addSlope_7, s_L_addSlope_10, s_L_addSlope_11, s_L_addSlope_12, s_L_addSlope_17, s_L_addSlope_18, s_L_addSlope_21, s_L_addSlope_22, s_L_addSlope_23, s_L_addSlope_24, h, sm_k2_ok, sm_k2_er, sm_tl_s, sm_tl_n, sm_gt, q_ip, q_in, List.set_cons_zero, List.set_cons_succ]
  try rfl
theorem w_removeSlope {a1 : Int32} (h : F_X9_removeSlope (V, o) [.inr (.inr (9, 0, 0)), .inl a1] = some ((V1, o1), .ok (some (.inl v)))) : F_L_removeSlope (V, o) [.inr (.inr (9, 0, 0)), .inl a1, .inr (.inr (60, 0, 0))] = some ((V1, v.toInt64), .ok (some (.inl 0))) := by
  rw [e_L_removeSlope]
  simp (disch := first | exact nl_i | exact nl_r | exact nl_n | exact Nat.le_of_ble_eq_true rfl | rfl | assumption | omega) only [s_L_removeSlope_0, s_L_removeSlope_1, s_L_removeSlope_2, s_L_removeSlope_3, s_L_removeSlope_4, s_L_removeSlope_7, s_L_removeSlope_8, s_L_removeSlope_9, s_L_removeSlope_13, s_L_removeSlope_14, s_L_removeSlope_16, s_L_removeSlope_17, s_L_removeSlope_18, s_L_removeSlope_19, h, sm_k2_ok, sm_k2_er, sm_tl_s, sm_tl_n, sm_gt, q_ip, q_in, List.set_cons_zero, List.set_cons_succ]
theorem w_removeSlope_3 {a1 : Int32} (h : F_X9_removeSlope (V, o) [.inr (.inr (9, 0, 0)), .inl a1] = some ((V1, o1), .error 3)) : F_L_removeSlope (V, o) [.inr (.inr (9, 0, 0)), .inl a1, .inr (.inr (60, 0, 0))] = some ((V1, o1), .ok (some (.inl 1))) := by
  rw [e_L_removeSlope]
  simp (disch := first | exact nl_i | exact nl_r | exact nl_n | exact Nat.le_of_ble_eq_true rfl | rfl | assumption | omega) only [s_L_removeSlope_0, s_L_removeSlope_1, s_L_removeSlope_2, s_L_removeSlope_3, s_L_removeSlope_4, s_L_removeSlope_7, s_L_removeSlope_8, s_L_removeSlope_9, s_L_removeSlope_13, s_L_removeSlope_14, s_L_removeSlope_16, s_L_removeSlope_17, s_L_removeSlope_18, s_L_removeSlope_19, h, sm_k2_ok, sm_k2_er, sm_tl_s, sm_tl_n, sm_gt, q_ip, q_in, List.set_cons_zero, List.set_cons_succ]
  try rfl
theorem w_removeSlope_2 {a1 : Int32} (h : F_X9_removeSlope (V, o) [.inr (.inr (9, 0, 0)), .inl a1] = some ((V1, o1), .error 2)) : F_L_removeSlope (V, o) [.inr (.inr (9, 0, 0)), .inl a1, .inr (.inr (60, 0, 0))] = some ((V1, o1), .ok (some (.inl 2))) := by
  rw [e_L_removeSlope]
  simp (disch := first | exact nl_i | exact nl_r | exact nl_n | exact Nat.le_of_ble_eq_true rfl | rfl | assumption | omega) only [s_L_removeSlope_0, s_L_removeSlope_1, s_L_removeSlope_2, s_L_removeSlope_3, s_L_removeSlope_4, s_L_removeSlope_7, s_L_removeSlope_8, s_L_removeSlope_9, s_L_removeSlope_13, s_L_removeSlope_14, s_L_removeSlope_16, s_L_removeSlope_17, s_L_removeSlope_18, s_L_removeSlope_19, h, sm_k2_ok, sm_k2_er, sm_tl_s, sm_tl_n, sm_gt, q_ip, q_in, List.set_cons_zero, List.set_cons_succ]
  try rfl
theorem w_addGun {a1 : Int32} {a2 : Int32} (h : F_X9_addGun (V, o) [.inr (.inr (9, 0, 0)), .inl a1, .inl a2] = some ((V1, o1), .ok (some (.inl v)))) : F_L_addGun (V, o) [.inr (.inr (9, 0, 0)), .inl a1, .inl a2, .inr (.inr (60, 0, 0))] = some ((V1, v.toInt64), .ok (some (.inl 0))) := by
  rw [e_L_addGun]
  simp (disch := first | exact nl_i | exact nl_r | exact nl_n | exact Nat.le_of_ble_eq_true rfl | rfl | assumption | omega) only [s_L_addGun_0, s_L_addGun_1, s_L_addGun_2, s_L_addGun_3, s_L_addGun_4, s_L_addGun_5, s_L_addGun_8, s_L_addGun_9, s_L_addGun_10, s_L_addGun_15, s_L_addGun_16, s_L_addGun_19, s_L_addGun_20, s_L_addGun_23, s_L_addGun_24, s_L_addGun_25, s_L_addGun_26, h, sm_k2_ok, sm_k2_er, sm_tl_s, sm_tl_n, sm_gt, q_ip, q_in, List.set_cons_zero, List.set_cons_succ]
theorem w_addGun_3 {a1 : Int32} {a2 : Int32} (h : F_X9_addGun (V, o) [.inr (.inr (9, 0, 0)), .inl a1, .inl a2] = some ((V1, o1), .error 3)) : F_L_addGun (V, o) [.inr (.inr (9, 0, 0)), .inl a1, .inl a2, .inr (.inr (60, 0, 0))] = some ((V1, o1), .ok (some (.inl 1))) := by
  rw [e_L_addGun]
  simp (disch := first | exact nl_i | exact nl_r | exact nl_n | exact Nat.le_of_ble_eq_true rfl | rfl | assumption | omega) only [s_L_addGun_0, s_L_addGun_1, s_L_addGun_2, s_L_addGun_3, s_L_addGun_4, s_L_addGun_5, s_L_addGun_8, s_L_addGun_9, s_L_addGun_10, s_L_addGun_15, s_L_addGun_16, s_L_addGun_19, s_L_addGun_20, s_L_addGun_23, s_L_addGun_24, s_L_addGun_25, s_L_addGun_26, h, sm_k2_ok, sm_k2_er, sm_tl_s, sm_tl_n, sm_gt, q_ip, q_in, List.set_cons_zero, List.set_cons_succ]
  try rfl
theorem w_addGun_1 {a1 : Int32} {a2 : Int32} (h : F_X9_addGun (V, o) [.inr (.inr (9, 0, 0)), .inl a1, .inl a2] = some ((V1, o1), .error 1)) : F_L_addGun (V, o) [.inr (.inr (9, 0, 0)), .inl a1, .inl a2, .inr (.inr (60, 0, 0))] = some ((V1, o1), .ok (some (.inl 2))) := by
  rw [e_L_addGun]
  simp (disch := first | exact nl_i | exact nl_r | exact nl_n | exact Nat.le_of_ble_eq_true rfl | rfl | assumption | omega) only [s_L_addGun_0, s_L_addGun_1, s_L_addGun_2, s_L_addGun_3, s_L_addGun_4, s_L_addGun_5, s_L_addGun_8, s_L_addGun_9, s_L_addGun_10, s_L_addGun_15, s_L_addGun_16, s_L_addGun_19, s_L_addGun_20, s_L_addGun_23, s_L_addGun_24, s_L_addGun_25, s_L_addGun_26, h, sm_k2_ok, sm_k2_er, sm_tl_s, sm_tl_n, sm_gt, q_ip, q_in, List.set_cons_zero, List.set_cons_succ]
  try rfl
theorem w_addGun_2 {a1 : Int32} {a2 : Int32} (h : F_X9_addGun (V, o) [.inr (.inr (9, 0, 0)), .inl a1, .inl a2] = some ((V1, o1), .error 2)) : F_L_addGun (V, o) [.inr (.inr (9, 0, 0)), .inl a1, .inl a2, .inr (.inr (60, 0, 0))] = some ((V1, o1), .ok (some (.inl 3))) := by
  rw [e_L_addGun]
  simp (disch := first | exact nl_i | exact nl_r | exact nl_n | exact Nat.le_of_ble_eq_true rfl | rfl | assumption | omega) only [s_L_addGun_0, s_L_addGun_1, s_L_addGun_2, s_L_addGun_3, s_L_addGun_4, s_L_addGun_5, s_L_addGun_8, s_L_addGun_9, s_L_addGun_10, s_L_addGun_15, s_L_addGun_16, s_L_addGun_19, s_L_addGun_20, s_L_addGun_23, s_L_addGun_24, s_L_addGun_25, s_L_addGun_26, h, sm_k2_ok, sm_k2_er, sm_tl_s, sm_tl_n, sm_gt, q_ip, q_in, List.set_cons_zero, List.set_cons_succ]
  try rfl
theorem w_bring {a1 : Int32} {a2 : Int32} (h : F_X9_bring (V, o) [.inr (.inr (9, 0, 0)), .inl a1, .inl a2] = some ((V1, o1), .ok (some (.inl v)))) : F_L_bring (V, o) [.inr (.inr (9, 0, 0)), .inl a1, .inl a2, .inr (.inr (60, 0, 0))] = some ((V1, v.toInt64), .ok (some (.inl 0))) := by
  rw [e_L_bring]
  simp (disch := first | exact nl_i | exact nl_r | exact nl_n | exact Nat.le_of_ble_eq_true rfl | rfl | assumption | omega) only [s_L_bring_0, s_L_bring_1, s_L_bring_2, s_L_bring_3, s_L_bring_4, s_L_bring_5, s_L_bring_8, s_L_bring_9, s_L_bring_10, s_L_bring_15, s_L_bring_16, s_L_bring_17, s_L_bring_18, h, sm_k2_ok, sm_k2_er, sm_tl_s, sm_tl_n, sm_gt, q_ip, q_in, List.set_cons_zero, List.set_cons_succ]
theorem w_bring_3 {a1 : Int32} {a2 : Int32} (h : F_X9_bring (V, o) [.inr (.inr (9, 0, 0)), .inl a1, .inl a2] = some ((V1, o1), .error 3)) : F_L_bring (V, o) [.inr (.inr (9, 0, 0)), .inl a1, .inl a2, .inr (.inr (60, 0, 0))] = some ((V1, o1), .ok (some (.inl 1))) := by
  rw [e_L_bring]
  simp (disch := first | exact nl_i | exact nl_r | exact nl_n | exact Nat.le_of_ble_eq_true rfl | rfl | assumption | omega) only [s_L_bring_0, s_L_bring_1, s_L_bring_2, s_L_bring_3, s_L_bring_4, s_L_bring_5, s_L_bring_8, s_L_bring_9, s_L_bring_10, s_L_bring_15, s_L_bring_16, s_L_bring_17, s_L_bring_18, h, sm_k2_ok, sm_k2_er, sm_tl_s, sm_tl_n, sm_gt, q_ip, q_in, List.set_cons_zero, List.set_cons_succ]
  try rfl
theorem w_allow {a1 : Int32} {a2 : Int32} (h : F_X9_allow (V, o) [.inr (.inr (9, 0, 0)), .inl a1, .inl a2] = some ((V1, o1), .ok (some (.inl v)))) : F_L_allow (V, o) [.inr (.inr (9, 0, 0)), .inl a1, .inl a2, .inr (.inr (60, 0, 0))] = some ((V1, v.toInt64), .ok (some (.inl 0))) := by
  rw [e_L_allow]
  simp (disch := first | exact nl_i | exact nl_r | exact nl_n | exact Nat.le_of_ble_eq_true rfl | rfl | assumption | omega) only [s_L_allow_0, s_L_allow_1, s_L_allow_2, s_L_allow_3, s_L_allow_4, s_L_allow_5, s_L_allow_8, s_L_allow_9, s_L_allow_10, s_L_allow_15, s_L_allow_16, s_L_allow_17, s_L_allow_18, h, sm_k2_ok, sm_k2_er, sm_tl_s, sm_tl_n, sm_gt, q_ip, q_in, List.set_cons_zero, List.set_cons_succ]
theorem w_allow_3 {a1 : Int32} {a2 : Int32} (h : F_X9_allow (V, o) [.inr (.inr (9, 0, 0)), .inl a1, .inl a2] = some ((V1, o1), .error 3)) : F_L_allow (V, o) [.inr (.inr (9, 0, 0)), .inl a1, .inl a2, .inr (.inr (60, 0, 0))] = some ((V1, o1), .ok (some (.inl 1))) := by
  rw [e_L_allow]
  simp (disch := first | exact nl_i | exact nl_r | exact nl_n | exact Nat.le_of_ble_eq_true rfl | rfl | assumption | omega) only [s_L_allow_0, s_L_allow_1, s_L_allow_2, s_L_allow_3, s_L_allow_4, s_L_allow_5, s_L_allow_8, s_L_allow_9, s_L_allow_10, s_L_allow_15, s_L_allow_16, s_L_allow_17, s_L_allow_18, h, sm_k2_ok, sm_k2_er, sm_tl_s, sm_tl_n, sm_gt, q_ip, q_in, List.set_cons_zero, List.set_cons_succ]
  try rfl
theorem w_undo  (h : F_X9_undo (V, o) [.inr (.inr (9, 0, 0))] = some ((V1, o1), .ok (some (.inl v)))) : F_L_undo (V, o) [.inr (.inr (9, 0, 0)), .inr (.inr (60, 0, 0))] = some ((V1, v.toInt64), .ok (some (.inl 0))) := by
  rw [e_L_undo]
  simp (disch := first | exact nl_i | exact nl_r | exact nl_n | exact Nat.le_of_ble_eq_true rfl | rfl | assumption | omega) only [s_L_undo_0, s_L_undo_1, s_L_undo_2, s_L_undo_3, s_L_undo_6, s_L_undo_7, s_L_undo_8, s_L_undo_12, s_L_undo_13, s_L_undo_14, s_L_undo_15, h, sm_k2_ok, sm_k2_er, sm_tl_s, sm_tl_n, sm_gt, q_ip, q_in, List.set_cons_zero, List.set_cons_succ]
theorem w_undo_2  (h : F_X9_undo (V, o) [.inr (.inr (9, 0, 0))] = some ((V1, o1), .error 2)) : F_L_undo (V, o) [.inr (.inr (9, 0, 0)), .inr (.inr (60, 0, 0))] = some ((V1, o1), .ok (some (.inl 1))) := by
  rw [e_L_undo]
  simp (disch := first | exact nl_i | exact nl_r | exact nl_n | exact Nat.le_of_ble_eq_true rfl | rfl | assumption | omega) only [s_L_undo_0, s_L_undo_1, s_L_undo_2, s_L_undo_3, s_L_undo_6, s_L_undo_7, s_L_undo_8, s_L_undo_12, s_L_undo_13, s_L_undo_14, s_L_undo_15, h, sm_k2_ok, sm_k2_er, sm_tl_s, sm_tl_n, sm_gt, q_ip, q_in, List.set_cons_zero, List.set_cons_succ]
  try rfl
theorem w_whyNot {a1 : Int32} (h : F_X9_whyNot (V, o) [.inr (.inr (9, 0, 0)), .inl a1] = some ((V1, o1), .ok (some (.inl v)))) : F_L_whyNot (V, o) [.inr (.inr (9, 0, 0)), .inl a1, .inr (.inr (60, 0, 0))] = some ((V1, v.toInt64), .ok (some (.inl 0))) := by
  rw [e_L_whyNot]
  simp (disch := first | exact nl_i | exact nl_r | exact nl_n | exact Nat.le_of_ble_eq_true rfl | rfl | assumption | omega) only [s_L_whyNot_0, s_L_whyNot_1, s_L_whyNot_2, s_L_whyNot_3, s_L_whyNot_4, s_L_whyNot_7, s_L_whyNot_8, s_L_whyNot_9, s_L_whyNot_13, s_L_whyNot_14, s_L_whyNot_15, s_L_whyNot_16, h, sm_k2_ok, sm_k2_er, sm_tl_s, sm_tl_n, sm_gt, q_ip, q_in, List.set_cons_zero, List.set_cons_succ]
theorem w_whyNot_3 {a1 : Int32} (h : F_X9_whyNot (V, o) [.inr (.inr (9, 0, 0)), .inl a1] = some ((V1, o1), .error 3)) : F_L_whyNot (V, o) [.inr (.inr (9, 0, 0)), .inl a1, .inr (.inr (60, 0, 0))] = some ((V1, o1), .ok (some (.inl 1))) := by
  rw [e_L_whyNot]
  simp (disch := first | exact nl_i | exact nl_r | exact nl_n | exact Nat.le_of_ble_eq_true rfl | rfl | assumption | omega) only [s_L_whyNot_0, s_L_whyNot_1, s_L_whyNot_2, s_L_whyNot_3, s_L_whyNot_4, s_L_whyNot_7, s_L_whyNot_8, s_L_whyNot_9, s_L_whyNot_13, s_L_whyNot_14, s_L_whyNot_15, s_L_whyNot_16, h, sm_k2_ok, sm_k2_er, sm_tl_s, sm_tl_n, sm_gt, q_ip, q_in, List.set_cons_zero, List.set_cons_succ]
  try rfl
theorem w_order {a1 : Int32} (h : F_X9_order (V, o) [.inr (.inr (9, 0, 0)), .inl a1] = some ((V1, o1), .ok (some (.inl v)))) : F_L_order (V, o) [.inr (.inr (9, 0, 0)), .inl a1, .inr (.inr (60, 0, 0))] = some ((V1, v.toInt64), .ok (some (.inl 0))) := by
  rw [e_L_order]
  simp (disch := first | exact nl_i | exact nl_r | exact nl_n | exact Nat.le_of_ble_eq_true rfl | rfl | assumption | omega) only [s_L_order_0, s_L_order_1, s_L_order_2, s_L_order_3, s_L_order_4, s_L_order_7, s_L_order_8, s_L_order_9, s_L_order_13, s_L_order_14, s_L_order_15, s_L_order_16, h, sm_k2_ok, sm_k2_er, sm_tl_s, sm_tl_n, sm_gt, q_ip, q_in, List.set_cons_zero, List.set_cons_succ]
theorem w_order_1 {a1 : Int32} (h : F_X9_order (V, o) [.inr (.inr (9, 0, 0)), .inl a1] = some ((V1, o1), .error 1)) : F_L_order (V, o) [.inr (.inr (9, 0, 0)), .inl a1, .inr (.inr (60, 0, 0))] = some ((V1, o1), .ok (some (.inl 1))) := by
  rw [e_L_order]
  simp (disch := first | exact nl_i | exact nl_r | exact nl_n | exact Nat.le_of_ble_eq_true rfl | rfl | assumption | omega) only [s_L_order_0, s_L_order_1, s_L_order_2, s_L_order_3, s_L_order_4, s_L_order_7, s_L_order_8, s_L_order_9, s_L_order_13, s_L_order_14, s_L_order_15, s_L_order_16, h, sm_k2_ok, sm_k2_er, sm_tl_s, sm_tl_n, sm_gt, q_ip, q_in, List.set_cons_zero, List.set_cons_succ]
  try rfl
theorem w_ahead {a1 : Int32} {a2 : Int32} (h : F_X9_ahead (V, o) [.inr (.inr (9, 0, 0)), .inl a1, .inl a2] = some ((V1, o1), .ok (some (.inl v)))) : F_L_ahead (V, o) [.inr (.inr (9, 0, 0)), .inl a1, .inl a2, .inr (.inr (60, 0, 0))] = some ((V1, v.toInt64), .ok (some (.inl 0))) := by
  rw [e_L_ahead]
  simp (disch := first | exact nl_i | exact nl_r | exact nl_n | exact Nat.le_of_ble_eq_true rfl | rfl | assumption | omega) only [s_L_ahead_0, s_L_ahead_1, s_L_ahead_2, s_L_ahead_3, s_L_ahead_4, s_L_ahead_5, s_L_ahead_8, s_L_ahead_9, s_L_ahead_10, s_L_ahead_15, s_L_ahead_16, s_L_ahead_17, s_L_ahead_18, h, sm_k2_ok, sm_k2_er, sm_tl_s, sm_tl_n, sm_gt, q_ip, q_in, List.set_cons_zero, List.set_cons_succ]
theorem w_ahead_1 {a1 : Int32} {a2 : Int32} (h : F_X9_ahead (V, o) [.inr (.inr (9, 0, 0)), .inl a1, .inl a2] = some ((V1, o1), .error 1)) : F_L_ahead (V, o) [.inr (.inr (9, 0, 0)), .inl a1, .inl a2, .inr (.inr (60, 0, 0))] = some ((V1, o1), .ok (some (.inl 1))) := by
  rw [e_L_ahead]
  simp (disch := first | exact nl_i | exact nl_r | exact nl_n | exact Nat.le_of_ble_eq_true rfl | rfl | assumption | omega) only [s_L_ahead_0, s_L_ahead_1, s_L_ahead_2, s_L_ahead_3, s_L_ahead_4, s_L_ahead_5, s_L_ahead_8, s_L_ahead_9, s_L_ahead_10, s_L_ahead_15, s_L_ahead_16, s_L_ahead_17, s_L_ahead_18, h, sm_k2_ok, sm_k2_er, sm_tl_s, sm_tl_n, sm_gt, q_ip, q_in, List.set_cons_zero, List.set_cons_succ]
  try rfl
theorem w_readyAfter {a1 : Int32} (h : F_X9_readyAfter (V, o) [.inr (.inr (9, 0, 0)), .inl a1] = some ((V1, o1), .ok (some (.inl v)))) : F_L_readyAfter (V, o) [.inr (.inr (9, 0, 0)), .inl a1, .inr (.inr (60, 0, 0))] = some ((V1, v.toInt64), .ok (some (.inl 0))) := by
  rw [e_L_readyAfter]
  simp (disch := first | exact nl_i | exact nl_r | exact nl_n | exact Nat.le_of_ble_eq_true rfl | rfl | assumption | omega) only [s_L_readyAfter_0, s_L_readyAfter_1, s_L_readyAfter_2, s_L_readyAfter_3, s_L_readyAfter_4, s_L_readyAfter_7, s_L_readyAfter_8, s_L_readyAfter_9, s_L_readyAfter_13, s_L_readyAfter_14, s_L_readyAfter_15, s_L_readyAfter_16, h, sm_k2_ok, sm_k2_er, sm_tl_s, sm_tl_n, sm_gt, q_ip, q_in, List.set_cons_zero, List.set_cons_succ]
theorem w_readyAfter_3 {a1 : Int32} (h : F_X9_readyAfter (V, o) [.inr (.inr (9, 0, 0)), .inl a1] = some ((V1, o1), .error 3)) : F_L_readyAfter (V, o) [.inr (.inr (9, 0, 0)), .inl a1, .inr (.inr (60, 0, 0))] = some ((V1, o1), .ok (some (.inl 1))) := by
  rw [e_L_readyAfter]
  simp (disch := first | exact nl_i | exact nl_r | exact nl_n | exact Nat.le_of_ble_eq_true rfl | rfl | assumption | omega) only [s_L_readyAfter_0, s_L_readyAfter_1, s_L_readyAfter_2, s_L_readyAfter_3, s_L_readyAfter_4, s_L_readyAfter_7, s_L_readyAfter_8, s_L_readyAfter_9, s_L_readyAfter_13, s_L_readyAfter_14, s_L_readyAfter_15, s_L_readyAfter_16, h, sm_k2_ok, sm_k2_er, sm_tl_s, sm_tl_n, sm_gt, q_ip, q_in, List.set_cons_zero, List.set_cons_succ]
  try rfl
theorem w_bestPlace {a1 : Int32} {a2 : Int32} (h : F_X9_bestPlace (V, o) [.inr (.inr (9, 0, 0)), .inl a1, .inl a2] = some ((V1, o1), .ok (some (.inl v)))) : F_L_bestPlace (V, o) [.inr (.inr (9, 0, 0)), .inl a1, .inl a2, .inr (.inr (60, 0, 0))] = some ((V1, v.toInt64), .ok (some (.inl 0))) := by
  rw [e_L_bestPlace]
  simp (disch := first | exact nl_i | exact nl_r | exact nl_n | exact Nat.le_of_ble_eq_true rfl | rfl | assumption | omega) only [s_L_bestPlace_0, s_L_bestPlace_1, s_L_bestPlace_2, s_L_bestPlace_3, s_L_bestPlace_4, s_L_bestPlace_5, s_L_bestPlace_8, s_L_bestPlace_9, s_L_bestPlace_10, s_L_bestPlace_15, s_L_bestPlace_16, s_L_bestPlace_17, s_L_bestPlace_18, h, sm_k2_ok, sm_k2_er, sm_tl_s, sm_tl_n, sm_gt, q_ip, q_in, List.set_cons_zero, List.set_cons_succ]
theorem w_bestPlace_1 {a1 : Int32} {a2 : Int32} (h : F_X9_bestPlace (V, o) [.inr (.inr (9, 0, 0)), .inl a1, .inl a2] = some ((V1, o1), .error 1)) : F_L_bestPlace (V, o) [.inr (.inr (9, 0, 0)), .inl a1, .inl a2, .inr (.inr (60, 0, 0))] = some ((V1, o1), .ok (some (.inl 1))) := by
  rw [e_L_bestPlace]
  simp (disch := first | exact nl_i | exact nl_r | exact nl_n | exact Nat.le_of_ble_eq_true rfl | rfl | assumption | omega) only [s_L_bestPlace_0, s_L_bestPlace_1, s_L_bestPlace_2, s_L_bestPlace_3, s_L_bestPlace_4, s_L_bestPlace_5, s_L_bestPlace_8, s_L_bestPlace_9, s_L_bestPlace_10, s_L_bestPlace_15, s_L_bestPlace_16, s_L_bestPlace_17, s_L_bestPlace_18, h, sm_k2_ok, sm_k2_er, sm_tl_s, sm_tl_n, sm_gt, q_ip, q_in, List.set_cons_zero, List.set_cons_succ]
  try rfl
theorem w_missing {a1 : Int32} (h : F_X9_missing (V, o) [.inr (.inr (9, 0, 0)), .inl a1] = some ((V1, o1), .ok (some (.inl v)))) : F_L_missing (V, o) [.inr (.inr (9, 0, 0)), .inl a1, .inr (.inr (60, 0, 0))] = some ((V1, v.toInt64), .ok (some (.inl 0))) := by
  rw [e_L_missing]
  simp (disch := first | exact nl_i | exact nl_r | exact nl_n | exact Nat.le_of_ble_eq_true rfl | rfl | assumption | omega) only [s_L_missing_0, s_L_missing_1, s_L_missing_2, s_L_missing_3, s_L_missing_4, s_L_missing_7, s_L_missing_8, s_L_missing_9, s_L_missing_13, s_L_missing_14, s_L_missing_15, s_L_missing_16, h, sm_k2_ok, sm_k2_er, sm_tl_s, sm_tl_n, sm_gt, q_ip, q_in, List.set_cons_zero, List.set_cons_succ]
theorem w_missing_1 {a1 : Int32} (h : F_X9_missing (V, o) [.inr (.inr (9, 0, 0)), .inl a1] = some ((V1, o1), .error 1)) : F_L_missing (V, o) [.inr (.inr (9, 0, 0)), .inl a1, .inr (.inr (60, 0, 0))] = some ((V1, o1), .ok (some (.inl 1))) := by
  rw [e_L_missing]
  simp (disch := first | exact nl_i | exact nl_r | exact nl_n | exact Nat.le_of_ble_eq_true rfl | rfl | assumption | omega) only [s_L_missing_0, s_L_missing_1, s_L_missing_2, s_L_missing_3, s_L_missing_4, s_L_missing_7, s_L_missing_8, s_L_missing_9, s_L_missing_13, s_L_missing_14, s_L_missing_15, s_L_missing_16, h, sm_k2_ok, sm_k2_er, sm_tl_s, sm_tl_n, sm_gt, q_ip, q_in, List.set_cons_zero, List.set_cons_succ]
  try rfl
theorem w_coldest {a1 : Int32} (h : F_X9_coldest (V, o) [.inr (.inr (9, 0, 0)), .inl a1] = some ((V1, o1), .ok (some (.inl v)))) : F_L_coldest (V, o) [.inr (.inr (9, 0, 0)), .inl a1, .inr (.inr (60, 0, 0))] = some ((V1, v.toInt64), .ok (some (.inl 0))) := by
  rw [e_L_coldest]
  simp (disch := first | exact nl_i | exact nl_r | exact nl_n | exact Nat.le_of_ble_eq_true rfl | rfl | assumption | omega) only [s_L_coldest_0, s_L_coldest_1, s_L_coldest_2, s_L_coldest_3, s_L_coldest_4, s_L_coldest_7, s_L_coldest_8, s_L_coldest_9, s_L_coldest_13, s_L_coldest_14, s_L_coldest_15, s_L_coldest_16, h, sm_k2_ok, sm_k2_er, sm_tl_s, sm_tl_n, sm_gt, q_ip, q_in, List.set_cons_zero, List.set_cons_succ]
theorem w_coldest_1 {a1 : Int32} (h : F_X9_coldest (V, o) [.inr (.inr (9, 0, 0)), .inl a1] = some ((V1, o1), .error 1)) : F_L_coldest (V, o) [.inr (.inr (9, 0, 0)), .inl a1, .inr (.inr (60, 0, 0))] = some ((V1, o1), .ok (some (.inl 1))) := by
  rw [e_L_coldest]
  simp (disch := first | exact nl_i | exact nl_r | exact nl_n | exact Nat.le_of_ble_eq_true rfl | rfl | assumption | omega) only [s_L_coldest_0, s_L_coldest_1, s_L_coldest_2, s_L_coldest_3, s_L_coldest_4, s_L_coldest_7, s_L_coldest_8, s_L_coldest_9, s_L_coldest_13, s_L_coldest_14, s_L_coldest_15, s_L_coldest_16, h, sm_k2_ok, sm_k2_er, sm_tl_s, sm_tl_n, sm_gt, q_ip, q_in, List.set_cons_zero, List.set_cons_succ]
  try rfl
theorem w_runScript {a1 : Int32} {a2 : Int64} (h : F_X9_runScript (V, o) [.inr (.inr (9, 0, 0)), .inl a1, .inr (.inl a2)] = some ((V1, o1), .ok (some (.inl v)))) : F_L_runScript (V, o) [.inr (.inr (9, 0, 0)), .inl a1, .inr (.inl a2), .inr (.inr (60, 0, 0))] = some ((V1, v.toInt64), .ok (some (.inl 0))) := by
  rw [e_L_runScript]
  simp (disch := first | exact nl_i | exact nl_r | exact nl_n | exact Nat.le_of_ble_eq_true rfl | rfl | assumption | omega) only [s_L_runScript_0, s_L_runScript_2, s_L_runScript_3, s_L_runScript_4, s_L_runScript_5, s_L_runScript_6, s_L_runScript_9, s_L_runScript_10, s_L_runScript_11, s_L_runScript_16, s_L_runScript_17, s_L_runScript_18, s_L_runScript_19, h, sm_k2_ok, sm_k2_er, sm_tl_s, sm_tl_n, sm_gt, q_ip, q_in, List.set_cons_zero, List.set_cons_succ]
theorem w_runScript_1 {a1 : Int32} {a2 : Int64} (h : F_X9_runScript (V, o) [.inr (.inr (9, 0, 0)), .inl a1, .inr (.inl a2)] = some ((V1, o1), .error 1)) : F_L_runScript (V, o) [.inr (.inr (9, 0, 0)), .inl a1, .inr (.inl a2), .inr (.inr (60, 0, 0))] = some ((V1, o1), .ok (some (.inl 1))) := by
  rw [e_L_runScript]
  simp (disch := first | exact nl_i | exact nl_r | exact nl_n | exact Nat.le_of_ble_eq_true rfl | rfl | assumption | omega) only [s_L_runScript_0, s_L_runScript_2, s_L_runScript_3, s_L_runScript_4, s_L_runScript_5, s_L_runScript_6, s_L_runScript_9, s_L_runScript_10, s_L_runScript_11, s_L_runScript_16, s_L_runScript_17, s_L_runScript_18, s_L_runScript_19, h, sm_k2_ok, sm_k2_er, sm_tl_s, sm_tl_n, sm_gt, q_ip, q_in, List.set_cons_zero, List.set_cons_succ]
  try rfl
theorem w_simulate {a1 : Int64} {a2 : Int32} (h : F_X9_simulate (V, o) [.inr (.inr (9, 0, 0)), .inr (.inl a1), .inl a2] = some ((V1, o1), .ok (some (.inl v)))) : F_L_simulate (V, o) [.inr (.inr (9, 0, 0)), .inr (.inl a1), .inl a2, .inr (.inr (60, 0, 0))] = some ((V1, v.toInt64), .ok (some (.inl 0))) := by
  rw [e_L_simulate]
  simp (disch := first | exact nl_i | exact nl_r | exact nl_n | exact Nat.le_of_ble_eq_true rfl | rfl | assumption | omega) only [s_L_simulate_0, s_L_simulate_2, s_L_simulate_3, s_L_simulate_4, s_L_simulate_5, s_L_simulate_6, s_L_simulate_9, s_L_simulate_10, s_L_simulate_11, s_L_simulate_16, s_L_simulate_17, s_L_simulate_18, s_L_simulate_19, h, sm_k2_ok, sm_k2_er, sm_tl_s, sm_tl_n, sm_gt, q_ip, q_in, List.set_cons_zero, List.set_cons_succ]
theorem w_simulate_1 {a1 : Int64} {a2 : Int32} (h : F_X9_simulate (V, o) [.inr (.inr (9, 0, 0)), .inr (.inl a1), .inl a2] = some ((V1, o1), .error 1)) : F_L_simulate (V, o) [.inr (.inr (9, 0, 0)), .inr (.inl a1), .inl a2, .inr (.inr (60, 0, 0))] = some ((V1, o1), .ok (some (.inl 1))) := by
  rw [e_L_simulate]
  simp (disch := first | exact nl_i | exact nl_r | exact nl_n | exact Nat.le_of_ble_eq_true rfl | rfl | assumption | omega) only [s_L_simulate_0, s_L_simulate_2, s_L_simulate_3, s_L_simulate_4, s_L_simulate_5, s_L_simulate_6, s_L_simulate_9, s_L_simulate_10, s_L_simulate_11, s_L_simulate_16, s_L_simulate_17, s_L_simulate_18, s_L_simulate_19, h, sm_k2_ok, sm_k2_er, sm_tl_s, sm_tl_n, sm_gt, q_ip, q_in, List.set_cons_zero, List.set_cons_succ]
  try rfl
theorem w_save {a1 : Int32} (h : F_X9_save (V, o) [.inr (.inr (9, 0, 0)), .inl a1] = some ((V1, o1), .ok (some (.inl v)))) : F_L_save (V, o) [.inr (.inr (9, 0, 0)), .inl a1, .inr (.inr (60, 0, 0))] = some ((V1, v.toInt64), .ok (some (.inl 0))) := by
  rw [e_L_save]
  simp (disch := first | exact nl_i | exact nl_r | exact nl_n | exact Nat.le_of_ble_eq_true rfl | rfl | assumption | omega) only [s_L_save_0, s_L_save_1, s_L_save_2, s_L_save_3, s_L_save_4, s_L_save_7, s_L_save_8, s_L_save_9, s_L_save_13, s_L_save_14, s_L_save_15, s_L_save_16, h, sm_k2_ok, sm_k2_er, sm_tl_s, sm_tl_n, sm_gt, q_ip, q_in, List.set_cons_zero, List.set_cons_succ]
theorem w_save_3 {a1 : Int32} (h : F_X9_save (V, o) [.inr (.inr (9, 0, 0)), .inl a1] = some ((V1, o1), .error 3)) : F_L_save (V, o) [.inr (.inr (9, 0, 0)), .inl a1, .inr (.inr (60, 0, 0))] = some ((V1, o1), .ok (some (.inl 1))) := by
  rw [e_L_save]
  simp (disch := first | exact nl_i | exact nl_r | exact nl_n | exact Nat.le_of_ble_eq_true rfl | rfl | assumption | omega) only [s_L_save_0, s_L_save_1, s_L_save_2, s_L_save_3, s_L_save_4, s_L_save_7, s_L_save_8, s_L_save_9, s_L_save_13, s_L_save_14, s_L_save_15, s_L_save_16, h, sm_k2_ok, sm_k2_er, sm_tl_s, sm_tl_n, sm_gt, q_ip, q_in, List.set_cons_zero, List.set_cons_succ]
  try rfl
theorem w_restore {a1 : Int32} (h : F_X9_restore (V, o) [.inr (.inr (9, 0, 0)), .inl a1] = some ((V1, o1), .ok (some (.inl v)))) : F_L_restore (V, o) [.inr (.inr (9, 0, 0)), .inl a1, .inr (.inr (60, 0, 0))] = some ((V1, v.toInt64), .ok (some (.inl 0))) := by
  rw [e_L_restore]
  simp (disch := first | exact nl_i | exact nl_r | exact nl_n | exact Nat.le_of_ble_eq_true rfl | rfl | assumption | omega) only [s_L_restore_0, s_L_restore_1, s_L_restore_2, s_L_restore_3, s_L_restore_4, s_L_restore_7, s_L_restore_8, s_L_restore_9, s_L_restore_13, s_L_restore_14, s_L_restore_16, s_L_restore_17, s_L_restore_18, s_L_restore_19, h, sm_k2_ok, sm_k2_er, sm_tl_s, sm_tl_n, sm_gt, q_ip, q_in, List.set_cons_zero, List.set_cons_succ]
theorem w_restore_3 {a1 : Int32} (h : F_X9_restore (V, o) [.inr (.inr (9, 0, 0)), .inl a1] = some ((V1, o1), .error 3)) : F_L_restore (V, o) [.inr (.inr (9, 0, 0)), .inl a1, .inr (.inr (60, 0, 0))] = some ((V1, o1), .ok (some (.inl 1))) := by
  rw [e_L_restore]
  simp (disch := first | exact nl_i | exact nl_r | exact nl_n | exact Nat.le_of_ble_eq_true rfl | rfl | assumption | omega) only [s_L_restore_0, s_L_restore_1, s_L_restore_2, s_L_restore_3, s_L_restore_4, s_L_restore_7, s_L_restore_8, s_L_restore_9, s_L_restore_13, s_L_restore_14, s_L_restore_16, s_L_restore_17, s_L_restore_18, s_L_restore_19, h, sm_k2_ok, sm_k2_er, sm_tl_s, sm_tl_n, sm_gt, q_ip, q_in, List.set_cons_zero, List.set_cons_succ]
  try rfl
theorem w_restore_2 {a1 : Int32} (h : F_X9_restore (V, o) [.inr (.inr (9, 0, 0)), .inl a1] = some ((V1, o1), .error 2)) : F_L_restore (V, o) [.inr (.inr (9, 0, 0)), .inl a1, .inr (.inr (60, 0, 0))] = some ((V1, o1), .ok (some (.inl 2))) := by
  rw [e_L_restore]
  simp (disch := first | exact nl_i | exact nl_r | exact nl_n | exact Nat.le_of_ble_eq_true rfl | rfl | assumption | omega) only [s_L_restore_0, s_L_restore_1, s_L_restore_2, s_L_restore_3, s_L_restore_4, s_L_restore_7, s_L_restore_8, s_L_restore_9, s_L_restore_13, s_L_restore_14, s_L_restore_16, s_L_restore_17, s_L_restore_18, s_L_restore_19, h, sm_k2_ok, sm_k2_er, sm_tl_s, sm_tl_n, sm_gt, q_ip, q_in, List.set_cons_zero, List.set_cons_succ]
  try rfl
end Z45w
