/-! THE LAW'S WRAPPERS: what they hand on -/
section Z45w
variable {V V1 : Nat → Nat → Int32} {o o1 : Int64} {v : Int32}
theorem w_tryAppend {a1 : Int32} (h : F_X9_append (V, o) [.inr (.inr (9, 0, 0)), .inl a1] = some ((V1, o1), .ok (some (.inl v)))) : F_L_tryAppend (V, o) [.inr (.inr (9, 0, 0)), .inl a1] = some ((V1, o1), .ok (some (.inl v))) := by
  rw [e_L_tryAppend]
  simp (disch := first | exact nl_i | exact nl_r | exact nl_n | exact Nat.le_of_ble_eq_true rfl | rfl | assumption | omega) only [s_L_tryAppend_0, s_L_tryAppend_1, s_L_tryAppend_2, s_L_tryAppend_5, s_L_tryAppend_7, s_L_tryAppend_9, s_L_tryAppend_11, s_L_tryAppend_13, h, sm_k2_ok, sm_k2_er, sm_tl_s, sm_tl_n, sm_gt, q_ip, q_in, List.set_cons_zero, List.set_cons_succ]
theorem w_tryAppend_1 {a1 : Int32} (h : F_X9_append (V, o) [.inr (.inr (9, 0, 0)), .inl a1] = some ((V1, o1), .error 1)) : F_L_tryAppend (V, o) [.inr (.inr (9, 0, 0)), .inl a1] = some ((V1, o1), .ok (some (.inl (-99002)))) := by
  rw [e_L_tryAppend]
  simp (disch := first | exact nl_i | exact nl_r | exact nl_n | exact Nat.le_of_ble_eq_true rfl | rfl | assumption | omega) only [s_L_tryAppend_0, s_L_tryAppend_1, s_L_tryAppend_2, s_L_tryAppend_5, s_L_tryAppend_7, s_L_tryAppend_9, s_L_tryAppend_11, s_L_tryAppend_13, h, sm_k2_ok, sm_k2_er, sm_tl_s, sm_tl_n, sm_gt, q_ip, q_in, List.set_cons_zero, List.set_cons_succ]
  try rfl
theorem w_tryAppend_2 {a1 : Int32} (h : F_X9_append (V, o) [.inr (.inr (9, 0, 0)), .inl a1] = some ((V1, o1), .error 2)) : F_L_tryAppend (V, o) [.inr (.inr (9, 0, 0)), .inl a1] = some ((V1, o1), .ok (some (.inl (-99003)))) := by
  rw [e_L_tryAppend]
  simp (disch := first | exact nl_i | exact nl_r | exact nl_n | exact Nat.le_of_ble_eq_true rfl | rfl | assumption | omega) only [s_L_tryAppend_0, s_L_tryAppend_1, s_L_tryAppend_2, s_L_tryAppend_5, s_L_tryAppend_7, s_L_tryAppend_9, s_L_tryAppend_11, s_L_tryAppend_13, h, sm_k2_ok, sm_k2_er, sm_tl_s, sm_tl_n, sm_gt, q_ip, q_in, List.set_cons_zero, List.set_cons_succ]
  try rfl
theorem w_tryLoad  (h : F_X9_load (V, o) [.inr (.inr (9, 0, 0))] = some ((V1, o1), .ok (some (.inl v)))) : F_L_tryLoad (V, o) [.inr (.inr (9, 0, 0))] = some ((V1, o1), .ok (some (.inl v))) := by
  rw [e_L_tryLoad]
  simp (disch := first | exact nl_i | exact nl_r | exact nl_n | exact Nat.le_of_ble_eq_true rfl | rfl | assumption | omega) only [s_L_tryLoad_0, s_L_tryLoad_1, s_L_tryLoad_4, s_L_tryLoad_6, s_L_tryLoad_8, h, sm_k2_ok, sm_k2_er, sm_tl_s, sm_tl_n, sm_gt, q_ip, q_in, List.set_cons_zero, List.set_cons_succ]
theorem w_tryLoad_2  (h : F_X9_load (V, o) [.inr (.inr (9, 0, 0))] = some ((V1, o1), .error 2)) : F_L_tryLoad (V, o) [.inr (.inr (9, 0, 0))] = some ((V1, o1), .ok (some (.inl (-99003)))) := by
  rw [e_L_tryLoad]
  simp (disch := first | exact nl_i | exact nl_r | exact nl_n | exact Nat.le_of_ble_eq_true rfl | rfl | assumption | omega) only [s_L_tryLoad_0, s_L_tryLoad_1, s_L_tryLoad_4, s_L_tryLoad_6, s_L_tryLoad_8, h, sm_k2_ok, sm_k2_er, sm_tl_s, sm_tl_n, sm_gt, q_ip, q_in, List.set_cons_zero, List.set_cons_succ]
  try rfl
theorem w_tryAbout {a1 : Int32} (h : F_X9_about (V, o) [.inr (.inr (9, 0, 0)), .inl a1] = some ((V1, o1), .ok (some (.inl v)))) : F_L_tryAbout (V, o) [.inr (.inr (9, 0, 0)), .inl a1] = some ((V1, o1), .ok (some (.inl v))) := by
  rw [e_L_tryAbout]
  simp (disch := first | exact nl_i | exact nl_r | exact nl_n | exact Nat.le_of_ble_eq_true rfl | rfl | assumption | omega) only [s_L_tryAbout_0, s_L_tryAbout_1, s_L_tryAbout_2, s_L_tryAbout_5, s_L_tryAbout_7, s_L_tryAbout_9, h, sm_k2_ok, sm_k2_er, sm_tl_s, sm_tl_n, sm_gt, q_ip, q_in, List.set_cons_zero, List.set_cons_succ]
theorem w_tryAbout_1 {a1 : Int32} (h : F_X9_about (V, o) [.inr (.inr (9, 0, 0)), .inl a1] = some ((V1, o1), .error 1)) : F_L_tryAbout (V, o) [.inr (.inr (9, 0, 0)), .inl a1] = some ((V1, o1), .ok (some (.inl (-99002)))) := by
  rw [e_L_tryAbout]
  simp (disch := first | exact nl_i | exact nl_r | exact nl_n | exact Nat.le_of_ble_eq_true rfl | rfl | assumption | omega) only [s_L_tryAbout_0, s_L_tryAbout_1, s_L_tryAbout_2, s_L_tryAbout_5, s_L_tryAbout_7, s_L_tryAbout_9, h, sm_k2_ok, sm_k2_er, sm_tl_s, sm_tl_n, sm_gt, q_ip, q_in, List.set_cons_zero, List.set_cons_succ]
  try rfl
theorem w_trySlope {a1 : Int32} {a2 : Int32} (h : F_X9_slope (V, o) [.inr (.inr (9, 0, 0)), .inl a1, .inl a2] = some ((V1, o1), .ok (some (.inl v)))) : F_L_trySlope (V, o) [.inr (.inr (9, 0, 0)), .inl a1, .inl a2] = some ((V1, o1), .ok (some (.inl v))) := by
  rw [e_L_trySlope]
  simp (disch := first | exact nl_i | exact nl_r | exact nl_n | exact Nat.le_of_ble_eq_true rfl | rfl | assumption | omega) only [s_L_trySlope_0, s_L_trySlope_1, s_L_trySlope_2, s_L_trySlope_3, s_L_trySlope_6, s_L_trySlope_8, s_L_trySlope_10, s_L_trySlope_12, s_L_trySlope_14, h, sm_k2_ok, sm_k2_er, sm_tl_s, sm_tl_n, sm_gt, q_ip, q_in, List.set_cons_zero, List.set_cons_succ]
theorem w_trySlope_1 {a1 : Int32} {a2 : Int32} (h : F_X9_slope (V, o) [.inr (.inr (9, 0, 0)), .inl a1, .inl a2] = some ((V1, o1), .error 1)) : F_L_trySlope (V, o) [.inr (.inr (9, 0, 0)), .inl a1, .inl a2] = some ((V1, o1), .ok (some (.inl (-99002)))) := by
  rw [e_L_trySlope]
  simp (disch := first | exact nl_i | exact nl_r | exact nl_n | exact Nat.le_of_ble_eq_true rfl | rfl | assumption | omega) only [s_L_trySlope_0, s_L_trySlope_1, s_L_trySlope_2, s_L_trySlope_3, s_L_trySlope_6, s_L_trySlope_8, s_L_trySlope_10, s_L_trySlope_12, s_L_trySlope_14, h, sm_k2_ok, sm_k2_er, sm_tl_s, sm_tl_n, sm_gt, q_ip, q_in, List.set_cons_zero, List.set_cons_succ]
  try rfl
theorem w_trySlope_3 {a1 : Int32} {a2 : Int32} (h : F_X9_slope (V, o) [.inr (.inr (9, 0, 0)), .inl a1, .inl a2] = some ((V1, o1), .error 3)) : F_L_trySlope (V, o) [.inr (.inr (9, 0, 0)), .inl a1, .inl a2] = some ((V1, o1), .ok (some (.inl (-99001)))) := by
  rw [e_L_trySlope]
  simp (disch := first | exact nl_i | exact nl_r | exact nl_n | exact Nat.le_of_ble_eq_true rfl | rfl | assumption | omega) only [s_L_trySlope_0, s_L_trySlope_1, s_L_trySlope_2, s_L_trySlope_3, s_L_trySlope_6, s_L_trySlope_8, s_L_trySlope_10, s_L_trySlope_12, s_L_trySlope_14, h, sm_k2_ok, sm_k2_er, sm_tl_s, sm_tl_n, sm_gt, q_ip, q_in, List.set_cons_zero, List.set_cons_succ]
  try rfl
theorem w_tryGun {a1 : Int32} {a2 : Int32} (h : F_X9_gun (V, o) [.inr (.inr (9, 0, 0)), .inl a1, .inl a2] = some ((V1, o1), .ok (some (.inl v)))) : F_L_tryGun (V, o) [.inr (.inr (9, 0, 0)), .inl a1, .inl a2] = some ((V1, o1), .ok (some (.inl v))) := by
  rw [e_L_tryGun]
  simp (disch := first | exact nl_i | exact nl_r | exact nl_n | exact Nat.le_of_ble_eq_true rfl | rfl | assumption | omega) only [s_L_tryGun_0, s_L_tryGun_1, s_L_tryGun_2, s_L_tryGun_3, s_L_tryGun_6, s_L_tryGun_8, s_L_tryGun_10, s_L_tryGun_12, s_L_tryGun_14, h, sm_k2_ok, sm_k2_er, sm_tl_s, sm_tl_n, sm_gt, q_ip, q_in, List.set_cons_zero, List.set_cons_succ]
theorem w_tryGun_1 {a1 : Int32} {a2 : Int32} (h : F_X9_gun (V, o) [.inr (.inr (9, 0, 0)), .inl a1, .inl a2] = some ((V1, o1), .error 1)) : F_L_tryGun (V, o) [.inr (.inr (9, 0, 0)), .inl a1, .inl a2] = some ((V1, o1), .ok (some (.inl (-99002)))) := by
  rw [e_L_tryGun]
  simp (disch := first | exact nl_i | exact nl_r | exact nl_n | exact Nat.le_of_ble_eq_true rfl | rfl | assumption | omega) only [s_L_tryGun_0, s_L_tryGun_1, s_L_tryGun_2, s_L_tryGun_3, s_L_tryGun_6, s_L_tryGun_8, s_L_tryGun_10, s_L_tryGun_12, s_L_tryGun_14, h, sm_k2_ok, sm_k2_er, sm_tl_s, sm_tl_n, sm_gt, q_ip, q_in, List.set_cons_zero, List.set_cons_succ]
  try rfl
theorem w_tryGun_3 {a1 : Int32} {a2 : Int32} (h : F_X9_gun (V, o) [.inr (.inr (9, 0, 0)), .inl a1, .inl a2] = some ((V1, o1), .error 3)) : F_L_tryGun (V, o) [.inr (.inr (9, 0, 0)), .inl a1, .inl a2] = some ((V1, o1), .ok (some (.inl (-99001)))) := by
  rw [e_L_tryGun]
  simp (disch := first | exact nl_i | exact nl_r | exact nl_n | exact Nat.le_of_ble_eq_true rfl | rfl | assumption | omega) only [s_L_tryGun_0, s_L_tryGun_1, s_L_tryGun_2, s_L_tryGun_3, s_L_tryGun_6, s_L_tryGun_8, s_L_tryGun_10, s_L_tryGun_12, s_L_tryGun_14, h, sm_k2_ok, sm_k2_er, sm_tl_s, sm_tl_n, sm_gt, q_ip, q_in, List.set_cons_zero, List.set_cons_succ]
  try rfl
theorem w_tryAccount {a1 : Int32} (h : F_X9_account (V, o) [.inr (.inr (9, 0, 0)), .inl a1] = some ((V1, o1), .ok (some (.inl v)))) : F_L_tryAccount (V, o) [.inr (.inr (9, 0, 0)), .inl a1] = some ((V1, o1), .ok (some (.inl v))) := by
  rw [e_L_tryAccount]
  simp (disch := first | exact nl_i | exact nl_r | exact nl_n | exact Nat.le_of_ble_eq_true rfl | rfl | assumption | omega) only [s_L_tryAccount_0, s_L_tryAccount_1, s_L_tryAccount_2, s_L_tryAccount_5, s_L_tryAccount_7, s_L_tryAccount_9, h, sm_k2_ok, sm_k2_er, sm_tl_s, sm_tl_n, sm_gt, q_ip, q_in, List.set_cons_zero, List.set_cons_succ]
theorem w_tryAccount_1 {a1 : Int32} (h : F_X9_account (V, o) [.inr (.inr (9, 0, 0)), .inl a1] = some ((V1, o1), .error 1)) : F_L_tryAccount (V, o) [.inr (.inr (9, 0, 0)), .inl a1] = some ((V1, o1), .ok (some (.inl (-99002)))) := by
  rw [e_L_tryAccount]
  simp (disch := first | exact nl_i | exact nl_r | exact nl_n | exact Nat.le_of_ble_eq_true rfl | rfl | assumption | omega) only [s_L_tryAccount_0, s_L_tryAccount_1, s_L_tryAccount_2, s_L_tryAccount_5, s_L_tryAccount_7, s_L_tryAccount_9, h, sm_k2_ok, sm_k2_er, sm_tl_s, sm_tl_n, sm_gt, q_ip, q_in, List.set_cons_zero, List.set_cons_succ]
  try rfl
theorem w_tryBook {a1 : Int32} {a2 : Int32} (h : F_X9_book (V, o) [.inr (.inr (9, 0, 0)), .inl a1, .inl a2] = some ((V1, o1), .ok (some (.inl v)))) : F_L_tryBook (V, o) [.inr (.inr (9, 0, 0)), .inl a1, .inl a2] = some ((V1, o1), .ok (some (.inl v))) := by
  rw [e_L_tryBook]
  simp (disch := first | exact nl_i | exact nl_r | exact nl_n | exact Nat.le_of_ble_eq_true rfl | rfl | assumption | omega) only [s_L_tryBook_0, s_L_tryBook_1, s_L_tryBook_2, s_L_tryBook_3, s_L_tryBook_6, s_L_tryBook_8, s_L_tryBook_10, h, sm_k2_ok, sm_k2_er, sm_tl_s, sm_tl_n, sm_gt, q_ip, q_in, List.set_cons_zero, List.set_cons_succ]
theorem w_tryBook_1 {a1 : Int32} {a2 : Int32} (h : F_X9_book (V, o) [.inr (.inr (9, 0, 0)), .inl a1, .inl a2] = some ((V1, o1), .error 1)) : F_L_tryBook (V, o) [.inr (.inr (9, 0, 0)), .inl a1, .inl a2] = some ((V1, o1), .ok (some (.inl (-99002)))) := by
  rw [e_L_tryBook]
  simp (disch := first | exact nl_i | exact nl_r | exact nl_n | exact Nat.le_of_ble_eq_true rfl | rfl | assumption | omega) only [s_L_tryBook_0, s_L_tryBook_1, s_L_tryBook_2, s_L_tryBook_3, s_L_tryBook_6, s_L_tryBook_8, s_L_tryBook_10, h, sm_k2_ok, sm_k2_er, sm_tl_s, sm_tl_n, sm_gt, q_ip, q_in, List.set_cons_zero, List.set_cons_succ]
  try rfl
theorem w_tryWet {a1 : Int32} (h : F_X9_wet (V, o) [.inr (.inr (9, 0, 0)), .inl a1] = some ((V1, o1), .ok (some (.inl v)))) : F_L_tryWet (V, o) [.inr (.inr (9, 0, 0)), .inl a1] = some ((V1, o1), .ok (some (.inl v))) := by
  rw [e_L_tryWet]
  simp (disch := first | exact nl_i | exact nl_r | exact nl_n | exact Nat.le_of_ble_eq_true rfl | rfl | assumption | omega) only [s_L_tryWet_0, s_L_tryWet_1, s_L_tryWet_2, s_L_tryWet_5, s_L_tryWet_7, s_L_tryWet_9, h, sm_k2_ok, sm_k2_er, sm_tl_s, sm_tl_n, sm_gt, q_ip, q_in, List.set_cons_zero, List.set_cons_succ]
theorem w_tryWet_1 {a1 : Int32} (h : F_X9_wet (V, o) [.inr (.inr (9, 0, 0)), .inl a1] = some ((V1, o1), .error 1)) : F_L_tryWet (V, o) [.inr (.inr (9, 0, 0)), .inl a1] = some ((V1, o1), .ok (some (.inl (-99002)))) := by
  rw [e_L_tryWet]
  simp (disch := first | exact nl_i | exact nl_r | exact nl_n | exact Nat.le_of_ble_eq_true rfl | rfl | assumption | omega) only [s_L_tryWet_0, s_L_tryWet_1, s_L_tryWet_2, s_L_tryWet_5, s_L_tryWet_7, s_L_tryWet_9, h, sm_k2_ok, sm_k2_er, sm_tl_s, sm_tl_n, sm_gt, q_ip, q_in, List.set_cons_zero, List.set_cons_succ]
  try rfl
theorem w_tryPass {a1 : Int32} (h : F_X9_pass (V, o) [.inr (.inr (9, 0, 0)), .inl a1] = some ((V1, o1), .ok (some (.inl v)))) : F_L_tryPass (V, o) [.inr (.inr (9, 0, 0)), .inl a1] = some ((V1, o1), .ok (some (.inl v))) := by
  rw [e_L_tryPass]
  simp (disch := first | exact nl_i | exact nl_r | exact nl_n | exact Nat.le_of_ble_eq_true rfl | rfl | assumption | omega) only [s_L_tryPass_0, s_L_tryPass_1, s_L_tryPass_2, s_L_tryPass_5, s_L_tryPass_7, s_L_tryPass_9, h, sm_k2_ok, sm_k2_er, sm_tl_s, sm_tl_n, sm_gt, q_ip, q_in, List.set_cons_zero, List.set_cons_succ]
theorem w_tryPass_1 {a1 : Int32} (h : F_X9_pass (V, o) [.inr (.inr (9, 0, 0)), .inl a1] = some ((V1, o1), .error 1)) : F_L_tryPass (V, o) [.inr (.inr (9, 0, 0)), .inl a1] = some ((V1, o1), .ok (some (.inl (-99002)))) := by
  rw [e_L_tryPass]
  simp (disch := first | exact nl_i | exact nl_r | exact nl_n | exact Nat.le_of_ble_eq_true rfl | rfl | assumption | omega) only [s_L_tryPass_0, s_L_tryPass_1, s_L_tryPass_2, s_L_tryPass_5, s_L_tryPass_7, s_L_tryPass_9, h, sm_k2_ok, sm_k2_er, sm_tl_s, sm_tl_n, sm_gt, q_ip, q_in, List.set_cons_zero, List.set_cons_succ]
  try rfl
theorem w_trySet {a1 : Int32} {a2 : Int32} (h : F_X9_set (V, o) [.inr (.inr (9, 0, 0)), .inl a1, .inl a2] = some ((V1, o1), .ok (some (.inl v)))) : F_L_trySet (V, o) [.inr (.inr (9, 0, 0)), .inl a1, .inl a2] = some ((V1, o1), .ok (some (.inl v))) := by
  rw [e_L_trySet]
  simp (disch := first | exact nl_i | exact nl_r | exact nl_n | exact Nat.le_of_ble_eq_true rfl | rfl | assumption | omega) only [s_L_trySet_0, s_L_trySet_1, s_L_trySet_2, s_L_trySet_3, s_L_trySet_6, s_L_trySet_8, s_L_trySet_10, h, sm_k2_ok, sm_k2_er, sm_tl_s, sm_tl_n, sm_gt, q_ip, q_in, List.set_cons_zero, List.set_cons_succ]
theorem w_trySet_1 {a1 : Int32} {a2 : Int32} (h : F_X9_set (V, o) [.inr (.inr (9, 0, 0)), .inl a1, .inl a2] = some ((V1, o1), .error 1)) : F_L_trySet (V, o) [.inr (.inr (9, 0, 0)), .inl a1, .inl a2] = some ((V1, o1), .ok (some (.inl (-99002)))) := by
  rw [e_L_trySet]
  simp (disch := first | exact nl_i | exact nl_r | exact nl_n | exact Nat.le_of_ble_eq_true rfl | rfl | assumption | omega) only [s_L_trySet_0, s_L_trySet_1, s_L_trySet_2, s_L_trySet_3, s_L_trySet_6, s_L_trySet_8, s_L_trySet_10, h, sm_k2_ok, sm_k2_er, sm_tl_s, sm_tl_n, sm_gt, q_ip, q_in, List.set_cons_zero, List.set_cons_succ]
  try rfl
theorem w_tryFill {a1 : Int32} (h : F_X9_fill (V, o) [.inr (.inr (9, 0, 0)), .inl a1] = some ((V1, o1), .ok (some (.inl v)))) : F_L_tryFill (V, o) [.inr (.inr (9, 0, 0)), .inl a1] = some ((V1, o1), .ok (some (.inl v))) := by
  rw [e_L_tryFill]
  simp (disch := first | exact nl_i | exact nl_r | exact nl_n | exact Nat.le_of_ble_eq_true rfl | rfl | assumption | omega) only [s_L_tryFill_0, s_L_tryFill_1, s_L_tryFill_2, s_L_tryFill_5, s_L_tryFill_7, s_L_tryFill_9, h, sm_k2_ok, sm_k2_er, sm_tl_s, sm_tl_n, sm_gt, q_ip, q_in, List.set_cons_zero, List.set_cons_succ]
theorem w_tryFill_1 {a1 : Int32} (h : F_X9_fill (V, o) [.inr (.inr (9, 0, 0)), .inl a1] = some ((V1, o1), .error 1)) : F_L_tryFill (V, o) [.inr (.inr (9, 0, 0)), .inl a1] = some ((V1, o1), .ok (some (.inl (-99002)))) := by
  rw [e_L_tryFill]
  simp (disch := first | exact nl_i | exact nl_r | exact nl_n | exact Nat.le_of_ble_eq_true rfl | rfl | assumption | omega) only [s_L_tryFill_0, s_L_tryFill_1, s_L_tryFill_2, s_L_tryFill_5, s_L_tryFill_7, s_L_tryFill_9, h, sm_k2_ok, sm_k2_er, sm_tl_s, sm_tl_n, sm_gt, q_ip, q_in, List.set_cons_zero, List.set_cons_succ]
  try rfl
theorem w_trySetWet {a1 : Int32} {a2 : Int32} (h : F_X9_setWet (V, o) [.inr (.inr (9, 0, 0)), .inl a1, .inl a2] = some ((V1, o1), .ok (some (.inl v)))) : F_L_trySetWet (V, o) [.inr (.inr (9, 0, 0)), .inl a1, .inl a2] = some ((V1, o1), .ok (some (.inl v))) := by
  rw [e_L_trySetWet]
  simp (disch := first | exact nl_i | exact nl_r | exact nl_n | exact Nat.le_of_ble_eq_true rfl | rfl | assumption | omega) only [s_L_trySetWet_0, s_L_trySetWet_1, s_L_trySetWet_2, s_L_trySetWet_3, s_L_trySetWet_6, s_L_trySetWet_8, s_L_trySetWet_10, h, sm_k2_ok, sm_k2_er, sm_tl_s, sm_tl_n, sm_gt, q_ip, q_in, List.set_cons_zero, List.set_cons_succ]
theorem w_trySetWet_1 {a1 : Int32} {a2 : Int32} (h : F_X9_setWet (V, o) [.inr (.inr (9, 0, 0)), .inl a1, .inl a2] = some ((V1, o1), .error 1)) : F_L_trySetWet (V, o) [.inr (.inr (9, 0, 0)), .inl a1, .inl a2] = some ((V1, o1), .ok (some (.inl (-99002)))) := by
  rw [e_L_trySetWet]
  simp (disch := first | exact nl_i | exact nl_r | exact nl_n | exact Nat.le_of_ble_eq_true rfl | rfl | assumption | omega) only [s_L_trySetWet_0, s_L_trySetWet_1, s_L_trySetWet_2, s_L_trySetWet_3, s_L_trySetWet_6, s_L_trySetWet_8, s_L_trySetWet_10, h, sm_k2_ok, sm_k2_er, sm_tl_s, sm_tl_n, sm_gt, q_ip, q_in, List.set_cons_zero, List.set_cons_succ]
  try rfl
theorem w_trySetSlope {a1 : Int32} {a2 : Int32} {a3 : Int32} (h : F_X9_setSlope (V, o) [.inr (.inr (9, 0, 0)), .inl a1, .inl a2, .inl a3] = some ((V1, o1), .ok (some (.inl v)))) : F_L_trySetSlope (V, o) [.inr (.inr (9, 0, 0)), .inl a1, .inl a2, .inl a3] = some ((V1, o1), .ok (some (.inl v))) := by
  rw [e_L_trySetSlope]
  simp (disch := first | exact nl_i | exact nl_r | exact nl_n | exact Nat.le_of_ble_eq_true rfl | rfl | assumption | omega) only [s_L_trySetSlope_0, s_L_trySetSlope_1, s_L_trySetSlope_2, s_L_trySetSlope_3, s_L_trySetSlope_4, s_L_trySetSlope_7, s_L_trySetSlope_10, s_L_trySetSlope_12, s_L_trySetSlope_15, s_L_trySetSlope_17, h, sm_k2_ok, sm_k2_er, sm_tl_s, sm_tl_n, sm_gt, q_ip, q_in, List.set_cons_zero, List.set_cons_succ]
theorem w_trySetSlope_1 {a1 : Int32} {a2 : Int32} {a3 : Int32} (h : F_X9_setSlope (V, o) [.inr (.inr (9, 0, 0)), .inl a1, .inl a2, .inl a3] = some ((V1, o1), .error 1)) : F_L_trySetSlope (V, o) [.inr (.inr (9, 0, 0)), .inl a1, .inl a2, .inl a3] = some ((V1, o1), .ok (some (.inl (-99002)))) := by
  rw [e_L_trySetSlope]
  simp (disch := first | exact nl_i | exact nl_r | exact nl_n | exact Nat.le_of_ble_eq_true rfl | rfl | assumption | omega) only [s_L_trySetSlope_0, s_L_trySetSlope_1, s_L_trySetSlope_2, s_L_trySetSlope_3, s_L_trySetSlope_4, s_L_trySetSlope_7, s_L_trySetSlope_10, s_L_trySetSlope_12, s_L_trySetSlope_15, s_L_trySetSlope_17, h, sm_k2_ok, sm_k2_er, sm_tl_s, sm_tl_n, sm_gt, q_ip, q_in, List.set_cons_zero, List.set_cons_succ]
  try rfl
theorem w_trySetSlope_3 {a1 : Int32} {a2 : Int32} {a3 : Int32} (h : F_X9_setSlope (V, o) [.inr (.inr (9, 0, 0)), .inl a1, .inl a2, .inl a3] = some ((V1, o1), .error 3)) : F_L_trySetSlope (V, o) [.inr (.inr (9, 0, 0)), .inl a1, .inl a2, .inl a3] = some ((V1, o1), .ok (some (.inl (-99001)))) := by
  rw [e_L_trySetSlope]
  simp (disch := first | exact nl_i | exact nl_r | exact nl_n | exact Nat.le_of_ble_eq_true rfl | rfl | assumption | omega) only [s_L_trySetSlope_0, s_L_trySetSlope_1, s_L_trySetSlope_2, s_L_trySetSlope_3, s_L_trySetSlope_4, s_L_trySetSlope_7, s_L_trySetSlope_10, s_L_trySetSlope_12, s_L_trySetSlope_15, s_L_trySetSlope_17, h, sm_k2_ok, sm_k2_er, sm_tl_s, sm_tl_n, sm_gt, q_ip, q_in, List.set_cons_zero, List.set_cons_succ]
  try rfl
theorem w_tryAddSlope {a1 : Int32} {a2 : Int32} {a3 : Int32} (h : F_X9_addSlope (V, o) [.inr (.inr (9, 0, 0)), .inl a1, .inl a2, .inl a3] = some ((V1, o1), .ok (some (.inl v)))) : F_L_tryAddSlope (V, o) [.inr (.inr (9, 0, 0)), .inl a1, .inl a2, .inl a3] = some ((V1, o1), .ok (some (.inl v))) := by
  rw [e_L_tryAddSlope]
  simp (disch := first | exact nl_i | exact nl_r | exact nl_n | exact Nat.le_of_ble_eq_true rfl | rfl | assumption | omega) only [s_L_tryAddSlope_0, s_L_tryAddSlope_1, s_L_tryAddSlope_2, s_L_tryAddSlope_3, s_L_tryAddSlope_4, s_L_tryAddSlope_7, s_L_tryAddSlope_10, s_L_tryAddSlope_12, s_L_tryAddSlope_15, s_L_tryAddSlope_17, h, sm_k2_ok, sm_k2_er, sm_tl_s, sm_tl_n, sm_gt, q_ip, q_in, List.set_cons_zero, List.set_cons_succ]
theorem w_tryAddSlope_1 {a1 : Int32} {a2 : Int32} {a3 : Int32} (h : F_X9_addSlope (V, o) [.inr (.inr (9, 0, 0)), .inl a1, .inl a2, .inl a3] = some ((V1, o1), .error 1)) : F_L_tryAddSlope (V, o) [.inr (.inr (9, 0, 0)), .inl a1, .inl a2, .inl a3] = some ((V1, o1), .ok (some (.inl (-99002)))) := by
  rw [e_L_tryAddSlope]
  simp (disch := first | exact nl_i | exact nl_r | exact nl_n | exact Nat.le_of_ble_eq_true rfl | rfl | assumption | omega) only [s_L_tryAddSlope_0, s_L_tryAddSlope_1, s_L_tryAddSlope_2, s_L_tryAddSlope_3, s_L_tryAddSlope_4, s_L_tryAddSlope_7, s_L_tryAddSlope_10, s_L_tryAddSlope_12, s_L_tryAddSlope_15, s_L_tryAddSlope_17, h, sm_k2_ok, sm_k2_er, sm_tl_s, sm_tl_n, sm_gt, q_ip, q_in, List.set_cons_zero, List.set_cons_succ]
  try rfl
theorem w_tryAddSlope_2 {a1 : Int32} {a2 : Int32} {a3 : Int32} (h : F_X9_addSlope (V, o) [.inr (.inr (9, 0, 0)), .inl a1, .inl a2, .inl a3] = some ((V1, o1), .error 2)) : F_L_tryAddSlope (V, o) [.inr (.inr (9, 0, 0)), .inl a1, .inl a2, .inl a3] = some ((V1, o1), .ok (some (.inl (-99003)))) := by
  rw [e_L_tryAddSlope]
  simp (disch := first | exact nl_i | exact nl_r | exact nl_n | exact Nat.le_of_ble_eq_true rfl | rfl | assumption | omega) only [s_L_tryAddSlope_0, s_L_tryAddSlope_1, s_L_tryAddSlope_2, s_L_tryAddSlope_3, s_L_tryAddSlope_4, s_L_tryAddSlope_7, s_L_tryAddSlope_10, s_L_tryAddSlope_12, s_L_tryAddSlope_15, s_L_tryAddSlope_17, h, sm_k2_ok, sm_k2_er, sm_tl_s, sm_tl_n, sm_gt, q_ip, q_in, List.set_cons_zero, List.set_cons_succ]
  try rfl
theorem w_tryRemoveSlope {a1 : Int32} (h : F_X9_removeSlope (V, o) [.inr (.inr (9, 0, 0)), .inl a1] = some ((V1, o1), .ok (some (.inl v)))) : F_L_tryRemoveSlope (V, o) [.inr (.inr (9, 0, 0)), .inl a1] = some ((V1, o1), .ok (some (.inl v))) := by
  rw [e_L_tryRemoveSlope]
  simp (disch := first | exact nl_i | exact nl_r | exact nl_n | exact Nat.le_of_ble_eq_true rfl | rfl | assumption | omega) only [s_L_tryRemoveSlope_0, s_L_tryRemoveSlope_1, s_L_tryRemoveSlope_2, s_L_tryRemoveSlope_5, s_L_tryRemoveSlope_7, s_L_tryRemoveSlope_9, s_L_tryRemoveSlope_11, s_L_tryRemoveSlope_13, h, sm_k2_ok, sm_k2_er, sm_tl_s, sm_tl_n, sm_gt, q_ip, q_in, List.set_cons_zero, List.set_cons_succ]
theorem w_tryRemoveSlope_2 {a1 : Int32} (h : F_X9_removeSlope (V, o) [.inr (.inr (9, 0, 0)), .inl a1] = some ((V1, o1), .error 2)) : F_L_tryRemoveSlope (V, o) [.inr (.inr (9, 0, 0)), .inl a1] = some ((V1, o1), .ok (some (.inl (-99003)))) := by
  rw [e_L_tryRemoveSlope]
  simp (disch := first | exact nl_i | exact nl_r | exact nl_n | exact Nat.le_of_ble_eq_true rfl | rfl | assumption | omega) only [s_L_tryRemoveSlope_0, s_L_tryRemoveSlope_1, s_L_tryRemoveSlope_2, s_L_tryRemoveSlope_5, s_L_tryRemoveSlope_7, s_L_tryRemoveSlope_9, s_L_tryRemoveSlope_11, s_L_tryRemoveSlope_13, h, sm_k2_ok, sm_k2_er, sm_tl_s, sm_tl_n, sm_gt, q_ip, q_in, List.set_cons_zero, List.set_cons_succ]
  try rfl
theorem w_tryRemoveSlope_3 {a1 : Int32} (h : F_X9_removeSlope (V, o) [.inr (.inr (9, 0, 0)), .inl a1] = some ((V1, o1), .error 3)) : F_L_tryRemoveSlope (V, o) [.inr (.inr (9, 0, 0)), .inl a1] = some ((V1, o1), .ok (some (.inl (-99001)))) := by
  rw [e_L_tryRemoveSlope]
  simp (disch := first | exact nl_i | exact nl_r | exact nl_n | exact Nat.le_of_ble_eq_true rfl | rfl | assumption | omega) only [s_L_tryRemoveSlope_0, s_L_tryRemoveSlope_1, s_L_tryRemoveSlope_2, s_L_tryRemoveSlope_5, s_L_tryRemoveSlope_7, s_L_tryRemoveSlope_9, s_L_tryRemoveSlope_11, s_L_tryRemoveSlope_13, h, sm_k2_ok, sm_k2_er, sm_tl_s, sm_tl_n, sm_gt, q_ip, q_in, List.set_cons_zero, List.set_cons_succ]
  try rfl
theorem w_tryAddGun {a1 : Int32} {a2 : Int32} (h : F_X9_addGun (V, o) [.inr (.inr (9, 0, 0)), .inl a1, .inl a2] = some ((V1, o1), .ok (some (.inl v)))) : F_L_tryAddGun (V, o) [.inr (.inr (9, 0, 0)), .inl a1, .inl a2] = some ((V1, o1), .ok (some (.inl v))) := by
  rw [e_L_tryAddGun]
  simp (disch := first | exact nl_i | exact nl_r | exact nl_n | exact Nat.le_of_ble_eq_true rfl | rfl | assumption | omega) only [s_L_tryAddGun_0, s_L_tryAddGun_1, s_L_tryAddGun_2, s_L_tryAddGun_3, s_L_tryAddGun_6, s_L_tryAddGun_8, s_L_tryAddGun_10, s_L_tryAddGun_12, s_L_tryAddGun_14, s_L_tryAddGun_16, s_L_tryAddGun_18, h, sm_k2_ok, sm_k2_er, sm_tl_s, sm_tl_n, sm_gt, q_ip, q_in, List.set_cons_zero, List.set_cons_succ]
theorem w_tryAddGun_1 {a1 : Int32} {a2 : Int32} (h : F_X9_addGun (V, o) [.inr (.inr (9, 0, 0)), .inl a1, .inl a2] = some ((V1, o1), .error 1)) : F_L_tryAddGun (V, o) [.inr (.inr (9, 0, 0)), .inl a1, .inl a2] = some ((V1, o1), .ok (some (.inl (-99002)))) := by
  rw [e_L_tryAddGun]
  simp (disch := first | exact nl_i | exact nl_r | exact nl_n | exact Nat.le_of_ble_eq_true rfl | rfl | assumption | omega) only [s_L_tryAddGun_0, s_L_tryAddGun_1, s_L_tryAddGun_2, s_L_tryAddGun_3, s_L_tryAddGun_6, s_L_tryAddGun_8, s_L_tryAddGun_10, s_L_tryAddGun_12, s_L_tryAddGun_14, s_L_tryAddGun_16, s_L_tryAddGun_18, h, sm_k2_ok, sm_k2_er, sm_tl_s, sm_tl_n, sm_gt, q_ip, q_in, List.set_cons_zero, List.set_cons_succ]
  try rfl
theorem w_tryAddGun_2 {a1 : Int32} {a2 : Int32} (h : F_X9_addGun (V, o) [.inr (.inr (9, 0, 0)), .inl a1, .inl a2] = some ((V1, o1), .error 2)) : F_L_tryAddGun (V, o) [.inr (.inr (9, 0, 0)), .inl a1, .inl a2] = some ((V1, o1), .ok (some (.inl (-99003)))) := by
  rw [e_L_tryAddGun]
  simp (disch := first | exact nl_i | exact nl_r | exact nl_n | exact Nat.le_of_ble_eq_true rfl | rfl | assumption | omega) only [s_L_tryAddGun_0, s_L_tryAddGun_1, s_L_tryAddGun_2, s_L_tryAddGun_3, s_L_tryAddGun_6, s_L_tryAddGun_8, s_L_tryAddGun_10, s_L_tryAddGun_12, s_L_tryAddGun_14, s_L_tryAddGun_16, s_L_tryAddGun_18, h, sm_k2_ok, sm_k2_er, sm_tl_s, sm_tl_n, sm_gt, q_ip, q_in, List.set_cons_zero, List.set_cons_succ]
  try rfl
theorem w_tryAddGun_3 {a1 : Int32} {a2 : Int32} (h : F_X9_addGun (V, o) [.inr (.inr (9, 0, 0)), .inl a1, .inl a2] = some ((V1, o1), .error 3)) : F_L_tryAddGun (V, o) [.inr (.inr (9, 0, 0)), .inl a1, .inl a2] = some ((V1, o1), .ok (some (.inl (-99001)))) := by
  rw [e_L_tryAddGun]
  simp (disch := first | exact nl_i | exact nl_r | exact nl_n | exact Nat.le_of_ble_eq_true rfl | rfl | assumption | omega) only [s_L_tryAddGun_0, s_L_tryAddGun_1, s_L_tryAddGun_2, s_L_tryAddGun_3, s_L_tryAddGun_6, s_L_tryAddGun_8, s_L_tryAddGun_10, s_L_tryAddGun_12, s_L_tryAddGun_14, s_L_tryAddGun_16, s_L_tryAddGun_18, h, sm_k2_ok, sm_k2_er, sm_tl_s, sm_tl_n, sm_gt, q_ip, q_in, List.set_cons_zero, List.set_cons_succ]
  try rfl
theorem w_tryBring {a1 : Int32} {a2 : Int32} (h : F_X9_bring (V, o) [.inr (.inr (9, 0, 0)), .inl a1, .inl a2] = some ((V1, o1), .ok (some (.inl v)))) : F_L_tryBring (V, o) [.inr (.inr (9, 0, 0)), .inl a1, .inl a2] = some ((V1, o1), .ok (some (.inl v))) := by
  rw [e_L_tryBring]
  simp (disch := first | exact nl_i | exact nl_r | exact nl_n | exact Nat.le_of_ble_eq_true rfl | rfl | assumption | omega) only [s_L_tryBring_0, s_L_tryBring_1, s_L_tryBring_2, s_L_tryBring_3, s_L_tryBring_6, s_L_tryBring_8, s_L_tryBring_10, h, sm_k2_ok, sm_k2_er, sm_tl_s, sm_tl_n, sm_gt, q_ip, q_in, List.set_cons_zero, List.set_cons_succ]
theorem w_tryBring_3 {a1 : Int32} {a2 : Int32} (h : F_X9_bring (V, o) [.inr (.inr (9, 0, 0)), .inl a1, .inl a2] = some ((V1, o1), .error 3)) : F_L_tryBring (V, o) [.inr (.inr (9, 0, 0)), .inl a1, .inl a2] = some ((V1, o1), .ok (some (.inl (-99001)))) := by
  rw [e_L_tryBring]
  simp (disch := first | exact nl_i | exact nl_r | exact nl_n | exact Nat.le_of_ble_eq_true rfl | rfl | assumption | omega) only [s_L_tryBring_0, s_L_tryBring_1, s_L_tryBring_2, s_L_tryBring_3, s_L_tryBring_6, s_L_tryBring_8, s_L_tryBring_10, h, sm_k2_ok, sm_k2_er, sm_tl_s, sm_tl_n, sm_gt, q_ip, q_in, List.set_cons_zero, List.set_cons_succ]
  try rfl
theorem w_tryAllow {a1 : Int32} {a2 : Int32} (h : F_X9_allow (V, o) [.inr (.inr (9, 0, 0)), .inl a1, .inl a2] = some ((V1, o1), .ok (some (.inl v)))) : F_L_tryAllow (V, o) [.inr (.inr (9, 0, 0)), .inl a1, .inl a2] = some ((V1, o1), .ok (some (.inl v))) := by
  rw [e_L_tryAllow]
  simp (disch := first | exact nl_i | exact nl_r | exact nl_n | exact Nat.le_of_ble_eq_true rfl | rfl | assumption | omega) only [s_L_tryAllow_0, s_L_tryAllow_1, s_L_tryAllow_2, s_L_tryAllow_3, s_L_tryAllow_6, s_L_tryAllow_8, s_L_tryAllow_10, h, sm_k2_ok, sm_k2_er, sm_tl_s, sm_tl_n, sm_gt, q_ip, q_in, List.set_cons_zero, List.set_cons_succ]
theorem w_tryAllow_3 {a1 : Int32} {a2 : Int32} (h : F_X9_allow (V, o) [.inr (.inr (9, 0, 0)), .inl a1, .inl a2] = some ((V1, o1), .error 3)) : F_L_tryAllow (V, o) [.inr (.inr (9, 0, 0)), .inl a1, .inl a2] = some ((V1, o1), .ok (some (.inl (-99001)))) := by
  rw [e_L_tryAllow]
  simp (disch := first | exact nl_i | exact nl_r | exact nl_n | exact Nat.le_of_ble_eq_true rfl | rfl | assumption | omega) only [s_L_tryAllow_0, s_L_tryAllow_1, s_L_tryAllow_2, s_L_tryAllow_3, s_L_tryAllow_6, s_L_tryAllow_8, s_L_tryAllow_10, h, sm_k2_ok, sm_k2_er, sm_tl_s, sm_tl_n, sm_gt, q_ip, q_in, List.set_cons_zero, List.set_cons_succ]
  try rfl
theorem w_tryUndo  (h : F_X9_undo (V, o) [.inr (.inr (9, 0, 0))] = some ((V1, o1), .ok (some (.inl v)))) : F_L_tryUndo (V, o) [.inr (.inr (9, 0, 0))] = some ((V1, o1), .ok (some (.inl v))) := by
  rw [e_L_tryUndo]
  simp (disch := first | exact nl_i | exact nl_r | exact nl_n | exact Nat.le_of_ble_eq_true rfl | rfl | assumption | omega) only [s_L_tryUndo_0, s_L_tryUndo_1, s_L_tryUndo_4, s_L_tryUndo_6, s_L_tryUndo_8, h, sm_k2_ok, sm_k2_er, sm_tl_s, sm_tl_n, sm_gt, q_ip, q_in, List.set_cons_zero, List.set_cons_succ]
theorem w_tryUndo_2  (h : F_X9_undo (V, o) [.inr (.inr (9, 0, 0))] = some ((V1, o1), .error 2)) : F_L_tryUndo (V, o) [.inr (.inr (9, 0, 0))] = some ((V1, o1), .ok (some (.inl (-99003)))) := by
  rw [e_L_tryUndo]
  simp (disch := first | exact nl_i | exact nl_r | exact nl_n | exact Nat.le_of_ble_eq_true rfl | rfl | assumption | omega) only [s_L_tryUndo_0, s_L_tryUndo_1, s_L_tryUndo_4, s_L_tryUndo_6, s_L_tryUndo_8, h, sm_k2_ok, sm_k2_er, sm_tl_s, sm_tl_n, sm_gt, q_ip, q_in, List.set_cons_zero, List.set_cons_succ]
  try rfl
theorem w_tryWhyNot {a1 : Int32} (h : F_X9_whyNot (V, o) [.inr (.inr (9, 0, 0)), .inl a1] = some ((V1, o1), .ok (some (.inl v)))) : F_L_tryWhyNot (V, o) [.inr (.inr (9, 0, 0)), .inl a1] = some ((V1, o1), .ok (some (.inl v))) := by
  rw [e_L_tryWhyNot]
  simp (disch := first | exact nl_i | exact nl_r | exact nl_n | exact Nat.le_of_ble_eq_true rfl | rfl | assumption | omega) only [s_L_tryWhyNot_0, s_L_tryWhyNot_1, s_L_tryWhyNot_2, s_L_tryWhyNot_5, s_L_tryWhyNot_7, s_L_tryWhyNot_9, h, sm_k2_ok, sm_k2_er, sm_tl_s, sm_tl_n, sm_gt, q_ip, q_in, List.set_cons_zero, List.set_cons_succ]
theorem w_tryWhyNot_3 {a1 : Int32} (h : F_X9_whyNot (V, o) [.inr (.inr (9, 0, 0)), .inl a1] = some ((V1, o1), .error 3)) : F_L_tryWhyNot (V, o) [.inr (.inr (9, 0, 0)), .inl a1] = some ((V1, o1), .ok (some (.inl (-99001)))) := by
  rw [e_L_tryWhyNot]
  simp (disch := first | exact nl_i | exact nl_r | exact nl_n | exact Nat.le_of_ble_eq_true rfl | rfl | assumption | omega) only [s_L_tryWhyNot_0, s_L_tryWhyNot_1, s_L_tryWhyNot_2, s_L_tryWhyNot_5, s_L_tryWhyNot_7, s_L_tryWhyNot_9, h, sm_k2_ok, sm_k2_er, sm_tl_s, sm_tl_n, sm_gt, q_ip, q_in, List.set_cons_zero, List.set_cons_succ]
  try rfl
theorem w_tryOrder {a1 : Int32} (h : F_X9_order (V, o) [.inr (.inr (9, 0, 0)), .inl a1] = some ((V1, o1), .ok (some (.inl v)))) : F_L_tryOrder (V, o) [.inr (.inr (9, 0, 0)), .inl a1] = some ((V1, o1), .ok (some (.inl v))) := by
  rw [e_L_tryOrder]
  simp (disch := first | exact nl_i | exact nl_r | exact nl_n | exact Nat.le_of_ble_eq_true rfl | rfl | assumption | omega) only [s_L_tryOrder_0, s_L_tryOrder_1, s_L_tryOrder_2, s_L_tryOrder_5, s_L_tryOrder_7, s_L_tryOrder_9, h, sm_k2_ok, sm_k2_er, sm_tl_s, sm_tl_n, sm_gt, q_ip, q_in, List.set_cons_zero, List.set_cons_succ]
theorem w_tryOrder_1 {a1 : Int32} (h : F_X9_order (V, o) [.inr (.inr (9, 0, 0)), .inl a1] = some ((V1, o1), .error 1)) : F_L_tryOrder (V, o) [.inr (.inr (9, 0, 0)), .inl a1] = some ((V1, o1), .ok (some (.inl (-99002)))) := by
  rw [e_L_tryOrder]
  simp (disch := first | exact nl_i | exact nl_r | exact nl_n | exact Nat.le_of_ble_eq_true rfl | rfl | assumption | omega) only [s_L_tryOrder_0, s_L_tryOrder_1, s_L_tryOrder_2, s_L_tryOrder_5, s_L_tryOrder_7, s_L_tryOrder_9, h, sm_k2_ok, sm_k2_er, sm_tl_s, sm_tl_n, sm_gt, q_ip, q_in, List.set_cons_zero, List.set_cons_succ]
  try rfl
theorem w_tryAhead {a1 : Int32} {a2 : Int32} (h : F_X9_ahead (V, o) [.inr (.inr (9, 0, 0)), .inl a1, .inl a2] = some ((V1, o1), .ok (some (.inl v)))) : F_L_tryAhead (V, o) [.inr (.inr (9, 0, 0)), .inl a1, .inl a2] = some ((V1, o1), .ok (some (.inl v))) := by
  rw [e_L_tryAhead]
  simp (disch := first | exact nl_i | exact nl_r | exact nl_n | exact Nat.le_of_ble_eq_true rfl | rfl | assumption | omega) only [s_L_tryAhead_0, s_L_tryAhead_1, s_L_tryAhead_2, s_L_tryAhead_3, s_L_tryAhead_6, s_L_tryAhead_8, s_L_tryAhead_10, h, sm_k2_ok, sm_k2_er, sm_tl_s, sm_tl_n, sm_gt, q_ip, q_in, List.set_cons_zero, List.set_cons_succ]
theorem w_tryAhead_1 {a1 : Int32} {a2 : Int32} (h : F_X9_ahead (V, o) [.inr (.inr (9, 0, 0)), .inl a1, .inl a2] = some ((V1, o1), .error 1)) : F_L_tryAhead (V, o) [.inr (.inr (9, 0, 0)), .inl a1, .inl a2] = some ((V1, o1), .ok (some (.inl (-99002)))) := by
  rw [e_L_tryAhead]
  simp (disch := first | exact nl_i | exact nl_r | exact nl_n | exact Nat.le_of_ble_eq_true rfl | rfl | assumption | omega) only [s_L_tryAhead_0, s_L_tryAhead_1, s_L_tryAhead_2, s_L_tryAhead_3, s_L_tryAhead_6, s_L_tryAhead_8, s_L_tryAhead_10, h, sm_k2_ok, sm_k2_er, sm_tl_s, sm_tl_n, sm_gt, q_ip, q_in, List.set_cons_zero, List.set_cons_succ]
  try rfl
theorem w_tryReadyAfter {a1 : Int32} (h : F_X9_readyAfter (V, o) [.inr (.inr (9, 0, 0)), .inl a1] = some ((V1, o1), .ok (some (.inl v)))) : F_L_tryReadyAfter (V, o) [.inr (.inr (9, 0, 0)), .inl a1] = some ((V1, o1), .ok (some (.inl v))) := by
  rw [e_L_tryReadyAfter]
  simp (disch := first | exact nl_i | exact nl_r | exact nl_n | exact Nat.le_of_ble_eq_true rfl | rfl | assumption | omega) only [s_L_tryReadyAfter_0, s_L_tryReadyAfter_1, s_L_tryReadyAfter_2, s_L_tryReadyAfter_5, s_L_tryReadyAfter_7, s_L_tryReadyAfter_9, h, sm_k2_ok, sm_k2_er, sm_tl_s, sm_tl_n, sm_gt, q_ip, q_in, List.set_cons_zero, List.set_cons_succ]
theorem w_tryReadyAfter_3 {a1 : Int32} (h : F_X9_readyAfter (V, o) [.inr (.inr (9, 0, 0)), .inl a1] = some ((V1, o1), .error 3)) : F_L_tryReadyAfter (V, o) [.inr (.inr (9, 0, 0)), .inl a1] = some ((V1, o1), .ok (some (.inl (-99001)))) := by
  rw [e_L_tryReadyAfter]
  simp (disch := first | exact nl_i | exact nl_r | exact nl_n | exact Nat.le_of_ble_eq_true rfl | rfl | assumption | omega) only [s_L_tryReadyAfter_0, s_L_tryReadyAfter_1, s_L_tryReadyAfter_2, s_L_tryReadyAfter_5, s_L_tryReadyAfter_7, s_L_tryReadyAfter_9, h, sm_k2_ok, sm_k2_er, sm_tl_s, sm_tl_n, sm_gt, q_ip, q_in, List.set_cons_zero, List.set_cons_succ]
  try rfl
theorem w_tryBestPlace {a1 : Int32} {a2 : Int32} (h : F_X9_bestPlace (V, o) [.inr (.inr (9, 0, 0)), .inl a1, .inl a2] = some ((V1, o1), .ok (some (.inl v)))) : F_L_tryBestPlace (V, o) [.inr (.inr (9, 0, 0)), .inl a1, .inl a2] = some ((V1, o1), .ok (some (.inl v))) := by
  rw [e_L_tryBestPlace]
  simp (disch := first | exact nl_i | exact nl_r | exact nl_n | exact Nat.le_of_ble_eq_true rfl | rfl | assumption | omega) only [s_L_tryBestPlace_0, s_L_tryBestPlace_1, s_L_tryBestPlace_2, s_L_tryBestPlace_3, s_L_tryBestPlace_6, s_L_tryBestPlace_8, s_L_tryBestPlace_10, h, sm_k2_ok, sm_k2_er, sm_tl_s, sm_tl_n, sm_gt, q_ip, q_in, List.set_cons_zero, List.set_cons_succ]
theorem w_tryBestPlace_1 {a1 : Int32} {a2 : Int32} (h : F_X9_bestPlace (V, o) [.inr (.inr (9, 0, 0)), .inl a1, .inl a2] = some ((V1, o1), .error 1)) : F_L_tryBestPlace (V, o) [.inr (.inr (9, 0, 0)), .inl a1, .inl a2] = some ((V1, o1), .ok (some (.inl (-99002)))) := by
  rw [e_L_tryBestPlace]
  simp (disch := first | exact nl_i | exact nl_r | exact nl_n | exact Nat.le_of_ble_eq_true rfl | rfl | assumption | omega) only [s_L_tryBestPlace_0, s_L_tryBestPlace_1, s_L_tryBestPlace_2, s_L_tryBestPlace_3, s_L_tryBestPlace_6, s_L_tryBestPlace_8, s_L_tryBestPlace_10, h, sm_k2_ok, sm_k2_er, sm_tl_s, sm_tl_n, sm_gt, q_ip, q_in, List.set_cons_zero, List.set_cons_succ]
  try rfl
theorem w_tryMissing {a1 : Int32} (h : F_X9_missing (V, o) [.inr (.inr (9, 0, 0)), .inl a1] = some ((V1, o1), .ok (some (.inl v)))) : F_L_tryMissing (V, o) [.inr (.inr (9, 0, 0)), .inl a1] = some ((V1, o1), .ok (some (.inl v))) := by
  rw [e_L_tryMissing]
  simp (disch := first | exact nl_i | exact nl_r | exact nl_n | exact Nat.le_of_ble_eq_true rfl | rfl | assumption | omega) only [s_L_tryMissing_0, s_L_tryMissing_1, s_L_tryMissing_2, s_L_tryMissing_5, s_L_tryMissing_7, s_L_tryMissing_9, h, sm_k2_ok, sm_k2_er, sm_tl_s, sm_tl_n, sm_gt, q_ip, q_in, List.set_cons_zero, List.set_cons_succ]
theorem w_tryMissing_1 {a1 : Int32} (h : F_X9_missing (V, o) [.inr (.inr (9, 0, 0)), .inl a1] = some ((V1, o1), .error 1)) : F_L_tryMissing (V, o) [.inr (.inr (9, 0, 0)), .inl a1] = some ((V1, o1), .ok (some (.inl (-99002)))) := by
  rw [e_L_tryMissing]
  simp (disch := first | exact nl_i | exact nl_r | exact nl_n | exact Nat.le_of_ble_eq_true rfl | rfl | assumption | omega) only [s_L_tryMissing_0, s_L_tryMissing_1, s_L_tryMissing_2, s_L_tryMissing_5, s_L_tryMissing_7, s_L_tryMissing_9, h, sm_k2_ok, sm_k2_er, sm_tl_s, sm_tl_n, sm_gt, q_ip, q_in, List.set_cons_zero, List.set_cons_succ]
  try rfl
theorem w_tryColdest {a1 : Int32} (h : F_X9_coldest (V, o) [.inr (.inr (9, 0, 0)), .inl a1] = some ((V1, o1), .ok (some (.inl v)))) : F_L_tryColdest (V, o) [.inr (.inr (9, 0, 0)), .inl a1] = some ((V1, o1), .ok (some (.inl v))) := by
  rw [e_L_tryColdest]
  simp (disch := first | exact nl_i | exact nl_r | exact nl_n | exact Nat.le_of_ble_eq_true rfl | rfl | assumption | omega) only [s_L_tryColdest_0, s_L_tryColdest_1, s_L_tryColdest_2, s_L_tryColdest_5, s_L_tryColdest_7, s_L_tryColdest_9, h, sm_k2_ok, sm_k2_er, sm_tl_s, sm_tl_n, sm_gt, q_ip, q_in, List.set_cons_zero, List.set_cons_succ]
theorem w_tryColdest_1 {a1 : Int32} (h : F_X9_coldest (V, o) [.inr (.inr (9, 0, 0)), .inl a1] = some ((V1, o1), .error 1)) : F_L_tryColdest (V, o) [.inr (.inr (9, 0, 0)), .inl a1] = some ((V1, o1), .ok (some (.inl (-99002)))) := by
  rw [e_L_tryColdest]
  simp (disch := first | exact nl_i | exact nl_r | exact nl_n | exact Nat.le_of_ble_eq_true rfl | rfl | assumption | omega) only [s_L_tryColdest_0, s_L_tryColdest_1, s_L_tryColdest_2, s_L_tryColdest_5, s_L_tryColdest_7, s_L_tryColdest_9, h, sm_k2_ok, sm_k2_er, sm_tl_s, sm_tl_n, sm_gt, q_ip, q_in, List.set_cons_zero, List.set_cons_succ]
  try rfl
theorem w_tryScript {a1 : Int32} {a2 : Int64} (h : F_X9_runScript (V, o) [.inr (.inr (9, 0, 0)), .inl a1, .inr (.inl a2)] = some ((V1, o1), .ok (some (.inl v)))) : F_L_tryScript (V, o) [.inr (.inr (9, 0, 0)), .inl a1, .inr (.inl a2)] = some ((V1, o1), .ok (some (.inl v))) := by
  rw [e_L_tryScript]
  simp (disch := first | exact nl_i | exact nl_r | exact nl_n | exact Nat.le_of_ble_eq_true rfl | rfl | assumption | omega) only [s_L_tryScript_0, s_L_tryScript_1, s_L_tryScript_2, s_L_tryScript_3, s_L_tryScript_6, s_L_tryScript_9, s_L_tryScript_11, h, sm_k2_ok, sm_k2_er, sm_tl_s, sm_tl_n, sm_gt, q_ip, q_in, List.set_cons_zero, List.set_cons_succ]
theorem w_tryScript_1 {a1 : Int32} {a2 : Int64} (h : F_X9_runScript (V, o) [.inr (.inr (9, 0, 0)), .inl a1, .inr (.inl a2)] = some ((V1, o1), .error 1)) : F_L_tryScript (V, o) [.inr (.inr (9, 0, 0)), .inl a1, .inr (.inl a2)] = some ((V1, o1), .ok (some (.inl (-99002)))) := by
  rw [e_L_tryScript]
  simp (disch := first | exact nl_i | exact nl_r | exact nl_n | exact Nat.le_of_ble_eq_true rfl | rfl | assumption | omega) only [s_L_tryScript_0, s_L_tryScript_1, s_L_tryScript_2, s_L_tryScript_3, s_L_tryScript_6, s_L_tryScript_9, s_L_tryScript_11, h, sm_k2_ok, sm_k2_er, sm_tl_s, sm_tl_n, sm_gt, q_ip, q_in, List.set_cons_zero, List.set_cons_succ]
  try rfl
theorem w_trySimulate {a1 : Int64} {a2 : Int32} (h : F_X9_simulate (V, o) [.inr (.inr (9, 0, 0)), .inr (.inl a1), .inl a2] = some ((V1, o1), .ok (some (.inl v)))) : F_L_trySimulate (V, o) [.inr (.inr (9, 0, 0)), .inr (.inl a1), .inl a2] = some ((V1, o1), .ok (some (.inl v))) := by
  rw [e_L_trySimulate]
  simp (disch := first | exact nl_i | exact nl_r | exact nl_n | exact Nat.le_of_ble_eq_true rfl | rfl | assumption | omega) only [s_L_trySimulate_0, s_L_trySimulate_1, s_L_trySimulate_2, s_L_trySimulate_3, s_L_trySimulate_6, s_L_trySimulate_9, s_L_trySimulate_11, h, sm_k2_ok, sm_k2_er, sm_tl_s, sm_tl_n, sm_gt, q_ip, q_in, List.set_cons_zero, List.set_cons_succ]
theorem w_trySimulate_1 {a1 : Int64} {a2 : Int32} (h : F_X9_simulate (V, o) [.inr (.inr (9, 0, 0)), .inr (.inl a1), .inl a2] = some ((V1, o1), .error 1)) : F_L_trySimulate (V, o) [.inr (.inr (9, 0, 0)), .inr (.inl a1), .inl a2] = some ((V1, o1), .ok (some (.inl (-99002)))) := by
  rw [e_L_trySimulate]
  simp (disch := first | exact nl_i | exact nl_r | exact nl_n | exact Nat.le_of_ble_eq_true rfl | rfl | assumption | omega) only [s_L_trySimulate_0, s_L_trySimulate_1, s_L_trySimulate_2, s_L_trySimulate_3, s_L_trySimulate_6, s_L_trySimulate_9, s_L_trySimulate_11, h, sm_k2_ok, sm_k2_er, sm_tl_s, sm_tl_n, sm_gt, q_ip, q_in, List.set_cons_zero, List.set_cons_succ]
  try rfl
theorem w_trySave {a1 : Int32} (h : F_X9_save (V, o) [.inr (.inr (9, 0, 0)), .inl a1] = some ((V1, o1), .ok (some (.inl v)))) : F_L_trySave (V, o) [.inr (.inr (9, 0, 0)), .inl a1] = some ((V1, o1), .ok (some (.inl v))) := by
  rw [e_L_trySave]
  simp (disch := first | exact nl_i | exact nl_r | exact nl_n | exact Nat.le_of_ble_eq_true rfl | rfl | assumption | omega) only [s_L_trySave_0, s_L_trySave_1, s_L_trySave_2, s_L_trySave_5, s_L_trySave_7, s_L_trySave_9, h, sm_k2_ok, sm_k2_er, sm_tl_s, sm_tl_n, sm_gt, q_ip, q_in, List.set_cons_zero, List.set_cons_succ]
theorem w_trySave_3 {a1 : Int32} (h : F_X9_save (V, o) [.inr (.inr (9, 0, 0)), .inl a1] = some ((V1, o1), .error 3)) : F_L_trySave (V, o) [.inr (.inr (9, 0, 0)), .inl a1] = some ((V1, o1), .ok (some (.inl (-99001)))) := by
  rw [e_L_trySave]
  simp (disch := first | exact nl_i | exact nl_r | exact nl_n | exact Nat.le_of_ble_eq_true rfl | rfl | assumption | omega) only [s_L_trySave_0, s_L_trySave_1, s_L_trySave_2, s_L_trySave_5, s_L_trySave_7, s_L_trySave_9, h, sm_k2_ok, sm_k2_er, sm_tl_s, sm_tl_n, sm_gt, q_ip, q_in, List.set_cons_zero, List.set_cons_succ]
  try rfl
theorem w_tryRestore {a1 : Int32} (h : F_X9_restore (V, o) [.inr (.inr (9, 0, 0)), .inl a1] = some ((V1, o1), .ok (some (.inl v)))) : F_L_tryRestore (V, o) [.inr (.inr (9, 0, 0)), .inl a1] = some ((V1, o1), .ok (some (.inl v))) := by
  rw [e_L_tryRestore]
  simp (disch := first | exact nl_i | exact nl_r | exact nl_n | exact Nat.le_of_ble_eq_true rfl | rfl | assumption | omega) only [s_L_tryRestore_0, s_L_tryRestore_1, s_L_tryRestore_2, s_L_tryRestore_5, s_L_tryRestore_7, s_L_tryRestore_9, s_L_tryRestore_11, s_L_tryRestore_13, h, sm_k2_ok, sm_k2_er, sm_tl_s, sm_tl_n, sm_gt, q_ip, q_in, List.set_cons_zero, List.set_cons_succ]
theorem w_tryRestore_2 {a1 : Int32} (h : F_X9_restore (V, o) [.inr (.inr (9, 0, 0)), .inl a1] = some ((V1, o1), .error 2)) : F_L_tryRestore (V, o) [.inr (.inr (9, 0, 0)), .inl a1] = some ((V1, o1), .ok (some (.inl (-99003)))) := by
  rw [e_L_tryRestore]
  simp (disch := first | exact nl_i | exact nl_r | exact nl_n | exact Nat.le_of_ble_eq_true rfl | rfl | assumption | omega) only [s_L_tryRestore_0, s_L_tryRestore_1, s_L_tryRestore_2, s_L_tryRestore_5, s_L_tryRestore_7, s_L_tryRestore_9, s_L_tryRestore_11, s_L_tryRestore_13, h, sm_k2_ok, sm_k2_er, sm_tl_s, sm_tl_n, sm_gt, q_ip, q_in, List.set_cons_zero, List.set_cons_succ]
  try rfl
theorem w_tryRestore_3 {a1 : Int32} (h : F_X9_restore (V, o) [.inr (.inr (9, 0, 0)), .inl a1] = some ((V1, o1), .error 3)) : F_L_tryRestore (V, o) [.inr (.inr (9, 0, 0)), .inl a1] = some ((V1, o1), .ok (some (.inl (-99001)))) := by
  rw [e_L_tryRestore]
  simp (disch := first | exact nl_i | exact nl_r | exact nl_n | exact Nat.le_of_ble_eq_true rfl | rfl | assumption | omega) only [s_L_tryRestore_0, s_L_tryRestore_1, s_L_tryRestore_2, s_L_tryRestore_5, s_L_tryRestore_7, s_L_tryRestore_9, s_L_tryRestore_11, s_L_tryRestore_13, h, sm_k2_ok, sm_k2_er, sm_tl_s, sm_tl_n, sm_gt, q_ip, q_in, List.set_cons_zero, List.set_cons_succ]
  try rfl
end Z45w
