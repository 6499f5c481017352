/-! THE FACE'S CONSTRUCTOR, behind its slots: by program -/
def tb_X9i : List (Nat × Instr × Nat) := [(111, .aload_n 0, 1), (112, .getfield 19, 3), (115, .bipush 20, 2), (117, .sipush 500, 3), (120, .iconst 2, 1), (121, .bipush 10, 2), (123, .invokevirtual 51, 3), (126, .aload_n 0, 1), (127, .getfield 19, 3), (130, .iconst 4, 1), (131, .iconst 5, 1), (132, .bipush 10, 2), (134, .invokevirtual 55, 3), (137, .aload_n 0, 1), (138, .getfield 19, 3), (141, .iconst 0, 1), (142, .iconst 1, 1), (143, .invokevirtual 59, 3), (146, .iconst 0, 1), (147, .istore_n 1, 1), (148, .iload_n 1, 1), (149, .bipush 24, 2), (151, .if_icmp .ge 21, 3), (154, .aload_n 0, 1), (155, .getfield 19, 3), (158, .getfield 63, 3), (161, .bipush (-4), 2), (163, .invokevirtual 67, 3), (166, .iinc 1 1, 3), (169, .goto (-21), 3), (172, .return_, 1)]
theorem td_X9i : ∀ q ∈ tb_X9i, decode cX9_init q.1 = .ok q.2 := by decide +kernel
theorem cs_X9i_51 : sm_Cs RX9 51 0 5 5 yX5_begin cX5_begin 5 none [] := ⟨(sm_ix 291 (by decide +kernel) (by decide +kernel)), (sm_ix 3 (by decide +kernel) (by decide +kernel)), ⟨by decide, by decide⟩, by decide, fun _ => ⟨(sm_ix 292 (by decide +kernel) (by decide +kernel)), (sm_ix 293 (by decide +kernel) (by decide +kernel)), (sm_ix 294 (by decide +kernel) (by decide +kernel)), by decide +kernel, by decide, rfl⟩, fun h => (by cases h), fun h => (by cases h), by decide⟩
theorem cs_X9i_55 : sm_Cs RX9 55 0 4 5 yX5_putSlope cX5_putSlope 5 none [] := ⟨(sm_ix 299 (by decide +kernel) (by decide +kernel)), (sm_ix 3 (by decide +kernel) (by decide +kernel)), ⟨by decide, by decide⟩, by decide, fun _ => ⟨(sm_ix 300 (by decide +kernel) (by decide +kernel)), (sm_ix 301 (by decide +kernel) (by decide +kernel)), (sm_ix 302 (by decide +kernel) (by decide +kernel)), by decide +kernel, by decide, rfl⟩, fun h => (by cases h), fun h => (by cases h), by decide⟩
theorem cs_X9i_59 : sm_Cs RX9 59 0 3 5 yX5_putGun cX5_putGun 3 none [] := ⟨(sm_ix 303 (by decide +kernel) (by decide +kernel)), (sm_ix 3 (by decide +kernel) (by decide +kernel)), ⟨by decide, by decide⟩, by decide, fun _ => ⟨(sm_ix 304 (by decide +kernel) (by decide +kernel)), (sm_ix 305 (by decide +kernel) (by decide +kernel)), (sm_ix 306 (by decide +kernel) (by decide +kernel)), by decide +kernel, by decide, rfl⟩, fun h => (by cases h), fun h => (by cases h), by decide⟩
theorem cs_X9i_67 : sm_Cs RX9 67 0 2 8 yX8_put cX8_put 2 none [] := ⟨(sm_ix 311 (by decide +kernel) (by decide +kernel)), (sm_ix 5 (by decide +kernel) (by decide +kernel)), ⟨by decide, by decide⟩, by decide, fun _ => ⟨(sm_ix 312 (by decide +kernel) (by decide +kernel)), (sm_ix 313 (by decide +kernel) (by decide +kernel)), (sm_ix 314 (by decide +kernel) (by decide +kernel)), by decide +kernel, by decide, rfl⟩, fun h => (by cases h), fun h => (by cases h), by decide⟩
noncomputable def T_X9i : sm_T := sm_mk tb_X9i fl_X9 [(51, (0, 5, 0, 5, F_X5_begin)), (55, (0, 4, 0, 5, F_X5_putSlope)), (59, (0, 3, 0, 5, F_X5_putGun)), (67, (0, 2, 0, 8, F_X8_put))] [] [] kl_X9 ki_X9 [] [] sm_noro 0
theorem T_X9i_cal {l : Launch} {G : sm_G} (hI : sm_Inj G) (hfl : l.stackTraces = false) : sm_Cal l G T_X9i RX9 4 := by
  have hc : ∀ q ∈ ([(51, (0, 5, 0, 5, F_X5_begin)), (55, (0, 4, 0, 5, F_X5_putSlope)), (59, (0, 3, 0, 5, F_X5_putGun)), (67, (0, 2, 0, 8, F_X8_put))] : List (Nat × sm_K)), sm_Cal1 l G RX9 4 q := List.forall_mem_cons.mpr ⟨⟨yX5_begin, cX5_begin, 5, none, [], 2, cs_X9i_51, con_X5_begin hI hfl, by decide⟩, List.forall_mem_cons.mpr ⟨⟨yX5_putSlope, cX5_putSlope, 5, none, [], 1, cs_X9i_55, con_X5_putSlope hI hfl, by decide⟩, List.forall_mem_cons.mpr ⟨⟨yX5_putGun, cX5_putGun, 3, none, [], 2, cs_X9i_59, con_X5_putGun hI hfl, by decide⟩, List.forall_mem_cons.mpr ⟨⟨yX8_put, cX8_put, 2, none, [], 1, cs_X9i_67, con_X8_put hI hfl, by decide⟩, fun q h => by cases h⟩⟩⟩⟩
  exact sm_mk_cal hc
theorem sm_nil_nok {own : String} : sm_nok own [] := fun q h => by cases h
theorem sm_nil_sok {own : String} : sm_sok own [] := fun q h => by cases h
theorem T_X9i_tok : sm_Tok T_X9i RX9 cX9_init := sm_mk_tok td_X9i fo_X9 ko_X9 io_X9 sm_nil_nok sm_nil_sok
section Z70
def w_st (_ : Nat) (P : Nat → Int) : Nat → Int := q_pu (q_pu P (93 + (P 6).toNat) (-4)) 6 (P 6 + 1)
def w_p0 : Nat → Int := q_putg (q_puts (q_begin (fun _ => 0) 20 500 2 10) 4 5 10) 0 1
/-- the state that a new one has -/
def w_new (n : Nat) : Nat → Int := q_it w_st n w_p0
def w_Z : Nat → Nat → Int := fun _ _ => 0
theorem w_new6 : ∀ n : Nat, w_new n 6 = n
  | 0 => rfl
  | n + 1 => by
    have ih := w_new6 n
    show w_st n (w_new n) 6 = _
    unfold w_st
    rw [q_pe, ih]
    rfl
theorem x9_loop : ∀ f i : Nat, i + f = 24 → sm_R T_X9i (0, 148, (q_I (q_rg w_Z 0 (w_new i)), 0), [(some (.inr (.inr (9, 0, 0)))), (some (.inl (q_i (i))))], []) = some ((q_I (q_rg w_Z 0 (w_new 24)), 0), .ok none) := by
  intro f
  induction f with
  | zero =>
    intro i hi
    have e : i = 24 := by omega
    subst e
    refine (R_iload_n rfl rfl).trans ((R_bipush (v := q_i 24) rfl rfl).trans ((R_icmp_ge (tgt := 172) rfl (by decide)).trans ?_))
    rw [if_pos (by rw [q_le (by omega) (by omega) (by omega) (by omega)]; omega)]
    exact R_return (h9 := trivial) rfl rfl
  | succ f ih =>
    intro i hi
    have h6 := w_new6 i
    have z := z_X8_put (W := q_rg w_Z 0 (w_new i)) (o := 0) (k := 0) (v := -4) (by rw [q_re, h6]; omega)
    rw [q_re, q_rr] at z
    refine (R_iload_n rfl rfl).trans ((R_bipush (v := q_i 24) rfl rfl).trans ((R_icmp_ge (tgt := 172) rfl (by decide)).trans ?_))
    rw [if_neg (by rw [q_le (by omega) (by omega) (by omega) (by omega)]; omega)]
    refine (R_aload_n rfl rfl).trans ((R_getR (c := 9) (k := 0) (i := 0) rfl rfl rfl).trans ((R_getR (c := 5) (k := 0) (i := 0) rfl rfl rfl).trans ((R_bipush (v := q_i (-4)) rfl rfl).trans ?_)))
    refine (R_call (virt := true) (as := [.inr (.inr (8, 0, 0)), .inl (q_i (-4))]) (r := []) rfl rfl rfl (Nat.zero_le _) (Nat.zero_le _) (fun _ => ⟨rfl, rfl⟩) (fun q => by cases q) (fun _ => rfl) (by decide)).trans ?_
    rw [z]
    show sm_R T_X9i (0, 166, (q_I (q_rg w_Z 0 (w_new (i + 1))), 0), [(some (.inr (.inr (9, 0, 0)))), (some (.inl (q_i (i))))], []) = _
    have e : q_i (i : Int) + q_i 1 = q_i ((i + 1 : Nat) : Int) := by rw [q_add]; rfl
    refine (R_iinc (v := q_i 1) (l1 := [(some (.inr (.inr (9, 0, 0)))), some (.inl (q_i (i : Int) + q_i 1))]) rfl rfl rfl rfl).trans ((R_goto (tgt := 148) rfl (by decide)).trans ?_)
    rw [e]
    exact ih (i + 1) (by omega)
theorem x9_run : sm_R T_X9i (0, 111, (q_I w_Z, 0), [(some (.inr (.inr (9, 0, 0)))), (some (.inl (q_i (2))))], []) = some ((q_I (q_rg w_Z 0 (w_new 24)), 0), .ok none) := by
  have z1 := z_X5_begin (W := w_Z) (o := 0) (k := 0) (p := 20) (c := 500) (i := 2) (l := 10)
  have z2 := z_X5_putSlope (W := q_rg w_Z 0 (q_begin (w_Z 0) 20 500 2 10)) (o := 0) (k := 0) (a := 4) (r := 5) (t := 10) (by rw [q_re]; exact ⟨by decide, by decide⟩)
  rw [q_re, q_rr] at z2
  have z3 := z_X5_putGun (W := q_rg w_Z 0 (q_puts (q_begin (w_Z 0) 20 500 2 10) 4 5 10)) (o := 0) (k := 0) (s := 0) (n := 1) (by rw [q_re]; exact ⟨by decide, by decide⟩)
  rw [q_re, q_rr] at z3
  refine (R_aload_n rfl rfl).trans ((R_getR (c := 9) (k := 0) (i := 0) rfl rfl rfl).trans ((R_bipush (v := q_i 20) rfl rfl).trans ((R_sipush (v := q_i 500) rfl rfl).trans ((R_iconst (v := q_i 2) rfl rfl).trans ((R_bipush (v := q_i 10) rfl rfl).trans ?_)))))
  refine (R_call (virt := true) (as := [.inr (.inr (5, 0, 0)), .inl (q_i (20)), .inl (q_i (500)), .inl (q_i (2)), .inl (q_i (10))]) (r := []) rfl rfl rfl (Nat.zero_le _) (Nat.zero_le _) (fun _ => ⟨rfl, rfl⟩) (fun q => by cases q) (fun _ => rfl) (by decide)).trans ?_
  rw [z1]
  show sm_R T_X9i (0, 126, (q_I (q_rg w_Z 0 (q_begin (w_Z 0) 20 500 2 10)), 0), [(some (.inr (.inr (9, 0, 0)))), (some (.inl (q_i (2))))], []) = _
  refine (R_aload_n rfl rfl).trans ((R_getR (c := 9) (k := 0) (i := 0) rfl rfl rfl).trans ((R_iconst (v := q_i 4) rfl rfl).trans ((R_iconst (v := q_i 5) rfl rfl).trans ((R_bipush (v := q_i 10) rfl rfl).trans ?_))))
  refine (R_call (virt := true) (as := [.inr (.inr (5, 0, 0)), .inl (q_i (4)), .inl (q_i (5)), .inl (q_i (10))]) (r := []) rfl rfl rfl (Nat.zero_le _) (Nat.zero_le _) (fun _ => ⟨rfl, rfl⟩) (fun q => by cases q) (fun _ => rfl) (by decide)).trans ?_
  rw [z2]
  show sm_R T_X9i (0, 137, (q_I (q_rg w_Z 0 (q_puts (q_begin (w_Z 0) 20 500 2 10) 4 5 10)), 0), [(some (.inr (.inr (9, 0, 0)))), (some (.inl (q_i (2))))], []) = _
  refine (R_aload_n rfl rfl).trans ((R_getR (c := 9) (k := 0) (i := 0) rfl rfl rfl).trans ((R_iconst (v := q_i 0) rfl rfl).trans ((R_iconst (v := q_i 1) rfl rfl).trans ?_)))
  refine (R_call (virt := true) (as := [.inr (.inr (5, 0, 0)), .inl (q_i (0)), .inl (q_i (1))]) (r := []) rfl rfl rfl (Nat.zero_le _) (Nat.zero_le _) (fun _ => ⟨rfl, rfl⟩) (fun q => by cases q) (fun _ => rfl) (by decide)).trans ?_
  rw [z3]
  show sm_R T_X9i (0, 146, (q_I (q_rg w_Z 0 (w_new 0)), 0), [(some (.inr (.inr (9, 0, 0)))), (some (.inl (q_i (2))))], []) = _
  refine (R_iconst (v := q_i 0) rfl rfl).trans ((R_istore_n (l1 := [(some (.inr (.inr (9, 0, 0)))), (some (.inl (q_i (0))))]) rfl rfl).trans ?_)
  exact x9_loop 24 0 rfl
end Z70
