/-! TABLES AND CONTRACTS, by program -/
theorem sm_look2 {α β : Type} [BEq α] [LawfulBEq α] {a : α} {b : β} : ∀ {l : List (α × β)}, l.lookup a = some b → (a, b) ∈ l
  | [], h => by cases h
  | (c, d) :: l, h => by
    by_cases hc : (a == c) = true
    · have h2 : a = c := eq_of_beq hc
      subst h2
      rw [List.lookup_cons_self] at h
      cases h
      exact List.mem_cons_self
    · have h1 : (a == c) = false := by simpa using hc
      simp only [List.lookup, h1] at h
      exact List.mem_cons_of_mem _ (sm_look2 h)
def tb_L_append : List (Nat × Instr × Nat) := [(0, .aload_n 2, 1), (1, .iconst 0, 1), (2, .aload_n 0, 1), (3, .iload_n 1, 1), (4, .invokevirtual 7, 3), (7, .i2l, 1), (8, .lastore, 1), (9, .goto 9, 3), (12, .astore_n 3, 1), (13, .iconst 1, 1), (14, .ireturn, 1), (15, .astore_n 3, 1), (16, .iconst 2, 1), (17, .ireturn, 1), (18, .iconst 0, 1), (19, .ireturn, 1)]
theorem td_L_append : ∀ q ∈ tb_L_append, decode cL_append q.1 = .ok q.2 := by decide +kernel
theorem cs_L_append_7 : sm_Cs RL 7 0 2 9 yX9_append cX9_append 2 (some .int) [] := by unfold sm_Cs; decide +kernel
noncomputable def T_L_append : sm_T := sm_mk tb_L_append fl_L [(7, (0, 2, 1, 9, F_X9_append))] [((4, 1), (13, 3)), ((4, 2), (16, 3))] [] kl_L nt_L st_L sm_noro 11
noncomputable def F_L_append : sm_F := sm_fn T_L_append 4 1
theorem con_L_append {l : Launch} {G : sm_G} (hI : sm_Inj G) (hfl : l.stackTraces = false) : sm_Con l G yL_append (.codeWith yL_append cL_append 4 (some .int) [(0, 9, 12, 13), (0, 9, 15, 15)]) 7 1 F_L_append := by
  have hc : ∀ q ∈ ([(7, (0, 2, 1, 9, F_X9_append))] : List (Nat × sm_K)), sm_Cal1 l G RL 7 q := List.forall_mem_cons.mpr ⟨⟨yX9_append, cX9_append, 2, (some .int), [], 6, cs_L_append_7, con_X9_append hI hfl, by decide⟩, fun q h => by cases h⟩
  have hh9 : ∀ q ∈ ([((4, 1), (13, 3)), ((4, 2), (16, 3))] : List ((Nat × Nat) × (Nat × Nat))), sm_Hn RL cL_append (tableOf [(0, 9, 12, 13), (0, 9, 15, 15)]) q.1.1 q.1.2 q.2.1 q.2.2 4 := List.forall_mem_cons.mpr ⟨⟨[], ⟨0, 9, 12, 13⟩, [⟨0, 9, 15, 15⟩], rfl, (fun q h => by cases h), by decide, by decide, by decide +kernel, by decide, Or.inl ⟨3, rfl, by decide +kernel, rfl⟩⟩, List.forall_mem_cons.mpr ⟨⟨[⟨0, 9, 12, 13⟩], ⟨0, 9, 15, 15⟩, [], rfl, List.forall_mem_cons.mpr ⟨Or.inr ⟨by decide, 1, by decide, by decide +kernel⟩, (fun q h => by cases h)⟩, by decide, by decide, by decide +kernel, by decide, Or.inl ⟨3, rfl, by decide +kernel, rfl⟩⟩, (fun q h => by cases h)⟩⟩
  exact sm_con2 hI hfl (by decide) (sm_mk_tok td_L_append fo_L ko_L no_L so_L) (sm_mk_cal hc) sm_rets_of.2.2.1 rfl (fun _ => rfl) (fun pc x pc1 kv h => hh9 ((pc, x), (pc1, kv)) (sm_look2 h)) (fun _ => rfl) (by decide)
def tb_L_load : List (Nat × Instr × Nat) := [(0, .aload_n 1, 1), (1, .iconst 0, 1), (2, .aload_n 0, 1), (3, .invokevirtual 17, 3), (6, .i2l, 1), (7, .lastore, 1), (8, .goto 6, 3), (11, .astore_n 2, 1), (12, .iconst 1, 1), (13, .ireturn, 1), (14, .iconst 0, 1), (15, .ireturn, 1)]
theorem td_L_load : ∀ q ∈ tb_L_load, decode cL_load q.1 = .ok q.2 := by decide +kernel
theorem cs_L_load_17 : sm_Cs RL 17 0 1 9 yX9_load cX9_load 2 (some .int) [] := by unfold sm_Cs; decide +kernel
noncomputable def T_L_load : sm_T := sm_mk tb_L_load fl_L [(17, (0, 1, 1, 9, F_X9_load))] [((3, 2), (12, 2))] [] kl_L nt_L st_L sm_noro 11
noncomputable def F_L_load : sm_F := sm_fn T_L_load 3 1
theorem con_L_load {l : Launch} {G : sm_G} (hI : sm_Inj G) (hfl : l.stackTraces = false) : sm_Con l G yL_load (.codeWith yL_load cL_load 3 (some .int) [(0, 8, 11, 15)]) 7 1 F_L_load := by
  have hc : ∀ q ∈ ([(17, (0, 1, 1, 9, F_X9_load))] : List (Nat × sm_K)), sm_Cal1 l G RL 7 q := List.forall_mem_cons.mpr ⟨⟨yX9_load, cX9_load, 2, (some .int), [], 6, cs_L_load_17, con_X9_load hI hfl, by decide⟩, fun q h => by cases h⟩
  have hh9 : ∀ q ∈ ([((3, 2), (12, 2))] : List ((Nat × Nat) × (Nat × Nat))), sm_Hn RL cL_load (tableOf [(0, 8, 11, 15)]) q.1.1 q.1.2 q.2.1 q.2.2 3 := List.forall_mem_cons.mpr ⟨⟨[], ⟨0, 8, 11, 15⟩, [], rfl, (fun q h => by cases h), by decide, by decide, by decide +kernel, by decide, Or.inl ⟨2, rfl, by decide +kernel, rfl⟩⟩, (fun q h => by cases h)⟩
  exact sm_con2 hI hfl (by decide) (sm_mk_tok td_L_load fo_L ko_L no_L so_L) (sm_mk_cal hc) sm_rets_of.2.2.1 rfl (fun _ => rfl) (fun pc x pc1 kv h => hh9 ((pc, x), (pc1, kv)) (sm_look2 h)) (fun _ => rfl) (by decide)
def tb_L_about : List (Nat × Instr × Nat) := [(0, .aload_n 2, 1), (1, .iconst 0, 1), (2, .aload_n 0, 1), (3, .iload_n 1, 1), (4, .invokevirtual 21, 3), (7, .i2l, 1), (8, .lastore, 1), (9, .goto 6, 3), (12, .astore_n 3, 1), (13, .iconst 1, 1), (14, .ireturn, 1), (15, .iconst 0, 1), (16, .ireturn, 1)]
theorem td_L_about : ∀ q ∈ tb_L_about, decode cL_about q.1 = .ok q.2 := by decide +kernel
theorem cs_L_about_21 : sm_Cs RL 21 0 2 9 yX9_about cX9_about 2 (some .int) [] := by unfold sm_Cs; decide +kernel
noncomputable def T_L_about : sm_T := sm_mk tb_L_about fl_L [(21, (0, 2, 1, 9, F_X9_about))] [((4, 1), (13, 3))] [] kl_L nt_L st_L sm_noro 11
noncomputable def F_L_about : sm_F := sm_fn T_L_about 4 1
theorem con_L_about {l : Launch} {G : sm_G} (hI : sm_Inj G) (hfl : l.stackTraces = false) : sm_Con l G yL_about (.codeWith yL_about cL_about 4 (some .int) [(0, 9, 12, 13)]) 7 1 F_L_about := by
  have hc : ∀ q ∈ ([(21, (0, 2, 1, 9, F_X9_about))] : List (Nat × sm_K)), sm_Cal1 l G RL 7 q := List.forall_mem_cons.mpr ⟨⟨yX9_about, cX9_about, 2, (some .int), [], 6, cs_L_about_21, con_X9_about hI hfl, by decide⟩, fun q h => by cases h⟩
  have hh9 : ∀ q ∈ ([((4, 1), (13, 3))] : List ((Nat × Nat) × (Nat × Nat))), sm_Hn RL cL_about (tableOf [(0, 9, 12, 13)]) q.1.1 q.1.2 q.2.1 q.2.2 4 := List.forall_mem_cons.mpr ⟨⟨[], ⟨0, 9, 12, 13⟩, [], rfl, (fun q h => by cases h), by decide, by decide, by decide +kernel, by decide, Or.inl ⟨3, rfl, by decide +kernel, rfl⟩⟩, (fun q h => by cases h)⟩
  exact sm_con2 hI hfl (by decide) (sm_mk_tok td_L_about fo_L ko_L no_L so_L) (sm_mk_cal hc) sm_rets_of.2.2.1 rfl (fun _ => rfl) (fun pc x pc1 kv h => hh9 ((pc, x), (pc1, kv)) (sm_look2 h)) (fun _ => rfl) (by decide)
def tb_L_slope : List (Nat × Instr × Nat) := [(0, .aload_n 3, 1), (1, .iconst 0, 1), (2, .aload_n 0, 1), (3, .iload_n 1, 1), (4, .iload_n 2, 1), (5, .invokevirtual 24, 3), (8, .i2l, 1), (9, .lastore, 1), (10, .goto 11, 3), (13, .astore 4, 2), (15, .iconst 1, 1), (16, .ireturn, 1), (17, .astore 4, 2), (19, .iconst 2, 1), (20, .ireturn, 1), (21, .iconst 0, 1), (22, .ireturn, 1)]
theorem td_L_slope : ∀ q ∈ tb_L_slope, decode cL_slope q.1 = .ok q.2 := by decide +kernel
theorem cs_L_slope_24 : sm_Cs RL 24 0 3 9 yX9_slope cX9_slope 4 (some .int) [] := by unfold sm_Cs; decide +kernel
noncomputable def T_L_slope : sm_T := sm_mk tb_L_slope fl_L [(24, (0, 3, 2, 9, F_X9_slope))] [((5, 3), (15, 4)), ((5, 1), (19, 4))] [] kl_L nt_L st_L sm_noro 11
noncomputable def F_L_slope : sm_F := sm_fn T_L_slope 5 2
theorem con_L_slope {l : Launch} {G : sm_G} (hI : sm_Inj G) (hfl : l.stackTraces = false) : sm_Con l G yL_slope (.codeWith yL_slope cL_slope 5 (some .int) [(0, 10, 13, 28), (0, 10, 17, 13)]) 8 2 F_L_slope := by
  have hc : ∀ q ∈ ([(24, (0, 3, 2, 9, F_X9_slope))] : List (Nat × sm_K)), sm_Cal1 l G RL 8 q := List.forall_mem_cons.mpr ⟨⟨yX9_slope, cX9_slope, 4, (some .int), [], 7, cs_L_slope_24, con_X9_slope hI hfl, by decide⟩, fun q h => by cases h⟩
  have hh9 : ∀ q ∈ ([((5, 3), (15, 4)), ((5, 1), (19, 4))] : List ((Nat × Nat) × (Nat × Nat))), sm_Hn RL cL_slope (tableOf [(0, 10, 13, 28), (0, 10, 17, 13)]) q.1.1 q.1.2 q.2.1 q.2.2 5 := List.forall_mem_cons.mpr ⟨⟨[], ⟨0, 10, 13, 28⟩, [⟨0, 10, 17, 13⟩], rfl, (fun q h => by cases h), by decide, by decide, by decide +kernel, by decide, Or.inr ⟨by decide +kernel, rfl⟩⟩, List.forall_mem_cons.mpr ⟨⟨[⟨0, 10, 13, 28⟩], ⟨0, 10, 17, 13⟩, [], rfl, List.forall_mem_cons.mpr ⟨Or.inr ⟨by decide, 3, by decide, by decide +kernel⟩, (fun q h => by cases h)⟩, by decide, by decide, by decide +kernel, by decide, Or.inr ⟨by decide +kernel, rfl⟩⟩, (fun q h => by cases h)⟩⟩
  exact sm_con2 hI hfl (by decide) (sm_mk_tok td_L_slope fo_L ko_L no_L so_L) (sm_mk_cal hc) sm_rets_of.2.2.1 rfl (fun _ => rfl) (fun pc x pc1 kv h => hh9 ((pc, x), (pc1, kv)) (sm_look2 h)) (fun _ => rfl) (by decide)
def tb_L_gun : List (Nat × Instr × Nat) := [(0, .aload_n 3, 1), (1, .iconst 0, 1), (2, .aload_n 0, 1), (3, .iload_n 1, 1), (4, .iload_n 2, 1), (5, .invokevirtual 30, 3), (8, .i2l, 1), (9, .lastore, 1), (10, .goto 11, 3), (13, .astore 4, 2), (15, .iconst 1, 1), (16, .ireturn, 1), (17, .astore 4, 2), (19, .iconst 2, 1), (20, .ireturn, 1), (21, .iconst 0, 1), (22, .ireturn, 1)]
theorem td_L_gun : ∀ q ∈ tb_L_gun, decode cL_gun q.1 = .ok q.2 := by decide +kernel
theorem cs_L_gun_30 : sm_Cs RL 30 0 3 9 yX9_gun cX9_gun 4 (some .int) [] := by unfold sm_Cs; decide +kernel
noncomputable def T_L_gun : sm_T := sm_mk tb_L_gun fl_L [(30, (0, 3, 2, 9, F_X9_gun))] [((5, 3), (15, 4)), ((5, 1), (19, 4))] [] kl_L nt_L st_L sm_noro 11
noncomputable def F_L_gun : sm_F := sm_fn T_L_gun 5 2
theorem con_L_gun {l : Launch} {G : sm_G} (hI : sm_Inj G) (hfl : l.stackTraces = false) : sm_Con l G yL_gun (.codeWith yL_gun cL_gun 5 (some .int) [(0, 10, 13, 28), (0, 10, 17, 13)]) 8 2 F_L_gun := by
  have hc : ∀ q ∈ ([(30, (0, 3, 2, 9, F_X9_gun))] : List (Nat × sm_K)), sm_Cal1 l G RL 8 q := List.forall_mem_cons.mpr ⟨⟨yX9_gun, cX9_gun, 4, (some .int), [], 7, cs_L_gun_30, con_X9_gun hI hfl, by decide⟩, fun q h => by cases h⟩
  have hh9 : ∀ q ∈ ([((5, 3), (15, 4)), ((5, 1), (19, 4))] : List ((Nat × Nat) × (Nat × Nat))), sm_Hn RL cL_gun (tableOf [(0, 10, 13, 28), (0, 10, 17, 13)]) q.1.1 q.1.2 q.2.1 q.2.2 5 := List.forall_mem_cons.mpr ⟨⟨[], ⟨0, 10, 13, 28⟩, [⟨0, 10, 17, 13⟩], rfl, (fun q h => by cases h), by decide, by decide, by decide +kernel, by decide, Or.inr ⟨by decide +kernel, rfl⟩⟩, List.forall_mem_cons.mpr ⟨⟨[⟨0, 10, 13, 28⟩], ⟨0, 10, 17, 13⟩, [], rfl, List.forall_mem_cons.mpr ⟨Or.inr ⟨by decide, 3, by decide, by decide +kernel⟩, (fun q h => by cases h)⟩, by decide, by decide, by decide +kernel, by decide, Or.inr ⟨by decide +kernel, rfl⟩⟩, (fun q h => by cases h)⟩⟩
  exact sm_con2 hI hfl (by decide) (sm_mk_tok td_L_gun fo_L ko_L no_L so_L) (sm_mk_cal hc) sm_rets_of.2.2.1 rfl (fun _ => rfl) (fun pc x pc1 kv h => hh9 ((pc, x), (pc1, kv)) (sm_look2 h)) (fun _ => rfl) (by decide)
def tb_L_account : List (Nat × Instr × Nat) := [(0, .aload_n 2, 1), (1, .iconst 0, 1), (2, .aload_n 0, 1), (3, .iload_n 1, 1), (4, .invokevirtual 33, 3), (7, .i2l, 1), (8, .lastore, 1), (9, .goto 6, 3), (12, .astore_n 3, 1), (13, .iconst 1, 1), (14, .ireturn, 1), (15, .iconst 0, 1), (16, .ireturn, 1)]
theorem td_L_account : ∀ q ∈ tb_L_account, decode cL_account q.1 = .ok q.2 := by decide +kernel
theorem cs_L_account_33 : sm_Cs RL 33 0 2 9 yX9_account cX9_account 2 (some .int) [] := by unfold sm_Cs; decide +kernel
noncomputable def T_L_account : sm_T := sm_mk tb_L_account fl_L [(33, (0, 2, 1, 9, F_X9_account))] [((4, 1), (13, 3))] [] kl_L nt_L st_L sm_noro 11
noncomputable def F_L_account : sm_F := sm_fn T_L_account 4 1
theorem con_L_account {l : Launch} {G : sm_G} (hI : sm_Inj G) (hfl : l.stackTraces = false) : sm_Con l G yL_account (.codeWith yL_account cL_account 4 (some .int) [(0, 9, 12, 13)]) 7 1 F_L_account := by
  have hc : ∀ q ∈ ([(33, (0, 2, 1, 9, F_X9_account))] : List (Nat × sm_K)), sm_Cal1 l G RL 7 q := List.forall_mem_cons.mpr ⟨⟨yX9_account, cX9_account, 2, (some .int), [], 6, cs_L_account_33, con_X9_account hI hfl, by decide⟩, fun q h => by cases h⟩
  have hh9 : ∀ q ∈ ([((4, 1), (13, 3))] : List ((Nat × Nat) × (Nat × Nat))), sm_Hn RL cL_account (tableOf [(0, 9, 12, 13)]) q.1.1 q.1.2 q.2.1 q.2.2 4 := List.forall_mem_cons.mpr ⟨⟨[], ⟨0, 9, 12, 13⟩, [], rfl, (fun q h => by cases h), by decide, by decide, by decide +kernel, by decide, Or.inl ⟨3, rfl, by decide +kernel, rfl⟩⟩, (fun q h => by cases h)⟩
  exact sm_con2 hI hfl (by decide) (sm_mk_tok td_L_account fo_L ko_L no_L so_L) (sm_mk_cal hc) sm_rets_of.2.2.1 rfl (fun _ => rfl) (fun pc x pc1 kv h => hh9 ((pc, x), (pc1, kv)) (sm_look2 h)) (fun _ => rfl) (by decide)
def tb_L_book : List (Nat × Instr × Nat) := [(0, .aload_n 3, 1), (1, .iconst 0, 1), (2, .aload_n 0, 1), (3, .iload_n 1, 1), (4, .iload_n 2, 1), (5, .invokevirtual 36, 3), (8, .i2l, 1), (9, .lastore, 1), (10, .goto 7, 3), (13, .astore 4, 2), (15, .iconst 1, 1), (16, .ireturn, 1), (17, .iconst 0, 1), (18, .ireturn, 1)]
theorem td_L_book : ∀ q ∈ tb_L_book, decode cL_book q.1 = .ok q.2 := by decide +kernel
theorem cs_L_book_36 : sm_Cs RL 36 0 3 9 yX9_book cX9_book 4 (some .int) [] := by unfold sm_Cs; decide +kernel
noncomputable def T_L_book : sm_T := sm_mk tb_L_book fl_L [(36, (0, 3, 1, 9, F_X9_book))] [((5, 1), (15, 4))] [] kl_L nt_L st_L sm_noro 11
noncomputable def F_L_book : sm_F := sm_fn T_L_book 5 1
theorem con_L_book {l : Launch} {G : sm_G} (hI : sm_Inj G) (hfl : l.stackTraces = false) : sm_Con l G yL_book (.codeWith yL_book cL_book 5 (some .int) [(0, 10, 13, 13)]) 7 1 F_L_book := by
  have hc : ∀ q ∈ ([(36, (0, 3, 1, 9, F_X9_book))] : List (Nat × sm_K)), sm_Cal1 l G RL 7 q := List.forall_mem_cons.mpr ⟨⟨yX9_book, cX9_book, 4, (some .int), [], 6, cs_L_book_36, con_X9_book hI hfl, by decide⟩, fun q h => by cases h⟩
  have hh9 : ∀ q ∈ ([((5, 1), (15, 4))] : List ((Nat × Nat) × (Nat × Nat))), sm_Hn RL cL_book (tableOf [(0, 10, 13, 13)]) q.1.1 q.1.2 q.2.1 q.2.2 5 := List.forall_mem_cons.mpr ⟨⟨[], ⟨0, 10, 13, 13⟩, [], rfl, (fun q h => by cases h), by decide, by decide, by decide +kernel, by decide, Or.inr ⟨by decide +kernel, rfl⟩⟩, (fun q h => by cases h)⟩
  exact sm_con2 hI hfl (by decide) (sm_mk_tok td_L_book fo_L ko_L no_L so_L) (sm_mk_cal hc) sm_rets_of.2.2.1 rfl (fun _ => rfl) (fun pc x pc1 kv h => hh9 ((pc, x), (pc1, kv)) (sm_look2 h)) (fun _ => rfl) (by decide)
def tb_L_wet : List (Nat × Instr × Nat) := [(0, .aload_n 2, 1), (1, .iconst 0, 1), (2, .aload_n 0, 1), (3, .iload_n 1, 1), (4, .invokevirtual 39, 3), (7, .i2l, 1), (8, .lastore, 1), (9, .goto 6, 3), (12, .astore_n 3, 1), (13, .iconst 1, 1), (14, .ireturn, 1), (15, .iconst 0, 1), (16, .ireturn, 1)]
theorem td_L_wet : ∀ q ∈ tb_L_wet, decode cL_wet q.1 = .ok q.2 := by decide +kernel
theorem cs_L_wet_39 : sm_Cs RL 39 0 2 9 yX9_wet cX9_wet 2 (some .int) [] := by unfold sm_Cs; decide +kernel
noncomputable def T_L_wet : sm_T := sm_mk tb_L_wet fl_L [(39, (0, 2, 1, 9, F_X9_wet))] [((4, 1), (13, 3))] [] kl_L nt_L st_L sm_noro 11
noncomputable def F_L_wet : sm_F := sm_fn T_L_wet 4 1
theorem con_L_wet {l : Launch} {G : sm_G} (hI : sm_Inj G) (hfl : l.stackTraces = false) : sm_Con l G yL_wet (.codeWith yL_wet cL_wet 4 (some .int) [(0, 9, 12, 13)]) 7 1 F_L_wet := by
  have hc : ∀ q ∈ ([(39, (0, 2, 1, 9, F_X9_wet))] : List (Nat × sm_K)), sm_Cal1 l G RL 7 q := List.forall_mem_cons.mpr ⟨⟨yX9_wet, cX9_wet, 2, (some .int), [], 6, cs_L_wet_39, con_X9_wet hI hfl, by decide⟩, fun q h => by cases h⟩
  have hh9 : ∀ q ∈ ([((4, 1), (13, 3))] : List ((Nat × Nat) × (Nat × Nat))), sm_Hn RL cL_wet (tableOf [(0, 9, 12, 13)]) q.1.1 q.1.2 q.2.1 q.2.2 4 := List.forall_mem_cons.mpr ⟨⟨[], ⟨0, 9, 12, 13⟩, [], rfl, (fun q h => by cases h), by decide, by decide, by decide +kernel, by decide, Or.inl ⟨3, rfl, by decide +kernel, rfl⟩⟩, (fun q h => by cases h)⟩
  exact sm_con2 hI hfl (by decide) (sm_mk_tok td_L_wet fo_L ko_L no_L so_L) (sm_mk_cal hc) sm_rets_of.2.2.1 rfl (fun _ => rfl) (fun pc x pc1 kv h => hh9 ((pc, x), (pc1, kv)) (sm_look2 h)) (fun _ => rfl) (by decide)
def tb_L_pass : List (Nat × Instr × Nat) := [(0, .aload_n 2, 1), (1, .iconst 0, 1), (2, .aload_n 0, 1), (3, .iload_n 1, 1), (4, .invokevirtual 42, 3), (7, .i2l, 1), (8, .lastore, 1), (9, .goto 6, 3), (12, .astore_n 3, 1), (13, .iconst 1, 1), (14, .ireturn, 1), (15, .iconst 0, 1), (16, .ireturn, 1)]
theorem td_L_pass : ∀ q ∈ tb_L_pass, decode cL_pass q.1 = .ok q.2 := by decide +kernel
theorem cs_L_pass_42 : sm_Cs RL 42 0 2 9 yX9_pass cX9_pass 3 (some .int) [] := by unfold sm_Cs; decide +kernel
noncomputable def T_L_pass : sm_T := sm_mk tb_L_pass fl_L [(42, (0, 2, 1, 9, F_X9_pass))] [((4, 1), (13, 3))] [] kl_L nt_L st_L sm_noro 11
noncomputable def F_L_pass : sm_F := sm_fn T_L_pass 4 1
theorem con_L_pass {l : Launch} {G : sm_G} (hI : sm_Inj G) (hfl : l.stackTraces = false) : sm_Con l G yL_pass (.codeWith yL_pass cL_pass 4 (some .int) [(0, 9, 12, 13)]) 8 1 F_L_pass := by
  have hc : ∀ q ∈ ([(42, (0, 2, 1, 9, F_X9_pass))] : List (Nat × sm_K)), sm_Cal1 l G RL 8 q := List.forall_mem_cons.mpr ⟨⟨yX9_pass, cX9_pass, 3, (some .int), [], 7, cs_L_pass_42, con_X9_pass hI hfl, by decide⟩, fun q h => by cases h⟩
  have hh9 : ∀ q ∈ ([((4, 1), (13, 3))] : List ((Nat × Nat) × (Nat × Nat))), sm_Hn RL cL_pass (tableOf [(0, 9, 12, 13)]) q.1.1 q.1.2 q.2.1 q.2.2 4 := List.forall_mem_cons.mpr ⟨⟨[], ⟨0, 9, 12, 13⟩, [], rfl, (fun q h => by cases h), by decide, by decide, by decide +kernel, by decide, Or.inl ⟨3, rfl, by decide +kernel, rfl⟩⟩, (fun q h => by cases h)⟩
  exact sm_con2 hI hfl (by decide) (sm_mk_tok td_L_pass fo_L ko_L no_L so_L) (sm_mk_cal hc) sm_rets_of.2.2.1 rfl (fun _ => rfl) (fun pc x pc1 kv h => hh9 ((pc, x), (pc1, kv)) (sm_look2 h)) (fun _ => rfl) (by decide)
def tb_L_set : List (Nat × Instr × Nat) := [(0, .aload_n 3, 1), (1, .iconst 0, 1), (2, .aload_n 0, 1), (3, .iload_n 1, 1), (4, .iload_n 2, 1), (5, .invokevirtual 45, 3), (8, .i2l, 1), (9, .lastore, 1), (10, .goto 7, 3), (13, .astore 4, 2), (15, .iconst 1, 1), (16, .ireturn, 1), (17, .iconst 0, 1), (18, .ireturn, 1)]
theorem td_L_set : ∀ q ∈ tb_L_set, decode cL_set q.1 = .ok q.2 := by decide +kernel
theorem cs_L_set_45 : sm_Cs RL 45 0 3 9 yX9_set cX9_set 3 (some .int) [] := by unfold sm_Cs; decide +kernel
noncomputable def T_L_set : sm_T := sm_mk tb_L_set fl_L [(45, (0, 3, 1, 9, F_X9_set))] [((5, 1), (15, 4))] [] kl_L nt_L st_L sm_noro 11
noncomputable def F_L_set : sm_F := sm_fn T_L_set 5 1
theorem con_L_set {l : Launch} {G : sm_G} (hI : sm_Inj G) (hfl : l.stackTraces = false) : sm_Con l G yL_set (.codeWith yL_set cL_set 5 (some .int) [(0, 10, 13, 13)]) 7 1 F_L_set := by
  have hc : ∀ q ∈ ([(45, (0, 3, 1, 9, F_X9_set))] : List (Nat × sm_K)), sm_Cal1 l G RL 7 q := List.forall_mem_cons.mpr ⟨⟨yX9_set, cX9_set, 3, (some .int), [], 6, cs_L_set_45, con_X9_set hI hfl, by decide⟩, fun q h => by cases h⟩
  have hh9 : ∀ q ∈ ([((5, 1), (15, 4))] : List ((Nat × Nat) × (Nat × Nat))), sm_Hn RL cL_set (tableOf [(0, 10, 13, 13)]) q.1.1 q.1.2 q.2.1 q.2.2 5 := List.forall_mem_cons.mpr ⟨⟨[], ⟨0, 10, 13, 13⟩, [], rfl, (fun q h => by cases h), by decide, by decide, by decide +kernel, by decide, Or.inr ⟨by decide +kernel, rfl⟩⟩, (fun q h => by cases h)⟩
  exact sm_con2 hI hfl (by decide) (sm_mk_tok td_L_set fo_L ko_L no_L so_L) (sm_mk_cal hc) sm_rets_of.2.2.1 rfl (fun _ => rfl) (fun pc x pc1 kv h => hh9 ((pc, x), (pc1, kv)) (sm_look2 h)) (fun _ => rfl) (by decide)
def tb_L_fill : List (Nat × Instr × Nat) := [(0, .aload_n 2, 1), (1, .iconst 0, 1), (2, .aload_n 0, 1), (3, .iload_n 1, 1), (4, .invokevirtual 48, 3), (7, .i2l, 1), (8, .lastore, 1), (9, .goto 6, 3), (12, .astore_n 3, 1), (13, .iconst 1, 1), (14, .ireturn, 1), (15, .iconst 0, 1), (16, .ireturn, 1)]
theorem td_L_fill : ∀ q ∈ tb_L_fill, decode cL_fill q.1 = .ok q.2 := by decide +kernel
theorem cs_L_fill_48 : sm_Cs RL 48 0 2 9 yX9_fill cX9_fill 2 (some .int) [] := by unfold sm_Cs; decide +kernel
noncomputable def T_L_fill : sm_T := sm_mk tb_L_fill fl_L [(48, (0, 2, 1, 9, F_X9_fill))] [((4, 1), (13, 3))] [] kl_L nt_L st_L sm_noro 11
noncomputable def F_L_fill : sm_F := sm_fn T_L_fill 4 1
theorem con_L_fill {l : Launch} {G : sm_G} (hI : sm_Inj G) (hfl : l.stackTraces = false) : sm_Con l G yL_fill (.codeWith yL_fill cL_fill 4 (some .int) [(0, 9, 12, 13)]) 7 1 F_L_fill := by
  have hc : ∀ q ∈ ([(48, (0, 2, 1, 9, F_X9_fill))] : List (Nat × sm_K)), sm_Cal1 l G RL 7 q := List.forall_mem_cons.mpr ⟨⟨yX9_fill, cX9_fill, 2, (some .int), [], 6, cs_L_fill_48, con_X9_fill hI hfl, by decide⟩, fun q h => by cases h⟩
  have hh9 : ∀ q ∈ ([((4, 1), (13, 3))] : List ((Nat × Nat) × (Nat × Nat))), sm_Hn RL cL_fill (tableOf [(0, 9, 12, 13)]) q.1.1 q.1.2 q.2.1 q.2.2 4 := List.forall_mem_cons.mpr ⟨⟨[], ⟨0, 9, 12, 13⟩, [], rfl, (fun q h => by cases h), by decide, by decide, by decide +kernel, by decide, Or.inl ⟨3, rfl, by decide +kernel, rfl⟩⟩, (fun q h => by cases h)⟩
  exact sm_con2 hI hfl (by decide) (sm_mk_tok td_L_fill fo_L ko_L no_L so_L) (sm_mk_cal hc) sm_rets_of.2.2.1 rfl (fun _ => rfl) (fun pc x pc1 kv h => hh9 ((pc, x), (pc1, kv)) (sm_look2 h)) (fun _ => rfl) (by decide)
def tb_L_setWet : List (Nat × Instr × Nat) := [(0, .aload_n 3, 1), (1, .iconst 0, 1), (2, .aload_n 0, 1), (3, .iload_n 1, 1), (4, .iload_n 2, 1), (5, .invokevirtual 51, 3), (8, .i2l, 1), (9, .lastore, 1), (10, .goto 7, 3), (13, .astore 4, 2), (15, .iconst 1, 1), (16, .ireturn, 1), (17, .iconst 0, 1), (18, .ireturn, 1)]
theorem td_L_setWet : ∀ q ∈ tb_L_setWet, decode cL_setWet q.1 = .ok q.2 := by decide +kernel
theorem cs_L_setWet_51 : sm_Cs RL 51 0 3 9 yX9_setWet cX9_setWet 4 (some .int) [] := by unfold sm_Cs; decide +kernel
noncomputable def T_L_setWet : sm_T := sm_mk tb_L_setWet fl_L [(51, (0, 3, 1, 9, F_X9_setWet))] [((5, 1), (15, 4))] [] kl_L nt_L st_L sm_noro 11
noncomputable def F_L_setWet : sm_F := sm_fn T_L_setWet 5 1
theorem con_L_setWet {l : Launch} {G : sm_G} (hI : sm_Inj G) (hfl : l.stackTraces = false) : sm_Con l G yL_setWet (.codeWith yL_setWet cL_setWet 5 (some .int) [(0, 10, 13, 13)]) 7 1 F_L_setWet := by
  have hc : ∀ q ∈ ([(51, (0, 3, 1, 9, F_X9_setWet))] : List (Nat × sm_K)), sm_Cal1 l G RL 7 q := List.forall_mem_cons.mpr ⟨⟨yX9_setWet, cX9_setWet, 4, (some .int), [], 6, cs_L_setWet_51, con_X9_setWet hI hfl, by decide⟩, fun q h => by cases h⟩
  have hh9 : ∀ q ∈ ([((5, 1), (15, 4))] : List ((Nat × Nat) × (Nat × Nat))), sm_Hn RL cL_setWet (tableOf [(0, 10, 13, 13)]) q.1.1 q.1.2 q.2.1 q.2.2 5 := List.forall_mem_cons.mpr ⟨⟨[], ⟨0, 10, 13, 13⟩, [], rfl, (fun q h => by cases h), by decide, by decide, by decide +kernel, by decide, Or.inr ⟨by decide +kernel, rfl⟩⟩, (fun q h => by cases h)⟩
  exact sm_con2 hI hfl (by decide) (sm_mk_tok td_L_setWet fo_L ko_L no_L so_L) (sm_mk_cal hc) sm_rets_of.2.2.1 rfl (fun _ => rfl) (fun pc x pc1 kv h => hh9 ((pc, x), (pc1, kv)) (sm_look2 h)) (fun _ => rfl) (by decide)
def tb_L_setSlope : List (Nat × Instr × Nat) := [(0, .aload 4, 2), (2, .iconst 0, 1), (3, .aload_n 0, 1), (4, .iload_n 1, 1), (5, .iload_n 2, 1), (6, .iload_n 3, 1), (7, .invokevirtual 54, 3), (10, .i2l, 1), (11, .lastore, 1), (12, .goto 11, 3), (15, .astore 5, 2), (17, .iconst 1, 1), (18, .ireturn, 1), (19, .astore 5, 2), (21, .iconst 2, 1), (22, .ireturn, 1), (23, .iconst 0, 1), (24, .ireturn, 1)]
theorem td_L_setSlope : ∀ q ∈ tb_L_setSlope, decode cL_setSlope q.1 = .ok q.2 := by decide +kernel
theorem cs_L_setSlope_54 : sm_Cs RL 54 0 4 9 yX9_setSlope cX9_setSlope 6 (some .int) [] := by unfold sm_Cs; decide +kernel
noncomputable def T_L_setSlope : sm_T := sm_mk tb_L_setSlope fl_L [(54, (0, 4, 2, 9, F_X9_setSlope))] [((7, 3), (17, 5)), ((7, 1), (21, 5))] [] kl_L nt_L st_L sm_noro 11
noncomputable def F_L_setSlope : sm_F := sm_fn T_L_setSlope 6 2
theorem con_L_setSlope {l : Launch} {G : sm_G} (hI : sm_Inj G) (hfl : l.stackTraces = false) : sm_Con l G yL_setSlope (.codeWith yL_setSlope cL_setSlope 6 (some .int) [(0, 12, 15, 28), (0, 12, 19, 13)]) 8 2 F_L_setSlope := by
  have hc : ∀ q ∈ ([(54, (0, 4, 2, 9, F_X9_setSlope))] : List (Nat × sm_K)), sm_Cal1 l G RL 8 q := List.forall_mem_cons.mpr ⟨⟨yX9_setSlope, cX9_setSlope, 6, (some .int), [], 7, cs_L_setSlope_54, con_X9_setSlope hI hfl, by decide⟩, fun q h => by cases h⟩
  have hh9 : ∀ q ∈ ([((7, 3), (17, 5)), ((7, 1), (21, 5))] : List ((Nat × Nat) × (Nat × Nat))), sm_Hn RL cL_setSlope (tableOf [(0, 12, 15, 28), (0, 12, 19, 13)]) q.1.1 q.1.2 q.2.1 q.2.2 6 := List.forall_mem_cons.mpr ⟨⟨[], ⟨0, 12, 15, 28⟩, [⟨0, 12, 19, 13⟩], rfl, (fun q h => by cases h), by decide, by decide, by decide +kernel, by decide, Or.inr ⟨by decide +kernel, rfl⟩⟩, List.forall_mem_cons.mpr ⟨⟨[⟨0, 12, 15, 28⟩], ⟨0, 12, 19, 13⟩, [], rfl, List.forall_mem_cons.mpr ⟨Or.inr ⟨by decide, 3, by decide, by decide +kernel⟩, (fun q h => by cases h)⟩, by decide, by decide, by decide +kernel, by decide, Or.inr ⟨by decide +kernel, rfl⟩⟩, (fun q h => by cases h)⟩⟩
  exact sm_con2 hI hfl (by decide) (sm_mk_tok td_L_setSlope fo_L ko_L no_L so_L) (sm_mk_cal hc) sm_rets_of.2.2.1 rfl (fun _ => rfl) (fun pc x pc1 kv h => hh9 ((pc, x), (pc1, kv)) (sm_look2 h)) (fun _ => rfl) (by decide)
def tb_L_addSlope : List (Nat × Instr × Nat) := [(0, .aload 4, 2), (2, .iconst 0, 1), (3, .aload_n 0, 1), (4, .iload_n 1, 1), (5, .iload_n 2, 1), (6, .iload_n 3, 1), (7, .invokevirtual 58, 3), (10, .i2l, 1), (11, .lastore, 1), (12, .goto 11, 3), (15, .astore 5, 2), (17, .iconst 1, 1), (18, .ireturn, 1), (19, .astore 5, 2), (21, .iconst 2, 1), (22, .ireturn, 1), (23, .iconst 0, 1), (24, .ireturn, 1)]
theorem td_L_addSlope : ∀ q ∈ tb_L_addSlope, decode cL_addSlope q.1 = .ok q.2 := by decide +kernel
theorem cs_L_addSlope_58 : sm_Cs RL 58 0 4 9 yX9_addSlope cX9_addSlope 4 (some .int) [] := by unfold sm_Cs; decide +kernel
noncomputable def T_L_addSlope : sm_T := sm_mk tb_L_addSlope fl_L [(58, (0, 4, 1, 9, F_X9_addSlope))] [((7, 1), (17, 5)), ((7, 2), (21, 5))] [] kl_L nt_L st_L sm_noro 11
noncomputable def F_L_addSlope : sm_F := sm_fn T_L_addSlope 6 1
theorem con_L_addSlope {l : Launch} {G : sm_G} (hI : sm_Inj G) (hfl : l.stackTraces = false) : sm_Con l G yL_addSlope (.codeWith yL_addSlope cL_addSlope 6 (some .int) [(0, 12, 15, 13), (0, 12, 19, 15)]) 7 1 F_L_addSlope := by
  have hc : ∀ q ∈ ([(58, (0, 4, 1, 9, F_X9_addSlope))] : List (Nat × sm_K)), sm_Cal1 l G RL 7 q := List.forall_mem_cons.mpr ⟨⟨yX9_addSlope, cX9_addSlope, 4, (some .int), [], 6, cs_L_addSlope_58, con_X9_addSlope hI hfl, by decide⟩, fun q h => by cases h⟩
  have hh9 : ∀ q ∈ ([((7, 1), (17, 5)), ((7, 2), (21, 5))] : List ((Nat × Nat) × (Nat × Nat))), sm_Hn RL cL_addSlope (tableOf [(0, 12, 15, 13), (0, 12, 19, 15)]) q.1.1 q.1.2 q.2.1 q.2.2 6 := List.forall_mem_cons.mpr ⟨⟨[], ⟨0, 12, 15, 13⟩, [⟨0, 12, 19, 15⟩], rfl, (fun q h => by cases h), by decide, by decide, by decide +kernel, by decide, Or.inr ⟨by decide +kernel, rfl⟩⟩, List.forall_mem_cons.mpr ⟨⟨[⟨0, 12, 15, 13⟩], ⟨0, 12, 19, 15⟩, [], rfl, List.forall_mem_cons.mpr ⟨Or.inr ⟨by decide, 1, by decide, by decide +kernel⟩, (fun q h => by cases h)⟩, by decide, by decide, by decide +kernel, by decide, Or.inr ⟨by decide +kernel, rfl⟩⟩, (fun q h => by cases h)⟩⟩
  exact sm_con2 hI hfl (by decide) (sm_mk_tok td_L_addSlope fo_L ko_L no_L so_L) (sm_mk_cal hc) sm_rets_of.2.2.1 rfl (fun _ => rfl) (fun pc x pc1 kv h => hh9 ((pc, x), (pc1, kv)) (sm_look2 h)) (fun _ => rfl) (by decide)
def tb_L_removeSlope : List (Nat × Instr × Nat) := [(0, .aload_n 2, 1), (1, .iconst 0, 1), (2, .aload_n 0, 1), (3, .iload_n 1, 1), (4, .invokevirtual 61, 3), (7, .i2l, 1), (8, .lastore, 1), (9, .goto 9, 3), (12, .astore_n 3, 1), (13, .iconst 1, 1), (14, .ireturn, 1), (15, .astore_n 3, 1), (16, .iconst 2, 1), (17, .ireturn, 1), (18, .iconst 0, 1), (19, .ireturn, 1)]
theorem td_L_removeSlope : ∀ q ∈ tb_L_removeSlope, decode cL_removeSlope q.1 = .ok q.2 := by decide +kernel
theorem cs_L_removeSlope_61 : sm_Cs RL 61 0 2 9 yX9_removeSlope cX9_removeSlope 2 (some .int) [] := by unfold sm_Cs; decide +kernel
noncomputable def T_L_removeSlope : sm_T := sm_mk tb_L_removeSlope fl_L [(61, (0, 2, 2, 9, F_X9_removeSlope))] [((4, 3), (13, 3)), ((4, 2), (16, 3))] [] kl_L nt_L st_L sm_noro 11
noncomputable def F_L_removeSlope : sm_F := sm_fn T_L_removeSlope 4 2
theorem con_L_removeSlope {l : Launch} {G : sm_G} (hI : sm_Inj G) (hfl : l.stackTraces = false) : sm_Con l G yL_removeSlope (.codeWith yL_removeSlope cL_removeSlope 4 (some .int) [(0, 9, 12, 28), (0, 9, 15, 15)]) 8 2 F_L_removeSlope := by
  have hc : ∀ q ∈ ([(61, (0, 2, 2, 9, F_X9_removeSlope))] : List (Nat × sm_K)), sm_Cal1 l G RL 8 q := List.forall_mem_cons.mpr ⟨⟨yX9_removeSlope, cX9_removeSlope, 2, (some .int), [], 7, cs_L_removeSlope_61, con_X9_removeSlope hI hfl, by decide⟩, fun q h => by cases h⟩
  have hh9 : ∀ q ∈ ([((4, 3), (13, 3)), ((4, 2), (16, 3))] : List ((Nat × Nat) × (Nat × Nat))), sm_Hn RL cL_removeSlope (tableOf [(0, 9, 12, 28), (0, 9, 15, 15)]) q.1.1 q.1.2 q.2.1 q.2.2 4 := List.forall_mem_cons.mpr ⟨⟨[], ⟨0, 9, 12, 28⟩, [⟨0, 9, 15, 15⟩], rfl, (fun q h => by cases h), by decide, by decide, by decide +kernel, by decide, Or.inl ⟨3, rfl, by decide +kernel, rfl⟩⟩, List.forall_mem_cons.mpr ⟨⟨[⟨0, 9, 12, 28⟩], ⟨0, 9, 15, 15⟩, [], rfl, List.forall_mem_cons.mpr ⟨Or.inr ⟨by decide, 3, by decide, by decide +kernel⟩, (fun q h => by cases h)⟩, by decide, by decide, by decide +kernel, by decide, Or.inl ⟨3, rfl, by decide +kernel, rfl⟩⟩, (fun q h => by cases h)⟩⟩
  exact sm_con2 hI hfl (by decide) (sm_mk_tok td_L_removeSlope fo_L ko_L no_L so_L) (sm_mk_cal hc) sm_rets_of.2.2.1 rfl (fun _ => rfl) (fun pc x pc1 kv h => hh9 ((pc, x), (pc1, kv)) (sm_look2 h)) (fun _ => rfl) (by decide)
def tb_L_addGun : List (Nat × Instr × Nat) := [(0, .aload_n 3, 1), (1, .iconst 0, 1), (2, .aload_n 0, 1), (3, .iload_n 1, 1), (4, .iload_n 2, 1), (5, .invokevirtual 64, 3), (8, .i2l, 1), (9, .lastore, 1), (10, .goto 15, 3), (13, .astore 4, 2), (15, .iconst 1, 1), (16, .ireturn, 1), (17, .astore 4, 2), (19, .iconst 2, 1), (20, .ireturn, 1), (21, .astore 4, 2), (23, .iconst 3, 1), (24, .ireturn, 1), (25, .iconst 0, 1), (26, .ireturn, 1)]
theorem td_L_addGun : ∀ q ∈ tb_L_addGun, decode cL_addGun q.1 = .ok q.2 := by decide +kernel
theorem cs_L_addGun_64 : sm_Cs RL 64 0 3 9 yX9_addGun cX9_addGun 3 (some .int) [] := by unfold sm_Cs; decide +kernel
noncomputable def T_L_addGun : sm_T := sm_mk tb_L_addGun fl_L [(64, (0, 3, 3, 9, F_X9_addGun))] [((5, 3), (15, 4)), ((5, 1), (19, 4)), ((5, 2), (23, 4))] [] kl_L nt_L st_L sm_noro 11
noncomputable def F_L_addGun : sm_F := sm_fn T_L_addGun 5 3
theorem con_L_addGun {l : Launch} {G : sm_G} (hI : sm_Inj G) (hfl : l.stackTraces = false) : sm_Con l G yL_addGun (.codeWith yL_addGun cL_addGun 5 (some .int) [(0, 10, 13, 28), (0, 10, 17, 13), (0, 10, 21, 15)]) 8 3 F_L_addGun := by
  have hc : ∀ q ∈ ([(64, (0, 3, 3, 9, F_X9_addGun))] : List (Nat × sm_K)), sm_Cal1 l G RL 8 q := List.forall_mem_cons.mpr ⟨⟨yX9_addGun, cX9_addGun, 3, (some .int), [], 7, cs_L_addGun_64, con_X9_addGun hI hfl, by decide⟩, fun q h => by cases h⟩
  have hh9 : ∀ q ∈ ([((5, 3), (15, 4)), ((5, 1), (19, 4)), ((5, 2), (23, 4))] : List ((Nat × Nat) × (Nat × Nat))), sm_Hn RL cL_addGun (tableOf [(0, 10, 13, 28), (0, 10, 17, 13), (0, 10, 21, 15)]) q.1.1 q.1.2 q.2.1 q.2.2 5 := List.forall_mem_cons.mpr ⟨⟨[], ⟨0, 10, 13, 28⟩, [⟨0, 10, 17, 13⟩, ⟨0, 10, 21, 15⟩], rfl, (fun q h => by cases h), by decide, by decide, by decide +kernel, by decide, Or.inr ⟨by decide +kernel, rfl⟩⟩, List.forall_mem_cons.mpr ⟨⟨[⟨0, 10, 13, 28⟩], ⟨0, 10, 17, 13⟩, [⟨0, 10, 21, 15⟩], rfl, List.forall_mem_cons.mpr ⟨Or.inr ⟨by decide, 3, by decide, by decide +kernel⟩, (fun q h => by cases h)⟩, by decide, by decide, by decide +kernel, by decide, Or.inr ⟨by decide +kernel, rfl⟩⟩, List.forall_mem_cons.mpr ⟨⟨[⟨0, 10, 13, 28⟩, ⟨0, 10, 17, 13⟩], ⟨0, 10, 21, 15⟩, [], rfl, List.forall_mem_cons.mpr ⟨Or.inr ⟨by decide, 3, by decide, by decide +kernel⟩, List.forall_mem_cons.mpr ⟨Or.inr ⟨by decide, 1, by decide, by decide +kernel⟩, (fun q h => by cases h)⟩⟩, by decide, by decide, by decide +kernel, by decide, Or.inr ⟨by decide +kernel, rfl⟩⟩, (fun q h => by cases h)⟩⟩⟩
  exact sm_con2 hI hfl (by decide) (sm_mk_tok td_L_addGun fo_L ko_L no_L so_L) (sm_mk_cal hc) sm_rets_of.2.2.1 rfl (fun _ => rfl) (fun pc x pc1 kv h => hh9 ((pc, x), (pc1, kv)) (sm_look2 h)) (fun _ => rfl) (by decide)
def tb_L_bring : List (Nat × Instr × Nat) := [(0, .aload_n 3, 1), (1, .iconst 0, 1), (2, .aload_n 0, 1), (3, .iload_n 1, 1), (4, .iload_n 2, 1), (5, .invokevirtual 67, 3), (8, .i2l, 1), (9, .lastore, 1), (10, .goto 7, 3), (13, .astore 4, 2), (15, .iconst 1, 1), (16, .ireturn, 1), (17, .iconst 0, 1), (18, .ireturn, 1)]
theorem td_L_bring : ∀ q ∈ tb_L_bring, decode cL_bring q.1 = .ok q.2 := by decide +kernel
theorem cs_L_bring_67 : sm_Cs RL 67 0 3 9 yX9_bring cX9_bring 3 (some .int) [] := by unfold sm_Cs; decide +kernel
noncomputable def T_L_bring : sm_T := sm_mk tb_L_bring fl_L [(67, (0, 3, 2, 9, F_X9_bring))] [((5, 3), (15, 4))] [] kl_L nt_L st_L sm_noro 11
noncomputable def F_L_bring : sm_F := sm_fn T_L_bring 5 2
theorem con_L_bring {l : Launch} {G : sm_G} (hI : sm_Inj G) (hfl : l.stackTraces = false) : sm_Con l G yL_bring (.codeWith yL_bring cL_bring 5 (some .int) [(0, 10, 13, 28)]) 8 2 F_L_bring := by
  have hc : ∀ q ∈ ([(67, (0, 3, 2, 9, F_X9_bring))] : List (Nat × sm_K)), sm_Cal1 l G RL 8 q := List.forall_mem_cons.mpr ⟨⟨yX9_bring, cX9_bring, 3, (some .int), [], 7, cs_L_bring_67, con_X9_bring hI hfl, by decide⟩, fun q h => by cases h⟩
  have hh9 : ∀ q ∈ ([((5, 3), (15, 4))] : List ((Nat × Nat) × (Nat × Nat))), sm_Hn RL cL_bring (tableOf [(0, 10, 13, 28)]) q.1.1 q.1.2 q.2.1 q.2.2 5 := List.forall_mem_cons.mpr ⟨⟨[], ⟨0, 10, 13, 28⟩, [], rfl, (fun q h => by cases h), by decide, by decide, by decide +kernel, by decide, Or.inr ⟨by decide +kernel, rfl⟩⟩, (fun q h => by cases h)⟩
  exact sm_con2 hI hfl (by decide) (sm_mk_tok td_L_bring fo_L ko_L no_L so_L) (sm_mk_cal hc) sm_rets_of.2.2.1 rfl (fun _ => rfl) (fun pc x pc1 kv h => hh9 ((pc, x), (pc1, kv)) (sm_look2 h)) (fun _ => rfl) (by decide)
def tb_L_allow : List (Nat × Instr × Nat) := [(0, .aload_n 3, 1), (1, .iconst 0, 1), (2, .aload_n 0, 1), (3, .iload_n 1, 1), (4, .iload_n 2, 1), (5, .invokevirtual 70, 3), (8, .i2l, 1), (9, .lastore, 1), (10, .goto 7, 3), (13, .astore 4, 2), (15, .iconst 1, 1), (16, .ireturn, 1), (17, .iconst 0, 1), (18, .ireturn, 1)]
theorem td_L_allow : ∀ q ∈ tb_L_allow, decode cL_allow q.1 = .ok q.2 := by decide +kernel
theorem cs_L_allow_70 : sm_Cs RL 70 0 3 9 yX9_allow cX9_allow 3 (some .int) [] := by unfold sm_Cs; decide +kernel
noncomputable def T_L_allow : sm_T := sm_mk tb_L_allow fl_L [(70, (0, 3, 1, 9, F_X9_allow))] [((5, 3), (15, 4))] [] kl_L nt_L st_L sm_noro 11
noncomputable def F_L_allow : sm_F := sm_fn T_L_allow 5 1
theorem con_L_allow {l : Launch} {G : sm_G} (hI : sm_Inj G) (hfl : l.stackTraces = false) : sm_Con l G yL_allow (.codeWith yL_allow cL_allow 5 (some .int) [(0, 10, 13, 28)]) 8 1 F_L_allow := by
  have hc : ∀ q ∈ ([(70, (0, 3, 1, 9, F_X9_allow))] : List (Nat × sm_K)), sm_Cal1 l G RL 8 q := List.forall_mem_cons.mpr ⟨⟨yX9_allow, cX9_allow, 3, (some .int), [], 7, cs_L_allow_70, con_X9_allow hI hfl, by decide⟩, fun q h => by cases h⟩
  have hh9 : ∀ q ∈ ([((5, 3), (15, 4))] : List ((Nat × Nat) × (Nat × Nat))), sm_Hn RL cL_allow (tableOf [(0, 10, 13, 28)]) q.1.1 q.1.2 q.2.1 q.2.2 5 := List.forall_mem_cons.mpr ⟨⟨[], ⟨0, 10, 13, 28⟩, [], rfl, (fun q h => by cases h), by decide, by decide, by decide +kernel, by decide, Or.inr ⟨by decide +kernel, rfl⟩⟩, (fun q h => by cases h)⟩
  exact sm_con2 hI hfl (by decide) (sm_mk_tok td_L_allow fo_L ko_L no_L so_L) (sm_mk_cal hc) sm_rets_of.2.2.1 rfl (fun _ => rfl) (fun pc x pc1 kv h => hh9 ((pc, x), (pc1, kv)) (sm_look2 h)) (fun _ => rfl) (by decide)
def tb_L_undo : List (Nat × Instr × Nat) := [(0, .aload_n 1, 1), (1, .iconst 0, 1), (2, .aload_n 0, 1), (3, .invokevirtual 74, 3), (6, .i2l, 1), (7, .lastore, 1), (8, .goto 6, 3), (11, .astore_n 2, 1), (12, .iconst 1, 1), (13, .ireturn, 1), (14, .iconst 0, 1), (15, .ireturn, 1)]
theorem td_L_undo : ∀ q ∈ tb_L_undo, decode cL_undo q.1 = .ok q.2 := by decide +kernel
theorem cs_L_undo_74 : sm_Cs RL 74 0 1 9 yX9_undo cX9_undo 1 (some .int) [] := by unfold sm_Cs; decide +kernel
noncomputable def T_L_undo : sm_T := sm_mk tb_L_undo fl_L [(74, (0, 1, 1, 9, F_X9_undo))] [((3, 2), (12, 2))] [] kl_L nt_L st_L sm_noro 11
noncomputable def F_L_undo : sm_F := sm_fn T_L_undo 3 1
theorem con_L_undo {l : Launch} {G : sm_G} (hI : sm_Inj G) (hfl : l.stackTraces = false) : sm_Con l G yL_undo (.codeWith yL_undo cL_undo 3 (some .int) [(0, 8, 11, 15)]) 7 1 F_L_undo := by
  have hc : ∀ q ∈ ([(74, (0, 1, 1, 9, F_X9_undo))] : List (Nat × sm_K)), sm_Cal1 l G RL 7 q := List.forall_mem_cons.mpr ⟨⟨yX9_undo, cX9_undo, 1, (some .int), [], 6, cs_L_undo_74, con_X9_undo hI hfl, by decide⟩, fun q h => by cases h⟩
  have hh9 : ∀ q ∈ ([((3, 2), (12, 2))] : List ((Nat × Nat) × (Nat × Nat))), sm_Hn RL cL_undo (tableOf [(0, 8, 11, 15)]) q.1.1 q.1.2 q.2.1 q.2.2 3 := List.forall_mem_cons.mpr ⟨⟨[], ⟨0, 8, 11, 15⟩, [], rfl, (fun q h => by cases h), by decide, by decide, by decide +kernel, by decide, Or.inl ⟨2, rfl, by decide +kernel, rfl⟩⟩, (fun q h => by cases h)⟩
  exact sm_con2 hI hfl (by decide) (sm_mk_tok td_L_undo fo_L ko_L no_L so_L) (sm_mk_cal hc) sm_rets_of.2.2.1 rfl (fun _ => rfl) (fun pc x pc1 kv h => hh9 ((pc, x), (pc1, kv)) (sm_look2 h)) (fun _ => rfl) (by decide)
def tb_L_whyNot : List (Nat × Instr × Nat) := [(0, .aload_n 2, 1), (1, .iconst 0, 1), (2, .aload_n 0, 1), (3, .iload_n 1, 1), (4, .invokevirtual 77, 3), (7, .i2l, 1), (8, .lastore, 1), (9, .goto 6, 3), (12, .astore_n 3, 1), (13, .iconst 1, 1), (14, .ireturn, 1), (15, .iconst 0, 1), (16, .ireturn, 1)]
theorem td_L_whyNot : ∀ q ∈ tb_L_whyNot, decode cL_whyNot q.1 = .ok q.2 := by decide +kernel
theorem cs_L_whyNot_77 : sm_Cs RL 77 0 2 9 yX9_whyNot cX9_whyNot 2 (some .int) [] := by unfold sm_Cs; decide +kernel
noncomputable def T_L_whyNot : sm_T := sm_mk tb_L_whyNot fl_L [(77, (0, 2, 1, 9, F_X9_whyNot))] [((4, 3), (13, 3))] [] kl_L nt_L st_L sm_noro 11
noncomputable def F_L_whyNot : sm_F := sm_fn T_L_whyNot 4 1
theorem con_L_whyNot {l : Launch} {G : sm_G} (hI : sm_Inj G) (hfl : l.stackTraces = false) : sm_Con l G yL_whyNot (.codeWith yL_whyNot cL_whyNot 4 (some .int) [(0, 9, 12, 28)]) 8 1 F_L_whyNot := by
  have hc : ∀ q ∈ ([(77, (0, 2, 1, 9, F_X9_whyNot))] : List (Nat × sm_K)), sm_Cal1 l G RL 8 q := List.forall_mem_cons.mpr ⟨⟨yX9_whyNot, cX9_whyNot, 2, (some .int), [], 7, cs_L_whyNot_77, con_X9_whyNot hI hfl, by decide⟩, fun q h => by cases h⟩
  have hh9 : ∀ q ∈ ([((4, 3), (13, 3))] : List ((Nat × Nat) × (Nat × Nat))), sm_Hn RL cL_whyNot (tableOf [(0, 9, 12, 28)]) q.1.1 q.1.2 q.2.1 q.2.2 4 := List.forall_mem_cons.mpr ⟨⟨[], ⟨0, 9, 12, 28⟩, [], rfl, (fun q h => by cases h), by decide, by decide, by decide +kernel, by decide, Or.inl ⟨3, rfl, by decide +kernel, rfl⟩⟩, (fun q h => by cases h)⟩
  exact sm_con2 hI hfl (by decide) (sm_mk_tok td_L_whyNot fo_L ko_L no_L so_L) (sm_mk_cal hc) sm_rets_of.2.2.1 rfl (fun _ => rfl) (fun pc x pc1 kv h => hh9 ((pc, x), (pc1, kv)) (sm_look2 h)) (fun _ => rfl) (by decide)
def tb_L_order : List (Nat × Instr × Nat) := [(0, .aload_n 2, 1), (1, .iconst 0, 1), (2, .aload_n 0, 1), (3, .iload_n 1, 1), (4, .invokevirtual 80, 3), (7, .i2l, 1), (8, .lastore, 1), (9, .goto 6, 3), (12, .astore_n 3, 1), (13, .iconst 1, 1), (14, .ireturn, 1), (15, .iconst 0, 1), (16, .ireturn, 1)]
theorem td_L_order : ∀ q ∈ tb_L_order, decode cL_order q.1 = .ok q.2 := by decide +kernel
theorem cs_L_order_80 : sm_Cs RL 80 0 2 9 yX9_order cX9_order 2 (some .int) [] := by unfold sm_Cs; decide +kernel
noncomputable def T_L_order : sm_T := sm_mk tb_L_order fl_L [(80, (0, 2, 1, 9, F_X9_order))] [((4, 1), (13, 3))] [] kl_L nt_L st_L sm_noro 11
noncomputable def F_L_order : sm_F := sm_fn T_L_order 4 1
theorem con_L_order {l : Launch} {G : sm_G} (hI : sm_Inj G) (hfl : l.stackTraces = false) : sm_Con l G yL_order (.codeWith yL_order cL_order 4 (some .int) [(0, 9, 12, 13)]) 7 1 F_L_order := by
  have hc : ∀ q ∈ ([(80, (0, 2, 1, 9, F_X9_order))] : List (Nat × sm_K)), sm_Cal1 l G RL 7 q := List.forall_mem_cons.mpr ⟨⟨yX9_order, cX9_order, 2, (some .int), [], 6, cs_L_order_80, con_X9_order hI hfl, by decide⟩, fun q h => by cases h⟩
  have hh9 : ∀ q ∈ ([((4, 1), (13, 3))] : List ((Nat × Nat) × (Nat × Nat))), sm_Hn RL cL_order (tableOf [(0, 9, 12, 13)]) q.1.1 q.1.2 q.2.1 q.2.2 4 := List.forall_mem_cons.mpr ⟨⟨[], ⟨0, 9, 12, 13⟩, [], rfl, (fun q h => by cases h), by decide, by decide, by decide +kernel, by decide, Or.inl ⟨3, rfl, by decide +kernel, rfl⟩⟩, (fun q h => by cases h)⟩
  exact sm_con2 hI hfl (by decide) (sm_mk_tok td_L_order fo_L ko_L no_L so_L) (sm_mk_cal hc) sm_rets_of.2.2.1 rfl (fun _ => rfl) (fun pc x pc1 kv h => hh9 ((pc, x), (pc1, kv)) (sm_look2 h)) (fun _ => rfl) (by decide)
def tb_L_ahead : List (Nat × Instr × Nat) := [(0, .aload_n 3, 1), (1, .iconst 0, 1), (2, .aload_n 0, 1), (3, .iload_n 1, 1), (4, .iload_n 2, 1), (5, .invokevirtual 83, 3), (8, .i2l, 1), (9, .lastore, 1), (10, .goto 7, 3), (13, .astore 4, 2), (15, .iconst 1, 1), (16, .ireturn, 1), (17, .iconst 0, 1), (18, .ireturn, 1)]
theorem td_L_ahead : ∀ q ∈ tb_L_ahead, decode cL_ahead q.1 = .ok q.2 := by decide +kernel
theorem cs_L_ahead_83 : sm_Cs RL 83 0 3 9 yX9_ahead cX9_ahead 3 (some .int) [] := by unfold sm_Cs; decide +kernel
noncomputable def T_L_ahead : sm_T := sm_mk tb_L_ahead fl_L [(83, (0, 3, 1, 9, F_X9_ahead))] [((5, 1), (15, 4))] [] kl_L nt_L st_L sm_noro 11
noncomputable def F_L_ahead : sm_F := sm_fn T_L_ahead 5 1
theorem con_L_ahead {l : Launch} {G : sm_G} (hI : sm_Inj G) (hfl : l.stackTraces = false) : sm_Con l G yL_ahead (.codeWith yL_ahead cL_ahead 5 (some .int) [(0, 10, 13, 13)]) 7 1 F_L_ahead := by
  have hc : ∀ q ∈ ([(83, (0, 3, 1, 9, F_X9_ahead))] : List (Nat × sm_K)), sm_Cal1 l G RL 7 q := List.forall_mem_cons.mpr ⟨⟨yX9_ahead, cX9_ahead, 3, (some .int), [], 6, cs_L_ahead_83, con_X9_ahead hI hfl, by decide⟩, fun q h => by cases h⟩
  have hh9 : ∀ q ∈ ([((5, 1), (15, 4))] : List ((Nat × Nat) × (Nat × Nat))), sm_Hn RL cL_ahead (tableOf [(0, 10, 13, 13)]) q.1.1 q.1.2 q.2.1 q.2.2 5 := List.forall_mem_cons.mpr ⟨⟨[], ⟨0, 10, 13, 13⟩, [], rfl, (fun q h => by cases h), by decide, by decide, by decide +kernel, by decide, Or.inr ⟨by decide +kernel, rfl⟩⟩, (fun q h => by cases h)⟩
  exact sm_con2 hI hfl (by decide) (sm_mk_tok td_L_ahead fo_L ko_L no_L so_L) (sm_mk_cal hc) sm_rets_of.2.2.1 rfl (fun _ => rfl) (fun pc x pc1 kv h => hh9 ((pc, x), (pc1, kv)) (sm_look2 h)) (fun _ => rfl) (by decide)
def tb_L_readyAfter : List (Nat × Instr × Nat) := [(0, .aload_n 2, 1), (1, .iconst 0, 1), (2, .aload_n 0, 1), (3, .iload_n 1, 1), (4, .invokevirtual 86, 3), (7, .i2l, 1), (8, .lastore, 1), (9, .goto 6, 3), (12, .astore_n 3, 1), (13, .iconst 1, 1), (14, .ireturn, 1), (15, .iconst 0, 1), (16, .ireturn, 1)]
theorem td_L_readyAfter : ∀ q ∈ tb_L_readyAfter, decode cL_readyAfter q.1 = .ok q.2 := by decide +kernel
theorem cs_L_readyAfter_86 : sm_Cs RL 86 0 2 9 yX9_readyAfter cX9_readyAfter 3 (some .int) [] := by unfold sm_Cs; decide +kernel
noncomputable def T_L_readyAfter : sm_T := sm_mk tb_L_readyAfter fl_L [(86, (0, 2, 1, 9, F_X9_readyAfter))] [((4, 3), (13, 3))] [] kl_L nt_L st_L sm_noro 11
noncomputable def F_L_readyAfter : sm_F := sm_fn T_L_readyAfter 4 1
theorem con_L_readyAfter {l : Launch} {G : sm_G} (hI : sm_Inj G) (hfl : l.stackTraces = false) : sm_Con l G yL_readyAfter (.codeWith yL_readyAfter cL_readyAfter 4 (some .int) [(0, 9, 12, 28)]) 8 1 F_L_readyAfter := by
  have hc : ∀ q ∈ ([(86, (0, 2, 1, 9, F_X9_readyAfter))] : List (Nat × sm_K)), sm_Cal1 l G RL 8 q := List.forall_mem_cons.mpr ⟨⟨yX9_readyAfter, cX9_readyAfter, 3, (some .int), [], 7, cs_L_readyAfter_86, con_X9_readyAfter hI hfl, by decide⟩, fun q h => by cases h⟩
  have hh9 : ∀ q ∈ ([((4, 3), (13, 3))] : List ((Nat × Nat) × (Nat × Nat))), sm_Hn RL cL_readyAfter (tableOf [(0, 9, 12, 28)]) q.1.1 q.1.2 q.2.1 q.2.2 4 := List.forall_mem_cons.mpr ⟨⟨[], ⟨0, 9, 12, 28⟩, [], rfl, (fun q h => by cases h), by decide, by decide, by decide +kernel, by decide, Or.inl ⟨3, rfl, by decide +kernel, rfl⟩⟩, (fun q h => by cases h)⟩
  exact sm_con2 hI hfl (by decide) (sm_mk_tok td_L_readyAfter fo_L ko_L no_L so_L) (sm_mk_cal hc) sm_rets_of.2.2.1 rfl (fun _ => rfl) (fun pc x pc1 kv h => hh9 ((pc, x), (pc1, kv)) (sm_look2 h)) (fun _ => rfl) (by decide)
def tb_L_bestPlace : List (Nat × Instr × Nat) := [(0, .aload_n 3, 1), (1, .iconst 0, 1), (2, .aload_n 0, 1), (3, .iload_n 1, 1), (4, .iload_n 2, 1), (5, .invokevirtual 89, 3), (8, .i2l, 1), (9, .lastore, 1), (10, .goto 7, 3), (13, .astore 4, 2), (15, .iconst 1, 1), (16, .ireturn, 1), (17, .iconst 0, 1), (18, .ireturn, 1)]
theorem td_L_bestPlace : ∀ q ∈ tb_L_bestPlace, decode cL_bestPlace q.1 = .ok q.2 := by decide +kernel
theorem cs_L_bestPlace_89 : sm_Cs RL 89 0 3 9 yX9_bestPlace cX9_bestPlace 9 (some .int) [] := by unfold sm_Cs; decide +kernel
noncomputable def T_L_bestPlace : sm_T := sm_mk tb_L_bestPlace fl_L [(89, (0, 3, 2, 9, F_X9_bestPlace))] [((5, 1), (15, 4))] [] kl_L nt_L st_L sm_noro 11
noncomputable def F_L_bestPlace : sm_F := sm_fn T_L_bestPlace 5 2
theorem con_L_bestPlace {l : Launch} {G : sm_G} (hI : sm_Inj G) (hfl : l.stackTraces = false) : sm_Con l G yL_bestPlace (.codeWith yL_bestPlace cL_bestPlace 5 (some .int) [(0, 10, 13, 13)]) 8 2 F_L_bestPlace := by
  have hc : ∀ q ∈ ([(89, (0, 3, 2, 9, F_X9_bestPlace))] : List (Nat × sm_K)), sm_Cal1 l G RL 8 q := List.forall_mem_cons.mpr ⟨⟨yX9_bestPlace, cX9_bestPlace, 9, (some .int), [], 7, cs_L_bestPlace_89, con_X9_bestPlace hI hfl, by decide⟩, fun q h => by cases h⟩
  have hh9 : ∀ q ∈ ([((5, 1), (15, 4))] : List ((Nat × Nat) × (Nat × Nat))), sm_Hn RL cL_bestPlace (tableOf [(0, 10, 13, 13)]) q.1.1 q.1.2 q.2.1 q.2.2 5 := List.forall_mem_cons.mpr ⟨⟨[], ⟨0, 10, 13, 13⟩, [], rfl, (fun q h => by cases h), by decide, by decide, by decide +kernel, by decide, Or.inr ⟨by decide +kernel, rfl⟩⟩, (fun q h => by cases h)⟩
  exact sm_con2 hI hfl (by decide) (sm_mk_tok td_L_bestPlace fo_L ko_L no_L so_L) (sm_mk_cal hc) sm_rets_of.2.2.1 rfl (fun _ => rfl) (fun pc x pc1 kv h => hh9 ((pc, x), (pc1, kv)) (sm_look2 h)) (fun _ => rfl) (by decide)
def tb_L_missing : List (Nat × Instr × Nat) := [(0, .aload_n 2, 1), (1, .iconst 0, 1), (2, .aload_n 0, 1), (3, .iload_n 1, 1), (4, .invokevirtual 92, 3), (7, .i2l, 1), (8, .lastore, 1), (9, .goto 6, 3), (12, .astore_n 3, 1), (13, .iconst 1, 1), (14, .ireturn, 1), (15, .iconst 0, 1), (16, .ireturn, 1)]
theorem td_L_missing : ∀ q ∈ tb_L_missing, decode cL_missing q.1 = .ok q.2 := by decide +kernel
theorem cs_L_missing_92 : sm_Cs RL 92 0 2 9 yX9_missing cX9_missing 7 (some .int) [] := by unfold sm_Cs; decide +kernel
noncomputable def T_L_missing : sm_T := sm_mk tb_L_missing fl_L [(92, (0, 2, 1, 9, F_X9_missing))] [((4, 1), (13, 3))] [] kl_L nt_L st_L sm_noro 11
noncomputable def F_L_missing : sm_F := sm_fn T_L_missing 4 1
theorem con_L_missing {l : Launch} {G : sm_G} (hI : sm_Inj G) (hfl : l.stackTraces = false) : sm_Con l G yL_missing (.codeWith yL_missing cL_missing 4 (some .int) [(0, 9, 12, 13)]) 8 1 F_L_missing := by
  have hc : ∀ q ∈ ([(92, (0, 2, 1, 9, F_X9_missing))] : List (Nat × sm_K)), sm_Cal1 l G RL 8 q := List.forall_mem_cons.mpr ⟨⟨yX9_missing, cX9_missing, 7, (some .int), [], 7, cs_L_missing_92, con_X9_missing hI hfl, by decide⟩, fun q h => by cases h⟩
  have hh9 : ∀ q ∈ ([((4, 1), (13, 3))] : List ((Nat × Nat) × (Nat × Nat))), sm_Hn RL cL_missing (tableOf [(0, 9, 12, 13)]) q.1.1 q.1.2 q.2.1 q.2.2 4 := List.forall_mem_cons.mpr ⟨⟨[], ⟨0, 9, 12, 13⟩, [], rfl, (fun q h => by cases h), by decide, by decide, by decide +kernel, by decide, Or.inl ⟨3, rfl, by decide +kernel, rfl⟩⟩, (fun q h => by cases h)⟩
  exact sm_con2 hI hfl (by decide) (sm_mk_tok td_L_missing fo_L ko_L no_L so_L) (sm_mk_cal hc) sm_rets_of.2.2.1 rfl (fun _ => rfl) (fun pc x pc1 kv h => hh9 ((pc, x), (pc1, kv)) (sm_look2 h)) (fun _ => rfl) (by decide)
def tb_L_coldest : List (Nat × Instr × Nat) := [(0, .aload_n 2, 1), (1, .iconst 0, 1), (2, .aload_n 0, 1), (3, .iload_n 1, 1), (4, .invokevirtual 95, 3), (7, .i2l, 1), (8, .lastore, 1), (9, .goto 6, 3), (12, .astore_n 3, 1), (13, .iconst 1, 1), (14, .ireturn, 1), (15, .iconst 0, 1), (16, .ireturn, 1)]
theorem td_L_coldest : ∀ q ∈ tb_L_coldest, decode cL_coldest q.1 = .ok q.2 := by decide +kernel
theorem cs_L_coldest_95 : sm_Cs RL 95 0 2 9 yX9_coldest cX9_coldest 7 (some .int) [] := by unfold sm_Cs; decide +kernel
noncomputable def T_L_coldest : sm_T := sm_mk tb_L_coldest fl_L [(95, (0, 2, 1, 9, F_X9_coldest))] [((4, 1), (13, 3))] [] kl_L nt_L st_L sm_noro 11
noncomputable def F_L_coldest : sm_F := sm_fn T_L_coldest 4 1
theorem con_L_coldest {l : Launch} {G : sm_G} (hI : sm_Inj G) (hfl : l.stackTraces = false) : sm_Con l G yL_coldest (.codeWith yL_coldest cL_coldest 4 (some .int) [(0, 9, 12, 13)]) 7 1 F_L_coldest := by
  have hc : ∀ q ∈ ([(95, (0, 2, 1, 9, F_X9_coldest))] : List (Nat × sm_K)), sm_Cal1 l G RL 7 q := List.forall_mem_cons.mpr ⟨⟨yX9_coldest, cX9_coldest, 7, (some .int), [], 6, cs_L_coldest_95, con_X9_coldest hI hfl, by decide⟩, fun q h => by cases h⟩
  have hh9 : ∀ q ∈ ([((4, 1), (13, 3))] : List ((Nat × Nat) × (Nat × Nat))), sm_Hn RL cL_coldest (tableOf [(0, 9, 12, 13)]) q.1.1 q.1.2 q.2.1 q.2.2 4 := List.forall_mem_cons.mpr ⟨⟨[], ⟨0, 9, 12, 13⟩, [], rfl, (fun q h => by cases h), by decide, by decide, by decide +kernel, by decide, Or.inl ⟨3, rfl, by decide +kernel, rfl⟩⟩, (fun q h => by cases h)⟩
  exact sm_con2 hI hfl (by decide) (sm_mk_tok td_L_coldest fo_L ko_L no_L so_L) (sm_mk_cal hc) sm_rets_of.2.2.1 rfl (fun _ => rfl) (fun pc x pc1 kv h => hh9 ((pc, x), (pc1, kv)) (sm_look2 h)) (fun _ => rfl) (by decide)
def tb_L_runScript : List (Nat × Instr × Nat) := [(0, .aload 4, 2), (2, .iconst 0, 1), (3, .aload_n 0, 1), (4, .iload_n 1, 1), (5, .lload_n 2, 1), (6, .invokevirtual 98, 3), (9, .i2l, 1), (10, .lastore, 1), (11, .goto 7, 3), (14, .astore 5, 2), (16, .iconst 1, 1), (17, .ireturn, 1), (18, .iconst 0, 1), (19, .ireturn, 1)]
theorem td_L_runScript : ∀ q ∈ tb_L_runScript, decode cL_runScript q.1 = .ok q.2 := by decide +kernel
theorem cs_L_runScript_98 : sm_Cs RL 98 0 3 9 yX9_runScript cX9_runScript 7 (some .int) [] := by unfold sm_Cs; decide +kernel
noncomputable def T_L_runScript : sm_T := sm_mk tb_L_runScript fl_L [(98, (0, 3, 1, 9, F_X9_runScript))] [((6, 1), (16, 5))] [] kl_L nt_L st_L sm_noro 11
noncomputable def F_L_runScript : sm_F := sm_fn T_L_runScript 6 1
theorem con_L_runScript {l : Launch} {G : sm_G} (hI : sm_Inj G) (hfl : l.stackTraces = false) : sm_Con l G yL_runScript (.codeWith yL_runScript cL_runScript 6 (some .int) [(0, 11, 14, 13)]) 8 1 F_L_runScript := by
  have hc : ∀ q ∈ ([(98, (0, 3, 1, 9, F_X9_runScript))] : List (Nat × sm_K)), sm_Cal1 l G RL 8 q := List.forall_mem_cons.mpr ⟨⟨yX9_runScript, cX9_runScript, 7, (some .int), [], 7, cs_L_runScript_98, con_X9_runScript hI hfl, by decide⟩, fun q h => by cases h⟩
  have hh9 : ∀ q ∈ ([((6, 1), (16, 5))] : List ((Nat × Nat) × (Nat × Nat))), sm_Hn RL cL_runScript (tableOf [(0, 11, 14, 13)]) q.1.1 q.1.2 q.2.1 q.2.2 6 := List.forall_mem_cons.mpr ⟨⟨[], ⟨0, 11, 14, 13⟩, [], rfl, (fun q h => by cases h), by decide, by decide, by decide +kernel, by decide, Or.inr ⟨by decide +kernel, rfl⟩⟩, (fun q h => by cases h)⟩
  exact sm_con2 hI hfl (by decide) (sm_mk_tok td_L_runScript fo_L ko_L no_L so_L) (sm_mk_cal hc) sm_rets_of.2.2.1 rfl (fun _ => rfl) (fun pc x pc1 kv h => hh9 ((pc, x), (pc1, kv)) (sm_look2 h)) (fun _ => rfl) (by decide)
def tb_L_simulate : List (Nat × Instr × Nat) := [(0, .aload 4, 2), (2, .iconst 0, 1), (3, .aload_n 0, 1), (4, .lload_n 1, 1), (5, .iload_n 3, 1), (6, .invokevirtual 102, 3), (9, .i2l, 1), (10, .lastore, 1), (11, .goto 7, 3), (14, .astore 5, 2), (16, .iconst 1, 1), (17, .ireturn, 1), (18, .iconst 0, 1), (19, .ireturn, 1)]
theorem td_L_simulate : ∀ q ∈ tb_L_simulate, decode cL_simulate q.1 = .ok q.2 := by decide +kernel
theorem cs_L_simulate_102 : sm_Cs RL 102 0 3 9 yX9_simulate cX9_simulate 7 (some .int) [] := by unfold sm_Cs; decide +kernel
noncomputable def T_L_simulate : sm_T := sm_mk tb_L_simulate fl_L [(102, (0, 3, 1, 9, F_X9_simulate))] [((6, 1), (16, 5))] [] kl_L nt_L st_L sm_noro 11
noncomputable def F_L_simulate : sm_F := sm_fn T_L_simulate 6 1
theorem con_L_simulate {l : Launch} {G : sm_G} (hI : sm_Inj G) (hfl : l.stackTraces = false) : sm_Con l G yL_simulate (.codeWith yL_simulate cL_simulate 6 (some .int) [(0, 11, 14, 13)]) 8 1 F_L_simulate := by
  have hc : ∀ q ∈ ([(102, (0, 3, 1, 9, F_X9_simulate))] : List (Nat × sm_K)), sm_Cal1 l G RL 8 q := List.forall_mem_cons.mpr ⟨⟨yX9_simulate, cX9_simulate, 7, (some .int), [], 7, cs_L_simulate_102, con_X9_simulate hI hfl, by decide⟩, fun q h => by cases h⟩
  have hh9 : ∀ q ∈ ([((6, 1), (16, 5))] : List ((Nat × Nat) × (Nat × Nat))), sm_Hn RL cL_simulate (tableOf [(0, 11, 14, 13)]) q.1.1 q.1.2 q.2.1 q.2.2 6 := List.forall_mem_cons.mpr ⟨⟨[], ⟨0, 11, 14, 13⟩, [], rfl, (fun q h => by cases h), by decide, by decide, by decide +kernel, by decide, Or.inr ⟨by decide +kernel, rfl⟩⟩, (fun q h => by cases h)⟩
  exact sm_con2 hI hfl (by decide) (sm_mk_tok td_L_simulate fo_L ko_L no_L so_L) (sm_mk_cal hc) sm_rets_of.2.2.1 rfl (fun _ => rfl) (fun pc x pc1 kv h => hh9 ((pc, x), (pc1, kv)) (sm_look2 h)) (fun _ => rfl) (by decide)
def tb_L_save : List (Nat × Instr × Nat) := [(0, .aload_n 2, 1), (1, .iconst 0, 1), (2, .aload_n 0, 1), (3, .iload_n 1, 1), (4, .invokevirtual 106, 3), (7, .i2l, 1), (8, .lastore, 1), (9, .goto 6, 3), (12, .astore_n 3, 1), (13, .iconst 1, 1), (14, .ireturn, 1), (15, .iconst 0, 1), (16, .ireturn, 1)]
theorem td_L_save : ∀ q ∈ tb_L_save, decode cL_save q.1 = .ok q.2 := by decide +kernel
theorem cs_L_save_106 : sm_Cs RL 106 0 2 9 yX9_save cX9_save 2 (some .int) [] := by unfold sm_Cs; decide +kernel
noncomputable def T_L_save : sm_T := sm_mk tb_L_save fl_L [(106, (0, 2, 1, 9, F_X9_save))] [((4, 3), (13, 3))] [] kl_L nt_L st_L sm_noro 11
noncomputable def F_L_save : sm_F := sm_fn T_L_save 4 1
theorem con_L_save {l : Launch} {G : sm_G} (hI : sm_Inj G) (hfl : l.stackTraces = false) : sm_Con l G yL_save (.codeWith yL_save cL_save 4 (some .int) [(0, 9, 12, 28)]) 8 1 F_L_save := by
  have hc : ∀ q ∈ ([(106, (0, 2, 1, 9, F_X9_save))] : List (Nat × sm_K)), sm_Cal1 l G RL 8 q := List.forall_mem_cons.mpr ⟨⟨yX9_save, cX9_save, 2, (some .int), [], 7, cs_L_save_106, con_X9_save hI hfl, by decide⟩, fun q h => by cases h⟩
  have hh9 : ∀ q ∈ ([((4, 3), (13, 3))] : List ((Nat × Nat) × (Nat × Nat))), sm_Hn RL cL_save (tableOf [(0, 9, 12, 28)]) q.1.1 q.1.2 q.2.1 q.2.2 4 := List.forall_mem_cons.mpr ⟨⟨[], ⟨0, 9, 12, 28⟩, [], rfl, (fun q h => by cases h), by decide, by decide, by decide +kernel, by decide, Or.inl ⟨3, rfl, by decide +kernel, rfl⟩⟩, (fun q h => by cases h)⟩
  exact sm_con2 hI hfl (by decide) (sm_mk_tok td_L_save fo_L ko_L no_L so_L) (sm_mk_cal hc) sm_rets_of.2.2.1 rfl (fun _ => rfl) (fun pc x pc1 kv h => hh9 ((pc, x), (pc1, kv)) (sm_look2 h)) (fun _ => rfl) (by decide)
def tb_L_restore : List (Nat × Instr × Nat) := [(0, .aload_n 2, 1), (1, .iconst 0, 1), (2, .aload_n 0, 1), (3, .iload_n 1, 1), (4, .invokevirtual 109, 3), (7, .i2l, 1), (8, .lastore, 1), (9, .goto 9, 3), (12, .astore_n 3, 1), (13, .iconst 1, 1), (14, .ireturn, 1), (15, .astore_n 3, 1), (16, .iconst 2, 1), (17, .ireturn, 1), (18, .iconst 0, 1), (19, .ireturn, 1)]
theorem td_L_restore : ∀ q ∈ tb_L_restore, decode cL_restore q.1 = .ok q.2 := by decide +kernel
theorem cs_L_restore_109 : sm_Cs RL 109 0 2 9 yX9_restore cX9_restore 2 (some .int) [] := by unfold sm_Cs; decide +kernel
noncomputable def T_L_restore : sm_T := sm_mk tb_L_restore fl_L [(109, (0, 2, 2, 9, F_X9_restore))] [((4, 3), (13, 3)), ((4, 2), (16, 3))] [] kl_L nt_L st_L sm_noro 11
noncomputable def F_L_restore : sm_F := sm_fn T_L_restore 4 2
theorem con_L_restore {l : Launch} {G : sm_G} (hI : sm_Inj G) (hfl : l.stackTraces = false) : sm_Con l G yL_restore (.codeWith yL_restore cL_restore 4 (some .int) [(0, 9, 12, 28), (0, 9, 15, 15)]) 8 2 F_L_restore := by
  have hc : ∀ q ∈ ([(109, (0, 2, 2, 9, F_X9_restore))] : List (Nat × sm_K)), sm_Cal1 l G RL 8 q := List.forall_mem_cons.mpr ⟨⟨yX9_restore, cX9_restore, 2, (some .int), [], 7, cs_L_restore_109, con_X9_restore hI hfl, by decide⟩, fun q h => by cases h⟩
  have hh9 : ∀ q ∈ ([((4, 3), (13, 3)), ((4, 2), (16, 3))] : List ((Nat × Nat) × (Nat × Nat))), sm_Hn RL cL_restore (tableOf [(0, 9, 12, 28), (0, 9, 15, 15)]) q.1.1 q.1.2 q.2.1 q.2.2 4 := List.forall_mem_cons.mpr ⟨⟨[], ⟨0, 9, 12, 28⟩, [⟨0, 9, 15, 15⟩], rfl, (fun q h => by cases h), by decide, by decide, by decide +kernel, by decide, Or.inl ⟨3, rfl, by decide +kernel, rfl⟩⟩, List.forall_mem_cons.mpr ⟨⟨[⟨0, 9, 12, 28⟩], ⟨0, 9, 15, 15⟩, [], rfl, List.forall_mem_cons.mpr ⟨Or.inr ⟨by decide, 3, by decide, by decide +kernel⟩, (fun q h => by cases h)⟩, by decide, by decide, by decide +kernel, by decide, Or.inl ⟨3, rfl, by decide +kernel, rfl⟩⟩, (fun q h => by cases h)⟩⟩
  exact sm_con2 hI hfl (by decide) (sm_mk_tok td_L_restore fo_L ko_L no_L so_L) (sm_mk_cal hc) sm_rets_of.2.2.1 rfl (fun _ => rfl) (fun pc x pc1 kv h => hh9 ((pc, x), (pc1, kv)) (sm_look2 h)) (fun _ => rfl) (by decide)
