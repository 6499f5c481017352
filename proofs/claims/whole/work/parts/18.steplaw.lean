/-! STEPS, by program -/
theorem s_L_append_0 {b : Nat} {V : Nat → Nat → Int32} {o : Int64} {l0 l1 : Option sm_V} {tl : sm_L} {x : sm_N} {r : List sm_V} : sm_R T_L_append (b, 0, (V, o), l0 :: l1 :: some (.inr (.inr x)) :: tl, r) = sm_R T_L_append (b, 1, (V, o), l0 :: l1 :: some (.inr (.inr x)) :: tl, .inr (.inr x) :: r) := R_aload_n rfl rfl
theorem s_L_append_1 {b : Nat} {V : Nat → Nat → Int32} {o : Int64} {ls : sm_L} {r : List sm_V} : sm_R T_L_append (b, 1, (V, o), ls, r) = sm_R T_L_append (b, 2, (V, o), ls, .inl 0 :: r) := R_iconst rfl (by decide)
theorem s_L_append_2 {b : Nat} {V : Nat → Nat → Int32} {o : Int64} {tl : sm_L} {x : sm_N} {r : List sm_V} : sm_R T_L_append (b, 2, (V, o), some (.inr (.inr x)) :: tl, r) = sm_R T_L_append (b, 3, (V, o), some (.inr (.inr x)) :: tl, .inr (.inr x) :: r) := R_aload_n rfl rfl
theorem s_L_append_3 {b : Nat} {V : Nat → Nat → Int32} {o : Int64} {l0 : Option sm_V} {tl : sm_L} {x : Int32} {r : List sm_V} : sm_R T_L_append (b, 3, (V, o), l0 :: some (.inl x) :: tl, r) = sm_R T_L_append (b, 4, (V, o), l0 :: some (.inl x) :: tl, .inl x :: r) := R_iload_n rfl rfl
theorem s_L_append_4 {b : Nat} {V : Nat → Nat → Int32} {o : Int64} {ls : sm_L} {r : List sm_V} {k0 i0 : Nat} {a1 : Int32} (h : r.length ≤ 4) (hb : 1 ≤ b) : sm_R T_L_append (b, 4, (V, o), ls, .inl a1 :: .inr (.inr (9, k0, i0)) :: r) = sm_k2 (F_X9_append (V, o) [.inr (.inr (9, k0, i0)), .inl a1]) (fun M1 v => sm_R T_L_append ((b - 1), 7, M1, ls, v.toList ++ r)) (fun M1 e => if e = 1 then (sm_g (sm_lk ls 3 = true) (sm_R T_L_append ((b - 1), 13, M1, ls.set 3 none, []))) else if e = 2 then (sm_g (sm_lk ls 3 = true) (sm_R T_L_append ((b - 1), 16, M1, ls.set 3 none, []))) else none) := by
  have h9 := R_callH (T := T_L_append) (b := b) (pc := 4) (V := V) (o := o) (ls := ls) (r := r) (x := 7) (as := [.inr (.inr (9, k0, i0)), .inl a1]) rfl rfl rfl h hb ⟨rfl, rfl⟩ (by decide)
  refine h9.trans (congrArg (sm_k2 _ _) ?_)
  funext M1 e
  by_cases h1 : e = 1
  · subst h1; rfl
  rw [if_neg h1]
  by_cases h2 : e = 2
  · subst h2; rfl
  rw [if_neg h2]
  have hn9 : sm_hnd T_L_append 4 e = none := by
    cases hq : sm_hnd T_L_append 4 e with
    | none => rfl
    | some q =>
      have h8 : ((4, e), q) ∈ ([((4, 1), (13, 3)), ((4, 2), (16, 3))] : List ((Nat × Nat) × (Nat × Nat))) := sm_look2 hq
      simp [h1, h2] at h8
  rw [hn9]
theorem s_L_append_7 {b : Nat} {V : Nat → Nat → Int32} {o : Int64} {ls : sm_L} {r : List sm_V} {x : Int32} : sm_R T_L_append (b, 7, (V, o), ls, .inl x :: r) = sm_R T_L_append (b, 8, (V, o), ls, .inr (.inl x.toInt64) :: r) := R_i2l rfl
theorem s_L_append_8 {b : Nat} {V : Nat → Nat → Int32} {o : Int64} {ls : sm_L} {r : List sm_V} {x : Int64} : sm_R T_L_append (b, 8, (V, o), ls, .inr (.inl x) :: .inl 0 :: .inr (.inr (60, 0, 0)) :: r) = sm_R T_L_append (b, 9, (V, x), ls, r) := R_lastore rfl
theorem s_L_append_9 {b : Nat} {V : Nat → Nat → Int32} {o : Int64} {ls : sm_L} {r : List sm_V} : sm_R T_L_append (b, 9, (V, o), ls, r) = sm_R T_L_append (b, 18, (V, o), ls, r) := R_goto (tgt := 18) rfl (by decide)
theorem s_L_append_13 {b : Nat} {V : Nat → Nat → Int32} {o : Int64} {ls : sm_L} {r : List sm_V} : sm_R T_L_append (b, 13, (V, o), ls, r) = sm_R T_L_append (b, 14, (V, o), ls, .inl 1 :: r) := R_iconst rfl (by decide)
theorem s_L_append_14 {b : Nat} {V : Nat → Nat → Int32} {o : Int64} {ls : sm_L} {x : Int32} : sm_R T_L_append (b, 14, (V, o), ls, [.inl x]) = some ((V, o), .ok (some (.inl x))) := R_ireturn rfl (Or.inr rfl)
theorem s_L_append_16 {b : Nat} {V : Nat → Nat → Int32} {o : Int64} {ls : sm_L} {r : List sm_V} : sm_R T_L_append (b, 16, (V, o), ls, r) = sm_R T_L_append (b, 17, (V, o), ls, .inl 2 :: r) := R_iconst rfl (by decide)
theorem s_L_append_17 {b : Nat} {V : Nat → Nat → Int32} {o : Int64} {ls : sm_L} {x : Int32} : sm_R T_L_append (b, 17, (V, o), ls, [.inl x]) = some ((V, o), .ok (some (.inl x))) := R_ireturn rfl (Or.inr rfl)
theorem s_L_append_18 {b : Nat} {V : Nat → Nat → Int32} {o : Int64} {ls : sm_L} {r : List sm_V} : sm_R T_L_append (b, 18, (V, o), ls, r) = sm_R T_L_append (b, 19, (V, o), ls, .inl 0 :: r) := R_iconst rfl (by decide)
theorem s_L_append_19 {b : Nat} {V : Nat → Nat → Int32} {o : Int64} {ls : sm_L} {x : Int32} : sm_R T_L_append (b, 19, (V, o), ls, [.inl x]) = some ((V, o), .ok (some (.inl x))) := R_ireturn rfl (Or.inr rfl)
theorem s_L_load_0 {b : Nat} {V : Nat → Nat → Int32} {o : Int64} {l0 : Option sm_V} {tl : sm_L} {x : sm_N} {r : List sm_V} : sm_R T_L_load (b, 0, (V, o), l0 :: some (.inr (.inr x)) :: tl, r) = sm_R T_L_load (b, 1, (V, o), l0 :: some (.inr (.inr x)) :: tl, .inr (.inr x) :: r) := R_aload_n rfl rfl
theorem s_L_load_1 {b : Nat} {V : Nat → Nat → Int32} {o : Int64} {ls : sm_L} {r : List sm_V} : sm_R T_L_load (b, 1, (V, o), ls, r) = sm_R T_L_load (b, 2, (V, o), ls, .inl 0 :: r) := R_iconst rfl (by decide)
theorem s_L_load_2 {b : Nat} {V : Nat → Nat → Int32} {o : Int64} {tl : sm_L} {x : sm_N} {r : List sm_V} : sm_R T_L_load (b, 2, (V, o), some (.inr (.inr x)) :: tl, r) = sm_R T_L_load (b, 3, (V, o), some (.inr (.inr x)) :: tl, .inr (.inr x) :: r) := R_aload_n rfl rfl
theorem s_L_load_3 {b : Nat} {V : Nat → Nat → Int32} {o : Int64} {ls : sm_L} {r : List sm_V} {k0 i0 : Nat} (h : r.length ≤ 4) (hb : 1 ≤ b) : sm_R T_L_load (b, 3, (V, o), ls, .inr (.inr (9, k0, i0)) :: r) = sm_k2 (F_X9_load (V, o) [.inr (.inr (9, k0, i0))]) (fun M1 v => sm_R T_L_load ((b - 1), 6, M1, ls, v.toList ++ r)) (fun M1 e => if e = 2 then (sm_g (sm_lk ls 2 = true) (sm_R T_L_load ((b - 1), 12, M1, ls.set 2 none, []))) else none) := by
  have h9 := R_callH (T := T_L_load) (b := b) (pc := 3) (V := V) (o := o) (ls := ls) (r := r) (x := 17) (as := [.inr (.inr (9, k0, i0))]) rfl rfl rfl h hb ⟨rfl, rfl⟩ (by decide)
  refine h9.trans (congrArg (sm_k2 _ _) ?_)
  funext M1 e
  by_cases h2 : e = 2
  · subst h2; rfl
  rw [if_neg h2]
  have hn9 : sm_hnd T_L_load 3 e = none := by
    cases hq : sm_hnd T_L_load 3 e with
    | none => rfl
    | some q =>
      have h8 : ((3, e), q) ∈ ([((3, 2), (12, 2))] : List ((Nat × Nat) × (Nat × Nat))) := sm_look2 hq
      simp [h2] at h8
  rw [hn9]
theorem s_L_load_6 {b : Nat} {V : Nat → Nat → Int32} {o : Int64} {ls : sm_L} {r : List sm_V} {x : Int32} : sm_R T_L_load (b, 6, (V, o), ls, .inl x :: r) = sm_R T_L_load (b, 7, (V, o), ls, .inr (.inl x.toInt64) :: r) := R_i2l rfl
theorem s_L_load_7 {b : Nat} {V : Nat → Nat → Int32} {o : Int64} {ls : sm_L} {r : List sm_V} {x : Int64} : sm_R T_L_load (b, 7, (V, o), ls, .inr (.inl x) :: .inl 0 :: .inr (.inr (60, 0, 0)) :: r) = sm_R T_L_load (b, 8, (V, x), ls, r) := R_lastore rfl
theorem s_L_load_8 {b : Nat} {V : Nat → Nat → Int32} {o : Int64} {ls : sm_L} {r : List sm_V} : sm_R T_L_load (b, 8, (V, o), ls, r) = sm_R T_L_load (b, 14, (V, o), ls, r) := R_goto (tgt := 14) rfl (by decide)
theorem s_L_load_12 {b : Nat} {V : Nat → Nat → Int32} {o : Int64} {ls : sm_L} {r : List sm_V} : sm_R T_L_load (b, 12, (V, o), ls, r) = sm_R T_L_load (b, 13, (V, o), ls, .inl 1 :: r) := R_iconst rfl (by decide)
theorem s_L_load_13 {b : Nat} {V : Nat → Nat → Int32} {o : Int64} {ls : sm_L} {x : Int32} : sm_R T_L_load (b, 13, (V, o), ls, [.inl x]) = some ((V, o), .ok (some (.inl x))) := R_ireturn rfl (Or.inr rfl)
theorem s_L_load_14 {b : Nat} {V : Nat → Nat → Int32} {o : Int64} {ls : sm_L} {r : List sm_V} : sm_R T_L_load (b, 14, (V, o), ls, r) = sm_R T_L_load (b, 15, (V, o), ls, .inl 0 :: r) := R_iconst rfl (by decide)
theorem s_L_load_15 {b : Nat} {V : Nat → Nat → Int32} {o : Int64} {ls : sm_L} {x : Int32} : sm_R T_L_load (b, 15, (V, o), ls, [.inl x]) = some ((V, o), .ok (some (.inl x))) := R_ireturn rfl (Or.inr rfl)
theorem s_L_about_0 {b : Nat} {V : Nat → Nat → Int32} {o : Int64} {l0 l1 : Option sm_V} {tl : sm_L} {x : sm_N} {r : List sm_V} : sm_R T_L_about (b, 0, (V, o), l0 :: l1 :: some (.inr (.inr x)) :: tl, r) = sm_R T_L_about (b, 1, (V, o), l0 :: l1 :: some (.inr (.inr x)) :: tl, .inr (.inr x) :: r) := R_aload_n rfl rfl
theorem s_L_about_1 {b : Nat} {V : Nat → Nat → Int32} {o : Int64} {ls : sm_L} {r : List sm_V} : sm_R T_L_about (b, 1, (V, o), ls, r) = sm_R T_L_about (b, 2, (V, o), ls, .inl 0 :: r) := R_iconst rfl (by decide)
theorem s_L_about_2 {b : Nat} {V : Nat → Nat → Int32} {o : Int64} {tl : sm_L} {x : sm_N} {r : List sm_V} : sm_R T_L_about (b, 2, (V, o), some (.inr (.inr x)) :: tl, r) = sm_R T_L_about (b, 3, (V, o), some (.inr (.inr x)) :: tl, .inr (.inr x) :: r) := R_aload_n rfl rfl
theorem s_L_about_3 {b : Nat} {V : Nat → Nat → Int32} {o : Int64} {l0 : Option sm_V} {tl : sm_L} {x : Int32} {r : List sm_V} : sm_R T_L_about (b, 3, (V, o), l0 :: some (.inl x) :: tl, r) = sm_R T_L_about (b, 4, (V, o), l0 :: some (.inl x) :: tl, .inl x :: r) := R_iload_n rfl rfl
theorem s_L_about_4 {b : Nat} {V : Nat → Nat → Int32} {o : Int64} {ls : sm_L} {r : List sm_V} {k0 i0 : Nat} {a1 : Int32} (h : r.length ≤ 4) (hb : 1 ≤ b) : sm_R T_L_about (b, 4, (V, o), ls, .inl a1 :: .inr (.inr (9, k0, i0)) :: r) = sm_k2 (F_X9_about (V, o) [.inr (.inr (9, k0, i0)), .inl a1]) (fun M1 v => sm_R T_L_about ((b - 1), 7, M1, ls, v.toList ++ r)) (fun M1 e => if e = 1 then (sm_g (sm_lk ls 3 = true) (sm_R T_L_about ((b - 1), 13, M1, ls.set 3 none, []))) else none) := by
  have h9 := R_callH (T := T_L_about) (b := b) (pc := 4) (V := V) (o := o) (ls := ls) (r := r) (x := 21) (as := [.inr (.inr (9, k0, i0)), .inl a1]) rfl rfl rfl h hb ⟨rfl, rfl⟩ (by decide)
  refine h9.trans (congrArg (sm_k2 _ _) ?_)
  funext M1 e
  by_cases h1 : e = 1
  · subst h1; rfl
  rw [if_neg h1]
  have hn9 : sm_hnd T_L_about 4 e = none := by
    cases hq : sm_hnd T_L_about 4 e with
    | none => rfl
    | some q =>
      have h8 : ((4, e), q) ∈ ([((4, 1), (13, 3))] : List ((Nat × Nat) × (Nat × Nat))) := sm_look2 hq
      simp [h1] at h8
  rw [hn9]
theorem s_L_about_7 {b : Nat} {V : Nat → Nat → Int32} {o : Int64} {ls : sm_L} {r : List sm_V} {x : Int32} : sm_R T_L_about (b, 7, (V, o), ls, .inl x :: r) = sm_R T_L_about (b, 8, (V, o), ls, .inr (.inl x.toInt64) :: r) := R_i2l rfl
theorem s_L_about_8 {b : Nat} {V : Nat → Nat → Int32} {o : Int64} {ls : sm_L} {r : List sm_V} {x : Int64} : sm_R T_L_about (b, 8, (V, o), ls, .inr (.inl x) :: .inl 0 :: .inr (.inr (60, 0, 0)) :: r) = sm_R T_L_about (b, 9, (V, x), ls, r) := R_lastore rfl
theorem s_L_about_9 {b : Nat} {V : Nat → Nat → Int32} {o : Int64} {ls : sm_L} {r : List sm_V} : sm_R T_L_about (b, 9, (V, o), ls, r) = sm_R T_L_about (b, 15, (V, o), ls, r) := R_goto (tgt := 15) rfl (by decide)
theorem s_L_about_13 {b : Nat} {V : Nat → Nat → Int32} {o : Int64} {ls : sm_L} {r : List sm_V} : sm_R T_L_about (b, 13, (V, o), ls, r) = sm_R T_L_about (b, 14, (V, o), ls, .inl 1 :: r) := R_iconst rfl (by decide)
theorem s_L_about_14 {b : Nat} {V : Nat → Nat → Int32} {o : Int64} {ls : sm_L} {x : Int32} : sm_R T_L_about (b, 14, (V, o), ls, [.inl x]) = some ((V, o), .ok (some (.inl x))) := R_ireturn rfl (Or.inr rfl)
theorem s_L_about_15 {b : Nat} {V : Nat → Nat → Int32} {o : Int64} {ls : sm_L} {r : List sm_V} : sm_R T_L_about (b, 15, (V, o), ls, r) = sm_R T_L_about (b, 16, (V, o), ls, .inl 0 :: r) := R_iconst rfl (by decide)
theorem s_L_about_16 {b : Nat} {V : Nat → Nat → Int32} {o : Int64} {ls : sm_L} {x : Int32} : sm_R T_L_about (b, 16, (V, o), ls, [.inl x]) = some ((V, o), .ok (some (.inl x))) := R_ireturn rfl (Or.inr rfl)
theorem s_L_slope_0 {b : Nat} {V : Nat → Nat → Int32} {o : Int64} {l0 l1 l2 : Option sm_V} {tl : sm_L} {x : sm_N} {r : List sm_V} : sm_R T_L_slope (b, 0, (V, o), l0 :: l1 :: l2 :: some (.inr (.inr x)) :: tl, r) = sm_R T_L_slope (b, 1, (V, o), l0 :: l1 :: l2 :: some (.inr (.inr x)) :: tl, .inr (.inr x) :: r) := R_aload_n rfl rfl
theorem s_L_slope_1 {b : Nat} {V : Nat → Nat → Int32} {o : Int64} {ls : sm_L} {r : List sm_V} : sm_R T_L_slope (b, 1, (V, o), ls, r) = sm_R T_L_slope (b, 2, (V, o), ls, .inl 0 :: r) := R_iconst rfl (by decide)
theorem s_L_slope_2 {b : Nat} {V : Nat → Nat → Int32} {o : Int64} {tl : sm_L} {x : sm_N} {r : List sm_V} : sm_R T_L_slope (b, 2, (V, o), some (.inr (.inr x)) :: tl, r) = sm_R T_L_slope (b, 3, (V, o), some (.inr (.inr x)) :: tl, .inr (.inr x) :: r) := R_aload_n rfl rfl
theorem s_L_slope_3 {b : Nat} {V : Nat → Nat → Int32} {o : Int64} {l0 : Option sm_V} {tl : sm_L} {x : Int32} {r : List sm_V} : sm_R T_L_slope (b, 3, (V, o), l0 :: some (.inl x) :: tl, r) = sm_R T_L_slope (b, 4, (V, o), l0 :: some (.inl x) :: tl, .inl x :: r) := R_iload_n rfl rfl
theorem s_L_slope_4 {b : Nat} {V : Nat → Nat → Int32} {o : Int64} {l0 l1 : Option sm_V} {tl : sm_L} {x : Int32} {r : List sm_V} : sm_R T_L_slope (b, 4, (V, o), l0 :: l1 :: some (.inl x) :: tl, r) = sm_R T_L_slope (b, 5, (V, o), l0 :: l1 :: some (.inl x) :: tl, .inl x :: r) := R_iload_n rfl rfl
theorem s_L_slope_5 {b : Nat} {V : Nat → Nat → Int32} {o : Int64} {ls : sm_L} {r : List sm_V} {k0 i0 : Nat} {a1 : Int32} {a2 : Int32} (h : r.length ≤ 4) (hb : 2 ≤ b) : sm_R T_L_slope (b, 5, (V, o), ls, .inl a2 :: .inl a1 :: .inr (.inr (9, k0, i0)) :: r) = sm_k2 (F_X9_slope (V, o) [.inr (.inr (9, k0, i0)), .inl a1, .inl a2]) (fun M1 v => sm_R T_L_slope ((b - 2), 8, M1, ls, v.toList ++ r)) (fun M1 e => if e = 3 then (sm_g (sm_lk ls 4 = true) (sm_R T_L_slope ((b - 2), 15, M1, ls.set 4 none, []))) else if e = 1 then (sm_g (sm_lk ls 4 = true) (sm_R T_L_slope ((b - 2), 19, M1, ls.set 4 none, []))) else none) := by
  have h9 := R_callH (T := T_L_slope) (b := b) (pc := 5) (V := V) (o := o) (ls := ls) (r := r) (x := 24) (as := [.inr (.inr (9, k0, i0)), .inl a1, .inl a2]) rfl rfl rfl h hb ⟨rfl, rfl⟩ (by decide)
  refine h9.trans (congrArg (sm_k2 _ _) ?_)
  funext M1 e
  by_cases h3 : e = 3
  · subst h3; rfl
  rw [if_neg h3]
  by_cases h1 : e = 1
  · subst h1; rfl
  rw [if_neg h1]
  have hn9 : sm_hnd T_L_slope 5 e = none := by
    cases hq : sm_hnd T_L_slope 5 e with
    | none => rfl
    | some q =>
      have h8 : ((5, e), q) ∈ ([((5, 3), (15, 4)), ((5, 1), (19, 4))] : List ((Nat × Nat) × (Nat × Nat))) := sm_look2 hq
      simp [h3, h1] at h8
  rw [hn9]
theorem s_L_slope_8 {b : Nat} {V : Nat → Nat → Int32} {o : Int64} {ls : sm_L} {r : List sm_V} {x : Int32} : sm_R T_L_slope (b, 8, (V, o), ls, .inl x :: r) = sm_R T_L_slope (b, 9, (V, o), ls, .inr (.inl x.toInt64) :: r) := R_i2l rfl
theorem s_L_slope_9 {b : Nat} {V : Nat → Nat → Int32} {o : Int64} {ls : sm_L} {r : List sm_V} {x : Int64} : sm_R T_L_slope (b, 9, (V, o), ls, .inr (.inl x) :: .inl 0 :: .inr (.inr (60, 0, 0)) :: r) = sm_R T_L_slope (b, 10, (V, x), ls, r) := R_lastore rfl
theorem s_L_slope_10 {b : Nat} {V : Nat → Nat → Int32} {o : Int64} {ls : sm_L} {r : List sm_V} : sm_R T_L_slope (b, 10, (V, o), ls, r) = sm_R T_L_slope (b, 21, (V, o), ls, r) := R_goto (tgt := 21) rfl (by decide)
theorem s_L_slope_15 {b : Nat} {V : Nat → Nat → Int32} {o : Int64} {ls : sm_L} {r : List sm_V} : sm_R T_L_slope (b, 15, (V, o), ls, r) = sm_R T_L_slope (b, 16, (V, o), ls, .inl 1 :: r) := R_iconst rfl (by decide)
theorem s_L_slope_16 {b : Nat} {V : Nat → Nat → Int32} {o : Int64} {ls : sm_L} {x : Int32} : sm_R T_L_slope (b, 16, (V, o), ls, [.inl x]) = some ((V, o), .ok (some (.inl x))) := R_ireturn rfl (Or.inr rfl)
theorem s_L_slope_19 {b : Nat} {V : Nat → Nat → Int32} {o : Int64} {ls : sm_L} {r : List sm_V} : sm_R T_L_slope (b, 19, (V, o), ls, r) = sm_R T_L_slope (b, 20, (V, o), ls, .inl 2 :: r) := R_iconst rfl (by decide)
theorem s_L_slope_20 {b : Nat} {V : Nat → Nat → Int32} {o : Int64} {ls : sm_L} {x : Int32} : sm_R T_L_slope (b, 20, (V, o), ls, [.inl x]) = some ((V, o), .ok (some (.inl x))) := R_ireturn rfl (Or.inr rfl)
theorem s_L_slope_21 {b : Nat} {V : Nat → Nat → Int32} {o : Int64} {ls : sm_L} {r : List sm_V} : sm_R T_L_slope (b, 21, (V, o), ls, r) = sm_R T_L_slope (b, 22, (V, o), ls, .inl 0 :: r) := R_iconst rfl (by decide)
theorem s_L_slope_22 {b : Nat} {V : Nat → Nat → Int32} {o : Int64} {ls : sm_L} {x : Int32} : sm_R T_L_slope (b, 22, (V, o), ls, [.inl x]) = some ((V, o), .ok (some (.inl x))) := R_ireturn rfl (Or.inr rfl)
theorem s_L_gun_0 {b : Nat} {V : Nat → Nat → Int32} {o : Int64} {l0 l1 l2 : Option sm_V} {tl : sm_L} {x : sm_N} {r : List sm_V} : sm_R T_L_gun (b, 0, (V, o), l0 :: l1 :: l2 :: some (.inr (.inr x)) :: tl, r) = sm_R T_L_gun (b, 1, (V, o), l0 :: l1 :: l2 :: some (.inr (.inr x)) :: tl, .inr (.inr x) :: r) := R_aload_n rfl rfl
theorem s_L_gun_1 {b : Nat} {V : Nat → Nat → Int32} {o : Int64} {ls : sm_L} {r : List sm_V} : sm_R T_L_gun (b, 1, (V, o), ls, r) = sm_R T_L_gun (b, 2, (V, o), ls, .inl 0 :: r) := R_iconst rfl (by decide)
theorem s_L_gun_2 {b : Nat} {V : Nat → Nat → Int32} {o : Int64} {tl : sm_L} {x : sm_N} {r : List sm_V} : sm_R T_L_gun (b, 2, (V, o), some (.inr (.inr x)) :: tl, r) = sm_R T_L_gun (b, 3, (V, o), some (.inr (.inr x)) :: tl, .inr (.inr x) :: r) := R_aload_n rfl rfl
theorem s_L_gun_3 {b : Nat} {V : Nat → Nat → Int32} {o : Int64} {l0 : Option sm_V} {tl : sm_L} {x : Int32} {r : List sm_V} : sm_R T_L_gun (b, 3, (V, o), l0 :: some (.inl x) :: tl, r) = sm_R T_L_gun (b, 4, (V, o), l0 :: some (.inl x) :: tl, .inl x :: r) := R_iload_n rfl rfl
theorem s_L_gun_4 {b : Nat} {V : Nat → Nat → Int32} {o : Int64} {l0 l1 : Option sm_V} {tl : sm_L} {x : Int32} {r : List sm_V} : sm_R T_L_gun (b, 4, (V, o), l0 :: l1 :: some (.inl x) :: tl, r) = sm_R T_L_gun (b, 5, (V, o), l0 :: l1 :: some (.inl x) :: tl, .inl x :: r) := R_iload_n rfl rfl
theorem s_L_gun_5 {b : Nat} {V : Nat → Nat → Int32} {o : Int64} {ls : sm_L} {r : List sm_V} {k0 i0 : Nat} {a1 : Int32} {a2 : Int32} (h : r.length ≤ 4) (hb : 2 ≤ b) : sm_R T_L_gun (b, 5, (V, o), ls, .inl a2 :: .inl a1 :: .inr (.inr (9, k0, i0)) :: r) = sm_k2 (F_X9_gun (V, o) [.inr (.inr (9, k0, i0)), .inl a1, .inl a2]) (fun M1 v => sm_R T_L_gun ((b - 2), 8, M1, ls, v.toList ++ r)) (fun M1 e => if e = 3 then (sm_g (sm_lk ls 4 = true) (sm_R T_L_gun ((b - 2), 15, M1, ls.set 4 none, []))) else if e = 1 then (sm_g (sm_lk ls 4 = true) (sm_R T_L_gun ((b - 2), 19, M1, ls.set 4 none, []))) else none) := by
  have h9 := R_callH (T := T_L_gun) (b := b) (pc := 5) (V := V) (o := o) (ls := ls) (r := r) (x := 30) (as := [.inr (.inr (9, k0, i0)), .inl a1, .inl a2]) rfl rfl rfl h hb ⟨rfl, rfl⟩ (by decide)
  refine h9.trans (congrArg (sm_k2 _ _) ?_)
  funext M1 e
  by_cases h3 : e = 3
  · subst h3; rfl
  rw [if_neg h3]
  by_cases h1 : e = 1
  · subst h1; rfl
  rw [if_neg h1]
  have hn9 : sm_hnd T_L_gun 5 e = none := by
    cases hq : sm_hnd T_L_gun 5 e with
    | none => rfl
    | some q =>
      have h8 : ((5, e), q) ∈ ([((5, 3), (15, 4)), ((5, 1), (19, 4))] : List ((Nat × Nat) × (Nat × Nat))) := sm_look2 hq
      simp [h3, h1] at h8
  rw [hn9]
theorem s_L_gun_8 {b : Nat} {V : Nat → Nat → Int32} {o : Int64} {ls : sm_L} {r : List sm_V} {x : Int32} : sm_R T_L_gun (b, 8, (V, o), ls, .inl x :: r) = sm_R T_L_gun (b, 9, (V, o), ls, .inr (.inl x.toInt64) :: r) := R_i2l rfl
theorem s_L_gun_9 {b : Nat} {V : Nat → Nat → Int32} {o : Int64} {ls : sm_L} {r : List sm_V} {x : Int64} : sm_R T_L_gun (b, 9, (V, o), ls, .inr (.inl x) :: .inl 0 :: .inr (.inr (60, 0, 0)) :: r) = sm_R T_L_gun (b, 10, (V, x), ls, r) := R_lastore rfl
theorem s_L_gun_10 {b : Nat} {V : Nat → Nat → Int32} {o : Int64} {ls : sm_L} {r : List sm_V} : sm_R T_L_gun (b, 10, (V, o), ls, r) = sm_R T_L_gun (b, 21, (V, o), ls, r) := R_goto (tgt := 21) rfl (by decide)
theorem s_L_gun_15 {b : Nat} {V : Nat → Nat → Int32} {o : Int64} {ls : sm_L} {r : List sm_V} : sm_R T_L_gun (b, 15, (V, o), ls, r) = sm_R T_L_gun (b, 16, (V, o), ls, .inl 1 :: r) := R_iconst rfl (by decide)
theorem s_L_gun_16 {b : Nat} {V : Nat → Nat → Int32} {o : Int64} {ls : sm_L} {x : Int32} : sm_R T_L_gun (b, 16, (V, o), ls, [.inl x]) = some ((V, o), .ok (some (.inl x))) := R_ireturn rfl (Or.inr rfl)
theorem s_L_gun_19 {b : Nat} {V : Nat → Nat → Int32} {o : Int64} {ls : sm_L} {r : List sm_V} : sm_R T_L_gun (b, 19, (V, o), ls, r) = sm_R T_L_gun (b, 20, (V, o), ls, .inl 2 :: r) := R_iconst rfl (by decide)
theorem s_L_gun_20 {b : Nat} {V : Nat → Nat → Int32} {o : Int64} {ls : sm_L} {x : Int32} : sm_R T_L_gun (b, 20, (V, o), ls, [.inl x]) = some ((V, o), .ok (some (.inl x))) := R_ireturn rfl (Or.inr rfl)
theorem s_L_gun_21 {b : Nat} {V : Nat → Nat → Int32} {o : Int64} {ls : sm_L} {r : List sm_V} : sm_R T_L_gun (b, 21, (V, o), ls, r) = sm_R T_L_gun (b, 22, (V, o), ls, .inl 0 :: r) := R_iconst rfl (by decide)
theorem s_L_gun_22 {b : Nat} {V : Nat → Nat → Int32} {o : Int64} {ls : sm_L} {x : Int32} : sm_R T_L_gun (b, 22, (V, o), ls, [.inl x]) = some ((V, o), .ok (some (.inl x))) := R_ireturn rfl (Or.inr rfl)
theorem s_L_account_0 {b : Nat} {V : Nat → Nat → Int32} {o : Int64} {l0 l1 : Option sm_V} {tl : sm_L} {x : sm_N} {r : List sm_V} : sm_R T_L_account (b, 0, (V, o), l0 :: l1 :: some (.inr (.inr x)) :: tl, r) = sm_R T_L_account (b, 1, (V, o), l0 :: l1 :: some (.inr (.inr x)) :: tl, .inr (.inr x) :: r) := R_aload_n rfl rfl
theorem s_L_account_1 {b : Nat} {V : Nat → Nat → Int32} {o : Int64} {ls : sm_L} {r : List sm_V} : sm_R T_L_account (b, 1, (V, o), ls, r) = sm_R T_L_account (b, 2, (V, o), ls, .inl 0 :: r) := R_iconst rfl (by decide)
theorem s_L_account_2 {b : Nat} {V : Nat → Nat → Int32} {o : Int64} {tl : sm_L} {x : sm_N} {r : List sm_V} : sm_R T_L_account (b, 2, (V, o), some (.inr (.inr x)) :: tl, r) = sm_R T_L_account (b, 3, (V, o), some (.inr (.inr x)) :: tl, .inr (.inr x) :: r) := R_aload_n rfl rfl
theorem s_L_account_3 {b : Nat} {V : Nat → Nat → Int32} {o : Int64} {l0 : Option sm_V} {tl : sm_L} {x : Int32} {r : List sm_V} : sm_R T_L_account (b, 3, (V, o), l0 :: some (.inl x) :: tl, r) = sm_R T_L_account (b, 4, (V, o), l0 :: some (.inl x) :: tl, .inl x :: r) := R_iload_n rfl rfl
theorem s_L_account_4 {b : Nat} {V : Nat → Nat → Int32} {o : Int64} {ls : sm_L} {r : List sm_V} {k0 i0 : Nat} {a1 : Int32} (h : r.length ≤ 4) (hb : 1 ≤ b) : sm_R T_L_account (b, 4, (V, o), ls, .inl a1 :: .inr (.inr (9, k0, i0)) :: r) = sm_k2 (F_X9_account (V, o) [.inr (.inr (9, k0, i0)), .inl a1]) (fun M1 v => sm_R T_L_account ((b - 1), 7, M1, ls, v.toList ++ r)) (fun M1 e => if e = 1 then (sm_g (sm_lk ls 3 = true) (sm_R T_L_account ((b - 1), 13, M1, ls.set 3 none, []))) else none) := by
  have h9 := R_callH (T := T_L_account) (b := b) (pc := 4) (V := V) (o := o) (ls := ls) (r := r) (x := 33) (as := [.inr (.inr (9, k0, i0)), .inl a1]) rfl rfl rfl h hb ⟨rfl, rfl⟩ (by decide)
  refine h9.trans (congrArg (sm_k2 _ _) ?_)
  funext M1 e
  by_cases h1 : e = 1
  · subst h1; rfl
  rw [if_neg h1]
  have hn9 : sm_hnd T_L_account 4 e = none := by
    cases hq : sm_hnd T_L_account 4 e with
    | none => rfl
    | some q =>
      have h8 : ((4, e), q) ∈ ([((4, 1), (13, 3))] : List ((Nat × Nat) × (Nat × Nat))) := sm_look2 hq
      simp [h1] at h8
  rw [hn9]
theorem s_L_account_7 {b : Nat} {V : Nat → Nat → Int32} {o : Int64} {ls : sm_L} {r : List sm_V} {x : Int32} : sm_R T_L_account (b, 7, (V, o), ls, .inl x :: r) = sm_R T_L_account (b, 8, (V, o), ls, .inr (.inl x.toInt64) :: r) := R_i2l rfl
theorem s_L_account_8 {b : Nat} {V : Nat → Nat → Int32} {o : Int64} {ls : sm_L} {r : List sm_V} {x : Int64} : sm_R T_L_account (b, 8, (V, o), ls, .inr (.inl x) :: .inl 0 :: .inr (.inr (60, 0, 0)) :: r) = sm_R T_L_account (b, 9, (V, x), ls, r) := R_lastore rfl
theorem s_L_account_9 {b : Nat} {V : Nat → Nat → Int32} {o : Int64} {ls : sm_L} {r : List sm_V} : sm_R T_L_account (b, 9, (V, o), ls, r) = sm_R T_L_account (b, 15, (V, o), ls, r) := R_goto (tgt := 15) rfl (by decide)
theorem s_L_account_13 {b : Nat} {V : Nat → Nat → Int32} {o : Int64} {ls : sm_L} {r : List sm_V} : sm_R T_L_account (b, 13, (V, o), ls, r) = sm_R T_L_account (b, 14, (V, o), ls, .inl 1 :: r) := R_iconst rfl (by decide)
theorem s_L_account_14 {b : Nat} {V : Nat → Nat → Int32} {o : Int64} {ls : sm_L} {x : Int32} : sm_R T_L_account (b, 14, (V, o), ls, [.inl x]) = some ((V, o), .ok (some (.inl x))) := R_ireturn rfl (Or.inr rfl)
theorem s_L_account_15 {b : Nat} {V : Nat → Nat → Int32} {o : Int64} {ls : sm_L} {r : List sm_V} : sm_R T_L_account (b, 15, (V, o), ls, r) = sm_R T_L_account (b, 16, (V, o), ls, .inl 0 :: r) := R_iconst rfl (by decide)
theorem s_L_account_16 {b : Nat} {V : Nat → Nat → Int32} {o : Int64} {ls : sm_L} {x : Int32} : sm_R T_L_account (b, 16, (V, o), ls, [.inl x]) = some ((V, o), .ok (some (.inl x))) := R_ireturn rfl (Or.inr rfl)
theorem s_L_book_0 {b : Nat} {V : Nat → Nat → Int32} {o : Int64} {l0 l1 l2 : Option sm_V} {tl : sm_L} {x : sm_N} {r : List sm_V} : sm_R T_L_book (b, 0, (V, o), l0 :: l1 :: l2 :: some (.inr (.inr x)) :: tl, r) = sm_R T_L_book (b, 1, (V, o), l0 :: l1 :: l2 :: some (.inr (.inr x)) :: tl, .inr (.inr x) :: r) := R_aload_n rfl rfl
theorem s_L_book_1 {b : Nat} {V : Nat → Nat → Int32} {o : Int64} {ls : sm_L} {r : List sm_V} : sm_R T_L_book (b, 1, (V, o), ls, r) = sm_R T_L_book (b, 2, (V, o), ls, .inl 0 :: r) := R_iconst rfl (by decide)
theorem s_L_book_2 {b : Nat} {V : Nat → Nat → Int32} {o : Int64} {tl : sm_L} {x : sm_N} {r : List sm_V} : sm_R T_L_book (b, 2, (V, o), some (.inr (.inr x)) :: tl, r) = sm_R T_L_book (b, 3, (V, o), some (.inr (.inr x)) :: tl, .inr (.inr x) :: r) := R_aload_n rfl rfl
theorem s_L_book_3 {b : Nat} {V : Nat → Nat → Int32} {o : Int64} {l0 : Option sm_V} {tl : sm_L} {x : Int32} {r : List sm_V} : sm_R T_L_book (b, 3, (V, o), l0 :: some (.inl x) :: tl, r) = sm_R T_L_book (b, 4, (V, o), l0 :: some (.inl x) :: tl, .inl x :: r) := R_iload_n rfl rfl
theorem s_L_book_4 {b : Nat} {V : Nat → Nat → Int32} {o : Int64} {l0 l1 : Option sm_V} {tl : sm_L} {x : Int32} {r : List sm_V} : sm_R T_L_book (b, 4, (V, o), l0 :: l1 :: some (.inl x) :: tl, r) = sm_R T_L_book (b, 5, (V, o), l0 :: l1 :: some (.inl x) :: tl, .inl x :: r) := R_iload_n rfl rfl
theorem s_L_book_5 {b : Nat} {V : Nat → Nat → Int32} {o : Int64} {ls : sm_L} {r : List sm_V} {k0 i0 : Nat} {a1 : Int32} {a2 : Int32} (h : r.length ≤ 4) (hb : 1 ≤ b) : sm_R T_L_book (b, 5, (V, o), ls, .inl a2 :: .inl a1 :: .inr (.inr (9, k0, i0)) :: r) = sm_k2 (F_X9_book (V, o) [.inr (.inr (9, k0, i0)), .inl a1, .inl a2]) (fun M1 v => sm_R T_L_book ((b - 1), 8, M1, ls, v.toList ++ r)) (fun M1 e => if e = 1 then (sm_g (sm_lk ls 4 = true) (sm_R T_L_book ((b - 1), 15, M1, ls.set 4 none, []))) else none) := by
  have h9 := R_callH (T := T_L_book) (b := b) (pc := 5) (V := V) (o := o) (ls := ls) (r := r) (x := 36) (as := [.inr (.inr (9, k0, i0)), .inl a1, .inl a2]) rfl rfl rfl h hb ⟨rfl, rfl⟩ (by decide)
  refine h9.trans (congrArg (sm_k2 _ _) ?_)
  funext M1 e
  by_cases h1 : e = 1
  · subst h1; rfl
  rw [if_neg h1]
  have hn9 : sm_hnd T_L_book 5 e = none := by
    cases hq : sm_hnd T_L_book 5 e with
    | none => rfl
    | some q =>
      have h8 : ((5, e), q) ∈ ([((5, 1), (15, 4))] : List ((Nat × Nat) × (Nat × Nat))) := sm_look2 hq
      simp [h1] at h8
  rw [hn9]
theorem s_L_book_8 {b : Nat} {V : Nat → Nat → Int32} {o : Int64} {ls : sm_L} {r : List sm_V} {x : Int32} : sm_R T_L_book (b, 8, (V, o), ls, .inl x :: r) = sm_R T_L_book (b, 9, (V, o), ls, .inr (.inl x.toInt64) :: r) := R_i2l rfl
theorem s_L_book_9 {b : Nat} {V : Nat → Nat → Int32} {o : Int64} {ls : sm_L} {r : List sm_V} {x : Int64} : sm_R T_L_book (b, 9, (V, o), ls, .inr (.inl x) :: .inl 0 :: .inr (.inr (60, 0, 0)) :: r) = sm_R T_L_book (b, 10, (V, x), ls, r) := R_lastore rfl
theorem s_L_book_10 {b : Nat} {V : Nat → Nat → Int32} {o : Int64} {ls : sm_L} {r : List sm_V} : sm_R T_L_book (b, 10, (V, o), ls, r) = sm_R T_L_book (b, 17, (V, o), ls, r) := R_goto (tgt := 17) rfl (by decide)
theorem s_L_book_15 {b : Nat} {V : Nat → Nat → Int32} {o : Int64} {ls : sm_L} {r : List sm_V} : sm_R T_L_book (b, 15, (V, o), ls, r) = sm_R T_L_book (b, 16, (V, o), ls, .inl 1 :: r) := R_iconst rfl (by decide)
theorem s_L_book_16 {b : Nat} {V : Nat → Nat → Int32} {o : Int64} {ls : sm_L} {x : Int32} : sm_R T_L_book (b, 16, (V, o), ls, [.inl x]) = some ((V, o), .ok (some (.inl x))) := R_ireturn rfl (Or.inr rfl)
theorem s_L_book_17 {b : Nat} {V : Nat → Nat → Int32} {o : Int64} {ls : sm_L} {r : List sm_V} : sm_R T_L_book (b, 17, (V, o), ls, r) = sm_R T_L_book (b, 18, (V, o), ls, .inl 0 :: r) := R_iconst rfl (by decide)
theorem s_L_book_18 {b : Nat} {V : Nat → Nat → Int32} {o : Int64} {ls : sm_L} {x : Int32} : sm_R T_L_book (b, 18, (V, o), ls, [.inl x]) = some ((V, o), .ok (some (.inl x))) := R_ireturn rfl (Or.inr rfl)
theorem s_L_wet_0 {b : Nat} {V : Nat → Nat → Int32} {o : Int64} {l0 l1 : Option sm_V} {tl : sm_L} {x : sm_N} {r : List sm_V} : sm_R T_L_wet (b, 0, (V, o), l0 :: l1 :: some (.inr (.inr x)) :: tl, r) = sm_R T_L_wet (b, 1, (V, o), l0 :: l1 :: some (.inr (.inr x)) :: tl, .inr (.inr x) :: r) := R_aload_n rfl rfl
theorem s_L_wet_1 {b : Nat} {V : Nat → Nat → Int32} {o : Int64} {ls : sm_L} {r : List sm_V} : sm_R T_L_wet (b, 1, (V, o), ls, r) = sm_R T_L_wet (b, 2, (V, o), ls, .inl 0 :: r) := R_iconst rfl (by decide)
theorem s_L_wet_2 {b : Nat} {V : Nat → Nat → Int32} {o : Int64} {tl : sm_L} {x : sm_N} {r : List sm_V} : sm_R T_L_wet (b, 2, (V, o), some (.inr (.inr x)) :: tl, r) = sm_R T_L_wet (b, 3, (V, o), some (.inr (.inr x)) :: tl, .inr (.inr x) :: r) := R_aload_n rfl rfl
theorem s_L_wet_3 {b : Nat} {V : Nat → Nat → Int32} {o : Int64} {l0 : Option sm_V} {tl : sm_L} {x : Int32} {r : List sm_V} : sm_R T_L_wet (b, 3, (V, o), l0 :: some (.inl x) :: tl, r) = sm_R T_L_wet (b, 4, (V, o), l0 :: some (.inl x) :: tl, .inl x :: r) := R_iload_n rfl rfl
theorem s_L_wet_4 {b : Nat} {V : Nat → Nat → Int32} {o : Int64} {ls : sm_L} {r : List sm_V} {k0 i0 : Nat} {a1 : Int32} (h : r.length ≤ 4) (hb : 1 ≤ b) : sm_R T_L_wet (b, 4, (V, o), ls, .inl a1 :: .inr (.inr (9, k0, i0)) :: r) = sm_k2 (F_X9_wet (V, o) [.inr (.inr (9, k0, i0)), .inl a1]) (fun M1 v => sm_R T_L_wet ((b - 1), 7, M1, ls, v.toList ++ r)) (fun M1 e => if e = 1 then (sm_g (sm_lk ls 3 = true) (sm_R T_L_wet ((b - 1), 13, M1, ls.set 3 none, []))) else none) := by
  have h9 := R_callH (T := T_L_wet) (b := b) (pc := 4) (V := V) (o := o) (ls := ls) (r := r) (x := 39) (as := [.inr (.inr (9, k0, i0)), .inl a1]) rfl rfl rfl h hb ⟨rfl, rfl⟩ (by decide)
  refine h9.trans (congrArg (sm_k2 _ _) ?_)
  funext M1 e
  by_cases h1 : e = 1
  · subst h1; rfl
  rw [if_neg h1]
  have hn9 : sm_hnd T_L_wet 4 e = none := by
    cases hq : sm_hnd T_L_wet 4 e with
    | none => rfl
    | some q =>
      have h8 : ((4, e), q) ∈ ([((4, 1), (13, 3))] : List ((Nat × Nat) × (Nat × Nat))) := sm_look2 hq
      simp [h1] at h8
  rw [hn9]
theorem s_L_wet_7 {b : Nat} {V : Nat → Nat → Int32} {o : Int64} {ls : sm_L} {r : List sm_V} {x : Int32} : sm_R T_L_wet (b, 7, (V, o), ls, .inl x :: r) = sm_R T_L_wet (b, 8, (V, o), ls, .inr (.inl x.toInt64) :: r) := R_i2l rfl
theorem s_L_wet_8 {b : Nat} {V : Nat → Nat → Int32} {o : Int64} {ls : sm_L} {r : List sm_V} {x : Int64} : sm_R T_L_wet (b, 8, (V, o), ls, .inr (.inl x) :: .inl 0 :: .inr (.inr (60, 0, 0)) :: r) = sm_R T_L_wet (b, 9, (V, x), ls, r) := R_lastore rfl
theorem s_L_wet_9 {b : Nat} {V : Nat → Nat → Int32} {o : Int64} {ls : sm_L} {r : List sm_V} : sm_R T_L_wet (b, 9, (V, o), ls, r) = sm_R T_L_wet (b, 15, (V, o), ls, r) := R_goto (tgt := 15) rfl (by decide)
theorem s_L_wet_13 {b : Nat} {V : Nat → Nat → Int32} {o : Int64} {ls : sm_L} {r : List sm_V} : sm_R T_L_wet (b, 13, (V, o), ls, r) = sm_R T_L_wet (b, 14, (V, o), ls, .inl 1 :: r) := R_iconst rfl (by decide)
theorem s_L_wet_14 {b : Nat} {V : Nat → Nat → Int32} {o : Int64} {ls : sm_L} {x : Int32} : sm_R T_L_wet (b, 14, (V, o), ls, [.inl x]) = some ((V, o), .ok (some (.inl x))) := R_ireturn rfl (Or.inr rfl)
theorem s_L_wet_15 {b : Nat} {V : Nat → Nat → Int32} {o : Int64} {ls : sm_L} {r : List sm_V} : sm_R T_L_wet (b, 15, (V, o), ls, r) = sm_R T_L_wet (b, 16, (V, o), ls, .inl 0 :: r) := R_iconst rfl (by decide)
theorem s_L_wet_16 {b : Nat} {V : Nat → Nat → Int32} {o : Int64} {ls : sm_L} {x : Int32} : sm_R T_L_wet (b, 16, (V, o), ls, [.inl x]) = some ((V, o), .ok (some (.inl x))) := R_ireturn rfl (Or.inr rfl)
theorem s_L_pass_0 {b : Nat} {V : Nat → Nat → Int32} {o : Int64} {l0 l1 : Option sm_V} {tl : sm_L} {x : sm_N} {r : List sm_V} : sm_R T_L_pass (b, 0, (V, o), l0 :: l1 :: some (.inr (.inr x)) :: tl, r) = sm_R T_L_pass (b, 1, (V, o), l0 :: l1 :: some (.inr (.inr x)) :: tl, .inr (.inr x) :: r) := R_aload_n rfl rfl
theorem s_L_pass_1 {b : Nat} {V : Nat → Nat → Int32} {o : Int64} {ls : sm_L} {r : List sm_V} : sm_R T_L_pass (b, 1, (V, o), ls, r) = sm_R T_L_pass (b, 2, (V, o), ls, .inl 0 :: r) := R_iconst rfl (by decide)
theorem s_L_pass_2 {b : Nat} {V : Nat → Nat → Int32} {o : Int64} {tl : sm_L} {x : sm_N} {r : List sm_V} : sm_R T_L_pass (b, 2, (V, o), some (.inr (.inr x)) :: tl, r) = sm_R T_L_pass (b, 3, (V, o), some (.inr (.inr x)) :: tl, .inr (.inr x) :: r) := R_aload_n rfl rfl
theorem s_L_pass_3 {b : Nat} {V : Nat → Nat → Int32} {o : Int64} {l0 : Option sm_V} {tl : sm_L} {x : Int32} {r : List sm_V} : sm_R T_L_pass (b, 3, (V, o), l0 :: some (.inl x) :: tl, r) = sm_R T_L_pass (b, 4, (V, o), l0 :: some (.inl x) :: tl, .inl x :: r) := R_iload_n rfl rfl
theorem s_L_pass_4 {b : Nat} {V : Nat → Nat → Int32} {o : Int64} {ls : sm_L} {r : List sm_V} {k0 i0 : Nat} {a1 : Int32} (h : r.length ≤ 4) (hb : 1 ≤ b) : sm_R T_L_pass (b, 4, (V, o), ls, .inl a1 :: .inr (.inr (9, k0, i0)) :: r) = sm_k2 (F_X9_pass (V, o) [.inr (.inr (9, k0, i0)), .inl a1]) (fun M1 v => sm_R T_L_pass ((b - 1), 7, M1, ls, v.toList ++ r)) (fun M1 e => if e = 1 then (sm_g (sm_lk ls 3 = true) (sm_R T_L_pass ((b - 1), 13, M1, ls.set 3 none, []))) else none) := by
  have h9 := R_callH (T := T_L_pass) (b := b) (pc := 4) (V := V) (o := o) (ls := ls) (r := r) (x := 42) (as := [.inr (.inr (9, k0, i0)), .inl a1]) rfl rfl rfl h hb ⟨rfl, rfl⟩ (by decide)
  refine h9.trans (congrArg (sm_k2 _ _) ?_)
  funext M1 e
  by_cases h1 : e = 1
  · subst h1; rfl
  rw [if_neg h1]
  have hn9 : sm_hnd T_L_pass 4 e = none := by
    cases hq : sm_hnd T_L_pass 4 e with
    | none => rfl
    | some q =>
      have h8 : ((4, e), q) ∈ ([((4, 1), (13, 3))] : List ((Nat × Nat) × (Nat × Nat))) := sm_look2 hq
      simp [h1] at h8
  rw [hn9]
theorem s_L_pass_7 {b : Nat} {V : Nat → Nat → Int32} {o : Int64} {ls : sm_L} {r : List sm_V} {x : Int32} : sm_R T_L_pass (b, 7, (V, o), ls, .inl x :: r) = sm_R T_L_pass (b, 8, (V, o), ls, .inr (.inl x.toInt64) :: r) := R_i2l rfl
theorem s_L_pass_8 {b : Nat} {V : Nat → Nat → Int32} {o : Int64} {ls : sm_L} {r : List sm_V} {x : Int64} : sm_R T_L_pass (b, 8, (V, o), ls, .inr (.inl x) :: .inl 0 :: .inr (.inr (60, 0, 0)) :: r) = sm_R T_L_pass (b, 9, (V, x), ls, r) := R_lastore rfl
theorem s_L_pass_9 {b : Nat} {V : Nat → Nat → Int32} {o : Int64} {ls : sm_L} {r : List sm_V} : sm_R T_L_pass (b, 9, (V, o), ls, r) = sm_R T_L_pass (b, 15, (V, o), ls, r) := R_goto (tgt := 15) rfl (by decide)
theorem s_L_pass_13 {b : Nat} {V : Nat → Nat → Int32} {o : Int64} {ls : sm_L} {r : List sm_V} : sm_R T_L_pass (b, 13, (V, o), ls, r) = sm_R T_L_pass (b, 14, (V, o), ls, .inl 1 :: r) := R_iconst rfl (by decide)
theorem s_L_pass_14 {b : Nat} {V : Nat → Nat → Int32} {o : Int64} {ls : sm_L} {x : Int32} : sm_R T_L_pass (b, 14, (V, o), ls, [.inl x]) = some ((V, o), .ok (some (.inl x))) := R_ireturn rfl (Or.inr rfl)
theorem s_L_pass_15 {b : Nat} {V : Nat → Nat → Int32} {o : Int64} {ls : sm_L} {r : List sm_V} : sm_R T_L_pass (b, 15, (V, o), ls, r) = sm_R T_L_pass (b, 16, (V, o), ls, .inl 0 :: r) := R_iconst rfl (by decide)
theorem s_L_pass_16 {b : Nat} {V : Nat → Nat → Int32} {o : Int64} {ls : sm_L} {x : Int32} : sm_R T_L_pass (b, 16, (V, o), ls, [.inl x]) = some ((V, o), .ok (some (.inl x))) := R_ireturn rfl (Or.inr rfl)
theorem s_L_set_0 {b : Nat} {V : Nat → Nat → Int32} {o : Int64} {l0 l1 l2 : Option sm_V} {tl : sm_L} {x : sm_N} {r : List sm_V} : sm_R T_L_set (b, 0, (V, o), l0 :: l1 :: l2 :: some (.inr (.inr x)) :: tl, r) = sm_R T_L_set (b, 1, (V, o), l0 :: l1 :: l2 :: some (.inr (.inr x)) :: tl, .inr (.inr x) :: r) := R_aload_n rfl rfl
theorem s_L_set_1 {b : Nat} {V : Nat → Nat → Int32} {o : Int64} {ls : sm_L} {r : List sm_V} : sm_R T_L_set (b, 1, (V, o), ls, r) = sm_R T_L_set (b, 2, (V, o), ls, .inl 0 :: r) := R_iconst rfl (by decide)
theorem s_L_set_2 {b : Nat} {V : Nat → Nat → Int32} {o : Int64} {tl : sm_L} {x : sm_N} {r : List sm_V} : sm_R T_L_set (b, 2, (V, o), some (.inr (.inr x)) :: tl, r) = sm_R T_L_set (b, 3, (V, o), some (.inr (.inr x)) :: tl, .inr (.inr x) :: r) := R_aload_n rfl rfl
theorem s_L_set_3 {b : Nat} {V : Nat → Nat → Int32} {o : Int64} {l0 : Option sm_V} {tl : sm_L} {x : Int32} {r : List sm_V} : sm_R T_L_set (b, 3, (V, o), l0 :: some (.inl x) :: tl, r) = sm_R T_L_set (b, 4, (V, o), l0 :: some (.inl x) :: tl, .inl x :: r) := R_iload_n rfl rfl
theorem s_L_set_4 {b : Nat} {V : Nat → Nat → Int32} {o : Int64} {l0 l1 : Option sm_V} {tl : sm_L} {x : Int32} {r : List sm_V} : sm_R T_L_set (b, 4, (V, o), l0 :: l1 :: some (.inl x) :: tl, r) = sm_R T_L_set (b, 5, (V, o), l0 :: l1 :: some (.inl x) :: tl, .inl x :: r) := R_iload_n rfl rfl
theorem s_L_set_5 {b : Nat} {V : Nat → Nat → Int32} {o : Int64} {ls : sm_L} {r : List sm_V} {k0 i0 : Nat} {a1 : Int32} {a2 : Int32} (h : r.length ≤ 4) (hb : 1 ≤ b) : sm_R T_L_set (b, 5, (V, o), ls, .inl a2 :: .inl a1 :: .inr (.inr (9, k0, i0)) :: r) = sm_k2 (F_X9_set (V, o) [.inr (.inr (9, k0, i0)), .inl a1, .inl a2]) (fun M1 v => sm_R T_L_set ((b - 1), 8, M1, ls, v.toList ++ r)) (fun M1 e => if e = 1 then (sm_g (sm_lk ls 4 = true) (sm_R T_L_set ((b - 1), 15, M1, ls.set 4 none, []))) else none) := by
  have h9 := R_callH (T := T_L_set) (b := b) (pc := 5) (V := V) (o := o) (ls := ls) (r := r) (x := 45) (as := [.inr (.inr (9, k0, i0)), .inl a1, .inl a2]) rfl rfl rfl h hb ⟨rfl, rfl⟩ (by decide)
  refine h9.trans (congrArg (sm_k2 _ _) ?_)
  funext M1 e
  by_cases h1 : e = 1
  · subst h1; rfl
  rw [if_neg h1]
  have hn9 : sm_hnd T_L_set 5 e = none := by
    cases hq : sm_hnd T_L_set 5 e with
    | none => rfl
    | some q =>
      have h8 : ((5, e), q) ∈ ([((5, 1), (15, 4))] : List ((Nat × Nat) × (Nat × Nat))) := sm_look2 hq
      simp [h1] at h8
  rw [hn9]
theorem s_L_set_8 {b : Nat} {V : Nat → Nat → Int32} {o : Int64} {ls : sm_L} {r : List sm_V} {x : Int32} : sm_R T_L_set (b, 8, (V, o), ls, .inl x :: r) = sm_R T_L_set (b, 9, (V, o), ls, .inr (.inl x.toInt64) :: r) := R_i2l rfl
theorem s_L_set_9 {b : Nat} {V : Nat → Nat → Int32} {o : Int64} {ls : sm_L} {r : List sm_V} {x : Int64} : sm_R T_L_set (b, 9, (V, o), ls, .inr (.inl x) :: .inl 0 :: .inr (.inr (60, 0, 0)) :: r) = sm_R T_L_set (b, 10, (V, x), ls, r) := R_lastore rfl
theorem s_L_set_10 {b : Nat} {V : Nat → Nat → Int32} {o : Int64} {ls : sm_L} {r : List sm_V} : sm_R T_L_set (b, 10, (V, o), ls, r) = sm_R T_L_set (b, 17, (V, o), ls, r) := R_goto (tgt := 17) rfl (by decide)
theorem s_L_set_15 {b : Nat} {V : Nat → Nat → Int32} {o : Int64} {ls : sm_L} {r : List sm_V} : sm_R T_L_set (b, 15, (V, o), ls, r) = sm_R T_L_set (b, 16, (V, o), ls, .inl 1 :: r) := R_iconst rfl (by decide)
theorem s_L_set_16 {b : Nat} {V : Nat → Nat → Int32} {o : Int64} {ls : sm_L} {x : Int32} : sm_R T_L_set (b, 16, (V, o), ls, [.inl x]) = some ((V, o), .ok (some (.inl x))) := R_ireturn rfl (Or.inr rfl)
theorem s_L_set_17 {b : Nat} {V : Nat → Nat → Int32} {o : Int64} {ls : sm_L} {r : List sm_V} : sm_R T_L_set (b, 17, (V, o), ls, r) = sm_R T_L_set (b, 18, (V, o), ls, .inl 0 :: r) := R_iconst rfl (by decide)
theorem s_L_set_18 {b : Nat} {V : Nat → Nat → Int32} {o : Int64} {ls : sm_L} {x : Int32} : sm_R T_L_set (b, 18, (V, o), ls, [.inl x]) = some ((V, o), .ok (some (.inl x))) := R_ireturn rfl (Or.inr rfl)
theorem s_L_fill_0 {b : Nat} {V : Nat → Nat → Int32} {o : Int64} {l0 l1 : Option sm_V} {tl : sm_L} {x : sm_N} {r : List sm_V} : sm_R T_L_fill (b, 0, (V, o), l0 :: l1 :: some (.inr (.inr x)) :: tl, r) = sm_R T_L_fill (b, 1, (V, o), l0 :: l1 :: some (.inr (.inr x)) :: tl, .inr (.inr x) :: r) := R_aload_n rfl rfl
theorem s_L_fill_1 {b : Nat} {V : Nat → Nat → Int32} {o : Int64} {ls : sm_L} {r : List sm_V} : sm_R T_L_fill (b, 1, (V, o), ls, r) = sm_R T_L_fill (b, 2, (V, o), ls, .inl 0 :: r) := R_iconst rfl (by decide)
theorem s_L_fill_2 {b : Nat} {V : Nat → Nat → Int32} {o : Int64} {tl : sm_L} {x : sm_N} {r : List sm_V} : sm_R T_L_fill (b, 2, (V, o), some (.inr (.inr x)) :: tl, r) = sm_R T_L_fill (b, 3, (V, o), some (.inr (.inr x)) :: tl, .inr (.inr x) :: r) := R_aload_n rfl rfl
theorem s_L_fill_3 {b : Nat} {V : Nat → Nat → Int32} {o : Int64} {l0 : Option sm_V} {tl : sm_L} {x : Int32} {r : List sm_V} : sm_R T_L_fill (b, 3, (V, o), l0 :: some (.inl x) :: tl, r) = sm_R T_L_fill (b, 4, (V, o), l0 :: some (.inl x) :: tl, .inl x :: r) := R_iload_n rfl rfl
theorem s_L_fill_4 {b : Nat} {V : Nat → Nat → Int32} {o : Int64} {ls : sm_L} {r : List sm_V} {k0 i0 : Nat} {a1 : Int32} (h : r.length ≤ 4) (hb : 1 ≤ b) : sm_R T_L_fill (b, 4, (V, o), ls, .inl a1 :: .inr (.inr (9, k0, i0)) :: r) = sm_k2 (F_X9_fill (V, o) [.inr (.inr (9, k0, i0)), .inl a1]) (fun M1 v => sm_R T_L_fill ((b - 1), 7, M1, ls, v.toList ++ r)) (fun M1 e => if e = 1 then (sm_g (sm_lk ls 3 = true) (sm_R T_L_fill ((b - 1), 13, M1, ls.set 3 none, []))) else none) := by
  have h9 := R_callH (T := T_L_fill) (b := b) (pc := 4) (V := V) (o := o) (ls := ls) (r := r) (x := 48) (as := [.inr (.inr (9, k0, i0)), .inl a1]) rfl rfl rfl h hb ⟨rfl, rfl⟩ (by decide)
  refine h9.trans (congrArg (sm_k2 _ _) ?_)
  funext M1 e
  by_cases h1 : e = 1
  · subst h1; rfl
  rw [if_neg h1]
  have hn9 : sm_hnd T_L_fill 4 e = none := by
    cases hq : sm_hnd T_L_fill 4 e with
    | none => rfl
    | some q =>
      have h8 : ((4, e), q) ∈ ([((4, 1), (13, 3))] : List ((Nat × Nat) × (Nat × Nat))) := sm_look2 hq
      simp [h1] at h8
  rw [hn9]
theorem s_L_fill_7 {b : Nat} {V : Nat → Nat → Int32} {o : Int64} {ls : sm_L} {r : List sm_V} {x : Int32} : sm_R T_L_fill (b, 7, (V, o), ls, .inl x :: r) = sm_R T_L_fill (b, 8, (V, o), ls, .inr (.inl x.toInt64) :: r) := R_i2l rfl
theorem s_L_fill_8 {b : Nat} {V : Nat → Nat → Int32} {o : Int64} {ls : sm_L} {r : List sm_V} {x : Int64} : sm_R T_L_fill (b, 8, (V, o), ls, .inr (.inl x) :: .inl 0 :: .inr (.inr (60, 0, 0)) :: r) = sm_R T_L_fill (b, 9, (V, x), ls, r) := R_lastore rfl
theorem s_L_fill_9 {b : Nat} {V : Nat → Nat → Int32} {o : Int64} {ls : sm_L} {r : List sm_V} : sm_R T_L_fill (b, 9, (V, o), ls, r) = sm_R T_L_fill (b, 15, (V, o), ls, r) := R_goto (tgt := 15) rfl (by decide)
theorem s_L_fill_13 {b : Nat} {V : Nat → Nat → Int32} {o : Int64} {ls : sm_L} {r : List sm_V} : sm_R T_L_fill (b, 13, (V, o), ls, r) = sm_R T_L_fill (b, 14, (V, o), ls, .inl 1 :: r) := R_iconst rfl (by decide)
theorem s_L_fill_14 {b : Nat} {V : Nat → Nat → Int32} {o : Int64} {ls : sm_L} {x : Int32} : sm_R T_L_fill (b, 14, (V, o), ls, [.inl x]) = some ((V, o), .ok (some (.inl x))) := R_ireturn rfl (Or.inr rfl)
theorem s_L_fill_15 {b : Nat} {V : Nat → Nat → Int32} {o : Int64} {ls : sm_L} {r : List sm_V} : sm_R T_L_fill (b, 15, (V, o), ls, r) = sm_R T_L_fill (b, 16, (V, o), ls, .inl 0 :: r) := R_iconst rfl (by decide)
theorem s_L_fill_16 {b : Nat} {V : Nat → Nat → Int32} {o : Int64} {ls : sm_L} {x : Int32} : sm_R T_L_fill (b, 16, (V, o), ls, [.inl x]) = some ((V, o), .ok (some (.inl x))) := R_ireturn rfl (Or.inr rfl)
theorem s_L_setWet_0 {b : Nat} {V : Nat → Nat → Int32} {o : Int64} {l0 l1 l2 : Option sm_V} {tl : sm_L} {x : sm_N} {r : List sm_V} : sm_R T_L_setWet (b, 0, (V, o), l0 :: l1 :: l2 :: some (.inr (.inr x)) :: tl, r) = sm_R T_L_setWet (b, 1, (V, o), l0 :: l1 :: l2 :: some (.inr (.inr x)) :: tl, .inr (.inr x) :: r) := R_aload_n rfl rfl
theorem s_L_setWet_1 {b : Nat} {V : Nat → Nat → Int32} {o : Int64} {ls : sm_L} {r : List sm_V} : sm_R T_L_setWet (b, 1, (V, o), ls, r) = sm_R T_L_setWet (b, 2, (V, o), ls, .inl 0 :: r) := R_iconst rfl (by decide)
theorem s_L_setWet_2 {b : Nat} {V : Nat → Nat → Int32} {o : Int64} {tl : sm_L} {x : sm_N} {r : List sm_V} : sm_R T_L_setWet (b, 2, (V, o), some (.inr (.inr x)) :: tl, r) = sm_R T_L_setWet (b, 3, (V, o), some (.inr (.inr x)) :: tl, .inr (.inr x) :: r) := R_aload_n rfl rfl
theorem s_L_setWet_3 {b : Nat} {V : Nat → Nat → Int32} {o : Int64} {l0 : Option sm_V} {tl : sm_L} {x : Int32} {r : List sm_V} : sm_R T_L_setWet (b, 3, (V, o), l0 :: some (.inl x) :: tl, r) = sm_R T_L_setWet (b, 4, (V, o), l0 :: some (.inl x) :: tl, .inl x :: r) := R_iload_n rfl rfl
theorem s_L_setWet_4 {b : Nat} {V : Nat → Nat → Int32} {o : Int64} {l0 l1 : Option sm_V} {tl : sm_L} {x : Int32} {r : List sm_V} : sm_R T_L_setWet (b, 4, (V, o), l0 :: l1 :: some (.inl x) :: tl, r) = sm_R T_L_setWet (b, 5, (V, o), l0 :: l1 :: some (.inl x) :: tl, .inl x :: r) := R_iload_n rfl rfl
theorem s_L_setWet_5 {b : Nat} {V : Nat → Nat → Int32} {o : Int64} {ls : sm_L} {r : List sm_V} {k0 i0 : Nat} {a1 : Int32} {a2 : Int32} (h : r.length ≤ 4) (hb : 1 ≤ b) : sm_R T_L_setWet (b, 5, (V, o), ls, .inl a2 :: .inl a1 :: .inr (.inr (9, k0, i0)) :: r) = sm_k2 (F_X9_setWet (V, o) [.inr (.inr (9, k0, i0)), .inl a1, .inl a2]) (fun M1 v => sm_R T_L_setWet ((b - 1), 8, M1, ls, v.toList ++ r)) (fun M1 e => if e = 1 then (sm_g (sm_lk ls 4 = true) (sm_R T_L_setWet ((b - 1), 15, M1, ls.set 4 none, []))) else none) := by
  have h9 := R_callH (T := T_L_setWet) (b := b) (pc := 5) (V := V) (o := o) (ls := ls) (r := r) (x := 51) (as := [.inr (.inr (9, k0, i0)), .inl a1, .inl a2]) rfl rfl rfl h hb ⟨rfl, rfl⟩ (by decide)
  refine h9.trans (congrArg (sm_k2 _ _) ?_)
  funext M1 e
  by_cases h1 : e = 1
  · subst h1; rfl
  rw [if_neg h1]
  have hn9 : sm_hnd T_L_setWet 5 e = none := by
    cases hq : sm_hnd T_L_setWet 5 e with
    | none => rfl
    | some q =>
      have h8 : ((5, e), q) ∈ ([((5, 1), (15, 4))] : List ((Nat × Nat) × (Nat × Nat))) := sm_look2 hq
      simp [h1] at h8
  rw [hn9]
theorem s_L_setWet_8 {b : Nat} {V : Nat → Nat → Int32} {o : Int64} {ls : sm_L} {r : List sm_V} {x : Int32} : sm_R T_L_setWet (b, 8, (V, o), ls, .inl x :: r) = sm_R T_L_setWet (b, 9, (V, o), ls, .inr (.inl x.toInt64) :: r) := R_i2l rfl
theorem s_L_setWet_9 {b : Nat} {V : Nat → Nat → Int32} {o : Int64} {ls : sm_L} {r : List sm_V} {x : Int64} : sm_R T_L_setWet (b, 9, (V, o), ls, .inr (.inl x) :: .inl 0 :: .inr (.inr (60, 0, 0)) :: r) = sm_R T_L_setWet (b, 10, (V, x), ls, r) := R_lastore rfl
theorem s_L_setWet_10 {b : Nat} {V : Nat → Nat → Int32} {o : Int64} {ls : sm_L} {r : List sm_V} : sm_R T_L_setWet (b, 10, (V, o), ls, r) = sm_R T_L_setWet (b, 17, (V, o), ls, r) := R_goto (tgt := 17) rfl (by decide)
theorem s_L_setWet_15 {b : Nat} {V : Nat → Nat → Int32} {o : Int64} {ls : sm_L} {r : List sm_V} : sm_R T_L_setWet (b, 15, (V, o), ls, r) = sm_R T_L_setWet (b, 16, (V, o), ls, .inl 1 :: r) := R_iconst rfl (by decide)
theorem s_L_setWet_16 {b : Nat} {V : Nat → Nat → Int32} {o : Int64} {ls : sm_L} {x : Int32} : sm_R T_L_setWet (b, 16, (V, o), ls, [.inl x]) = some ((V, o), .ok (some (.inl x))) := R_ireturn rfl (Or.inr rfl)
theorem s_L_setWet_17 {b : Nat} {V : Nat → Nat → Int32} {o : Int64} {ls : sm_L} {r : List sm_V} : sm_R T_L_setWet (b, 17, (V, o), ls, r) = sm_R T_L_setWet (b, 18, (V, o), ls, .inl 0 :: r) := R_iconst rfl (by decide)
theorem s_L_setWet_18 {b : Nat} {V : Nat → Nat → Int32} {o : Int64} {ls : sm_L} {x : Int32} : sm_R T_L_setWet (b, 18, (V, o), ls, [.inl x]) = some ((V, o), .ok (some (.inl x))) := R_ireturn rfl (Or.inr rfl)
theorem s_L_setSlope_0 {b : Nat} {V : Nat → Nat → Int32} {o : Int64} {l0 l1 l2 l3 : Option sm_V} {tl : sm_L} {x : sm_N} {r : List sm_V} : sm_R T_L_setSlope (b, 0, (V, o), l0 :: l1 :: l2 :: l3 :: some (.inr (.inr x)) :: tl, r) = sm_R T_L_setSlope (b, 2, (V, o), l0 :: l1 :: l2 :: l3 :: some (.inr (.inr x)) :: tl, .inr (.inr x) :: r) := R_aload rfl rfl
theorem s_L_setSlope_2 {b : Nat} {V : Nat → Nat → Int32} {o : Int64} {ls : sm_L} {r : List sm_V} : sm_R T_L_setSlope (b, 2, (V, o), ls, r) = sm_R T_L_setSlope (b, 3, (V, o), ls, .inl 0 :: r) := R_iconst rfl (by decide)
theorem s_L_setSlope_3 {b : Nat} {V : Nat → Nat → Int32} {o : Int64} {tl : sm_L} {x : sm_N} {r : List sm_V} : sm_R T_L_setSlope (b, 3, (V, o), some (.inr (.inr x)) :: tl, r) = sm_R T_L_setSlope (b, 4, (V, o), some (.inr (.inr x)) :: tl, .inr (.inr x) :: r) := R_aload_n rfl rfl
theorem s_L_setSlope_4 {b : Nat} {V : Nat → Nat → Int32} {o : Int64} {l0 : Option sm_V} {tl : sm_L} {x : Int32} {r : List sm_V} : sm_R T_L_setSlope (b, 4, (V, o), l0 :: some (.inl x) :: tl, r) = sm_R T_L_setSlope (b, 5, (V, o), l0 :: some (.inl x) :: tl, .inl x :: r) := R_iload_n rfl rfl
theorem s_L_setSlope_5 {b : Nat} {V : Nat → Nat → Int32} {o : Int64} {l0 l1 : Option sm_V} {tl : sm_L} {x : Int32} {r : List sm_V} : sm_R T_L_setSlope (b, 5, (V, o), l0 :: l1 :: some (.inl x) :: tl, r) = sm_R T_L_setSlope (b, 6, (V, o), l0 :: l1 :: some (.inl x) :: tl, .inl x :: r) := R_iload_n rfl rfl
theorem s_L_setSlope_6 {b : Nat} {V : Nat → Nat → Int32} {o : Int64} {l0 l1 l2 : Option sm_V} {tl : sm_L} {x : Int32} {r : List sm_V} : sm_R T_L_setSlope (b, 6, (V, o), l0 :: l1 :: l2 :: some (.inl x) :: tl, r) = sm_R T_L_setSlope (b, 7, (V, o), l0 :: l1 :: l2 :: some (.inl x) :: tl, .inl x :: r) := R_iload_n rfl rfl
theorem s_L_setSlope_7 {b : Nat} {V : Nat → Nat → Int32} {o : Int64} {ls : sm_L} {r : List sm_V} {k0 i0 : Nat} {a1 : Int32} {a2 : Int32} {a3 : Int32} (h : r.length ≤ 4) (hb : 2 ≤ b) : sm_R T_L_setSlope (b, 7, (V, o), ls, .inl a3 :: .inl a2 :: .inl a1 :: .inr (.inr (9, k0, i0)) :: r) = sm_k2 (F_X9_setSlope (V, o) [.inr (.inr (9, k0, i0)), .inl a1, .inl a2, .inl a3]) (fun M1 v => sm_R T_L_setSlope ((b - 2), 10, M1, ls, v.toList ++ r)) (fun M1 e => if e = 3 then (sm_g (sm_lk ls 5 = true) (sm_R T_L_setSlope ((b - 2), 17, M1, ls.set 5 none, []))) else if e = 1 then (sm_g (sm_lk ls 5 = true) (sm_R T_L_setSlope ((b - 2), 21, M1, ls.set 5 none, []))) else none) := by
  have h9 := R_callH (T := T_L_setSlope) (b := b) (pc := 7) (V := V) (o := o) (ls := ls) (r := r) (x := 54) (as := [.inr (.inr (9, k0, i0)), .inl a1, .inl a2, .inl a3]) rfl rfl rfl h hb ⟨rfl, rfl⟩ (by decide)
  refine h9.trans (congrArg (sm_k2 _ _) ?_)
  funext M1 e
  by_cases h3 : e = 3
  · subst h3; rfl
  rw [if_neg h3]
  by_cases h1 : e = 1
  · subst h1; rfl
  rw [if_neg h1]
  have hn9 : sm_hnd T_L_setSlope 7 e = none := by
    cases hq : sm_hnd T_L_setSlope 7 e with
    | none => rfl
    | some q =>
      have h8 : ((7, e), q) ∈ ([((7, 3), (17, 5)), ((7, 1), (21, 5))] : List ((Nat × Nat) × (Nat × Nat))) := sm_look2 hq
      simp [h3, h1] at h8
  rw [hn9]
theorem s_L_setSlope_10 {b : Nat} {V : Nat → Nat → Int32} {o : Int64} {ls : sm_L} {r : List sm_V} {x : Int32} : sm_R T_L_setSlope (b, 10, (V, o), ls, .inl x :: r) = sm_R T_L_setSlope (b, 11, (V, o), ls, .inr (.inl x.toInt64) :: r) := R_i2l rfl
theorem s_L_setSlope_11 {b : Nat} {V : Nat → Nat → Int32} {o : Int64} {ls : sm_L} {r : List sm_V} {x : Int64} : sm_R T_L_setSlope (b, 11, (V, o), ls, .inr (.inl x) :: .inl 0 :: .inr (.inr (60, 0, 0)) :: r) = sm_R T_L_setSlope (b, 12, (V, x), ls, r) := R_lastore rfl
theorem s_L_setSlope_12 {b : Nat} {V : Nat → Nat → Int32} {o : Int64} {ls : sm_L} {r : List sm_V} : sm_R T_L_setSlope (b, 12, (V, o), ls, r) = sm_R T_L_setSlope (b, 23, (V, o), ls, r) := R_goto (tgt := 23) rfl (by decide)
theorem s_L_setSlope_17 {b : Nat} {V : Nat → Nat → Int32} {o : Int64} {ls : sm_L} {r : List sm_V} : sm_R T_L_setSlope (b, 17, (V, o), ls, r) = sm_R T_L_setSlope (b, 18, (V, o), ls, .inl 1 :: r) := R_iconst rfl (by decide)
theorem s_L_setSlope_18 {b : Nat} {V : Nat → Nat → Int32} {o : Int64} {ls : sm_L} {x : Int32} : sm_R T_L_setSlope (b, 18, (V, o), ls, [.inl x]) = some ((V, o), .ok (some (.inl x))) := R_ireturn rfl (Or.inr rfl)
theorem s_L_setSlope_21 {b : Nat} {V : Nat → Nat → Int32} {o : Int64} {ls : sm_L} {r : List sm_V} : sm_R T_L_setSlope (b, 21, (V, o), ls, r) = sm_R T_L_setSlope (b, 22, (V, o), ls, .inl 2 :: r) := R_iconst rfl (by decide)
theorem s_L_setSlope_22 {b : Nat} {V : Nat → Nat → Int32} {o : Int64} {ls : sm_L} {x : Int32} : sm_R T_L_setSlope (b, 22, (V, o), ls, [.inl x]) = some ((V, o), .ok (some (.inl x))) := R_ireturn rfl (Or.inr rfl)
theorem s_L_setSlope_23 {b : Nat} {V : Nat → Nat → Int32} {o : Int64} {ls : sm_L} {r : List sm_V} : sm_R T_L_setSlope (b, 23, (V, o), ls, r) = sm_R T_L_setSlope (b, 24, (V, o), ls, .inl 0 :: r) := R_iconst rfl (by decide)
theorem s_L_setSlope_24 {b : Nat} {V : Nat → Nat → Int32} {o : Int64} {ls : sm_L} {x : Int32} : sm_R T_L_setSlope (b, 24, (V, o), ls, [.inl x]) = some ((V, o), .ok (some (.inl x))) := R_ireturn rfl (Or.inr rfl)
theorem s_L_addSlope_0 {b : Nat} {V : Nat → Nat → Int32} {o : Int64} {l0 l1 l2 l3 : Option sm_V} {tl : sm_L} {x : sm_N} {r : List sm_V} : sm_R T_L_addSlope (b, 0, (V, o), l0 :: l1 :: l2 :: l3 :: some (.inr (.inr x)) :: tl, r) = sm_R T_L_addSlope (b, 2, (V, o), l0 :: l1 :: l2 :: l3 :: some (.inr (.inr x)) :: tl, .inr (.inr x) :: r) := R_aload rfl rfl
theorem s_L_addSlope_2 {b : Nat} {V : Nat → Nat → Int32} {o : Int64} {ls : sm_L} {r : List sm_V} : sm_R T_L_addSlope (b, 2, (V, o), ls, r) = sm_R T_L_addSlope (b, 3, (V, o), ls, .inl 0 :: r) := R_iconst rfl (by decide)
theorem s_L_addSlope_3 {b : Nat} {V : Nat → Nat → Int32} {o : Int64} {tl : sm_L} {x : sm_N} {r : List sm_V} : sm_R T_L_addSlope (b, 3, (V, o), some (.inr (.inr x)) :: tl, r) = sm_R T_L_addSlope (b, 4, (V, o), some (.inr (.inr x)) :: tl, .inr (.inr x) :: r) := R_aload_n rfl rfl
theorem s_L_addSlope_4 {b : Nat} {V : Nat → Nat → Int32} {o : Int64} {l0 : Option sm_V} {tl : sm_L} {x : Int32} {r : List sm_V} : sm_R T_L_addSlope (b, 4, (V, o), l0 :: some (.inl x) :: tl, r) = sm_R T_L_addSlope (b, 5, (V, o), l0 :: some (.inl x) :: tl, .inl x :: r) := R_iload_n rfl rfl
theorem s_L_addSlope_5 {b : Nat} {V : Nat → Nat → Int32} {o : Int64} {l0 l1 : Option sm_V} {tl : sm_L} {x : Int32} {r : List sm_V} : sm_R T_L_addSlope (b, 5, (V, o), l0 :: l1 :: some (.inl x) :: tl, r) = sm_R T_L_addSlope (b, 6, (V, o), l0 :: l1 :: some (.inl x) :: tl, .inl x :: r) := R_iload_n rfl rfl
theorem s_L_addSlope_6 {b : Nat} {V : Nat → Nat → Int32} {o : Int64} {l0 l1 l2 : Option sm_V} {tl : sm_L} {x : Int32} {r : List sm_V} : sm_R T_L_addSlope (b, 6, (V, o), l0 :: l1 :: l2 :: some (.inl x) :: tl, r) = sm_R T_L_addSlope (b, 7, (V, o), l0 :: l1 :: l2 :: some (.inl x) :: tl, .inl x :: r) := R_iload_n rfl rfl
theorem s_L_addSlope_7 {b : Nat} {V : Nat → Nat → Int32} {o : Int64} {ls : sm_L} {r : List sm_V} {k0 i0 : Nat} {a1 : Int32} {a2 : Int32} {a3 : Int32} (h : r.length ≤ 4) (hb : 1 ≤ b) : sm_R T_L_addSlope (b, 7, (V, o), ls, .inl a3 :: .inl a2 :: .inl a1 :: .inr (.inr (9, k0, i0)) :: r) = sm_k2 (F_X9_addSlope (V, o) [.inr (.inr (9, k0, i0)), .inl a1, .inl a2, .inl a3]) (fun M1 v => sm_R T_L_addSlope ((b - 1), 10, M1, ls, v.toList ++ r)) (fun M1 e => if e = 1 then (sm_g (sm_lk ls 5 = true) (sm_R T_L_addSlope ((b - 1), 17, M1, ls.set 5 none, []))) else if e = 2 then (sm_g (sm_lk ls 5 = true) (sm_R T_L_addSlope ((b - 1), 21, M1, ls.set 5 none, []))) else none) := by
  have h9 := R_callH (T := T_L_addSlope) (b := b) (pc := 7) (V := V) (o := o) (ls := ls) (r := r) (x := 58) (as := [.inr (.inr (9, k0, i0)), .inl a1, .inl a2, .inl a3]) rfl rfl rfl h hb ⟨rfl, rfl⟩ (by decide)
  refine h9.trans (congrArg (sm_k2 _ _) ?_)
  funext M1 e
  by_cases h1 : e = 1
  · subst h1; rfl
  rw [if_neg h1]
  by_cases h2 : e = 2
  · subst h2; rfl
  rw [if_neg h2]
  have hn9 : sm_hnd T_L_addSlope 7 e = none := by
    cases hq : sm_hnd T_L_addSlope 7 e with
    | none => rfl
    | some q =>
      have h8 : ((7, e), q) ∈ ([((7, 1), (17, 5)), ((7, 2), (21, 5))] : List ((Nat × Nat) × (Nat × Nat))) := sm_look2 hq
      simp [h1, h2] at h8
  rw [hn9]
theorem s_L_addSlope_10 {b : Nat} {V : Nat → Nat → Int32} {o : Int64} {ls : sm_L} {r : List sm_V} {x : Int32} : sm_R T_L_addSlope (b, 10, (V, o), ls, .inl x :: r) = sm_R T_L_addSlope (b, 11, (V, o), ls, .inr (.inl x.toInt64) :: r) := R_i2l rfl
theorem s_L_addSlope_11 {b : Nat} {V : Nat → Nat → Int32} {o : Int64} {ls : sm_L} {r : List sm_V} {x : Int64} : sm_R T_L_addSlope (b, 11, (V, o), ls, .inr (.inl x) :: .inl 0 :: .inr (.inr (60, 0, 0)) :: r) = sm_R T_L_addSlope (b, 12, (V, x), ls, r) := R_lastore rfl
theorem s_L_addSlope_12 {b : Nat} {V : Nat → Nat → Int32} {o : Int64} {ls : sm_L} {r : List sm_V} : sm_R T_L_addSlope (b, 12, (V, o), ls, r) = sm_R T_L_addSlope (b, 23, (V, o), ls, r) := R_goto (tgt := 23) rfl (by decide)
theorem s_L_addSlope_17 {b : Nat} {V : Nat → Nat → Int32} {o : Int64} {ls : sm_L} {r : List sm_V} : sm_R T_L_addSlope (b, 17, (V, o), ls, r) = sm_R T_L_addSlope (b, 18, (V, o), ls, .inl 1 :: r) := R_iconst rfl (by decide)
theorem s_L_addSlope_18 {b : Nat} {V : Nat → Nat → Int32} {o : Int64} {ls : sm_L} {x : Int32} : sm_R T_L_addSlope (b, 18, (V, o), ls, [.inl x]) = some ((V, o), .ok (some (.inl x))) := R_ireturn rfl (Or.inr rfl)
theorem s_L_addSlope_21 {b : Nat} {V : Nat → Nat → Int32} {o : Int64} {ls : sm_L} {r : List sm_V} : sm_R T_L_addSlope (b, 21, (V, o), ls, r) = sm_R T_L_addSlope (b, 22, (V, o), ls, .inl 2 :: r) := R_iconst rfl (by decide)
theorem s_L_addSlope_22 {b : Nat} {V : Nat → Nat → Int32} {o : Int64} {ls : sm_L} {x : Int32} : sm_R T_L_addSlope (b, 22, (V, o), ls, [.inl x]) = some ((V, o), .ok (some (.inl x))) := R_ireturn rfl (Or.inr rfl)
theorem s_L_addSlope_23 {b : Nat} {V : Nat → Nat → Int32} {o : Int64} {ls : sm_L} {r : List sm_V} : sm_R T_L_addSlope (b, 23, (V, o), ls, r) = sm_R T_L_addSlope (b, 24, (V, o), ls, .inl 0 :: r) := R_iconst rfl (by decide)
theorem s_L_addSlope_24 {b : Nat} {V : Nat → Nat → Int32} {o : Int64} {ls : sm_L} {x : Int32} : sm_R T_L_addSlope (b, 24, (V, o), ls, [.inl x]) = some ((V, o), .ok (some (.inl x))) := R_ireturn rfl (Or.inr rfl)
theorem s_L_removeSlope_0 {b : Nat} {V : Nat → Nat → Int32} {o : Int64} {l0 l1 : Option sm_V} {tl : sm_L} {x : sm_N} {r : List sm_V} : sm_R T_L_removeSlope (b, 0, (V, o), l0 :: l1 :: some (.inr (.inr x)) :: tl, r) = sm_R T_L_removeSlope (b, 1, (V, o), l0 :: l1 :: some (.inr (.inr x)) :: tl, .inr (.inr x) :: r) := R_aload_n rfl rfl
theorem s_L_removeSlope_1 {b : Nat} {V : Nat → Nat → Int32} {o : Int64} {ls : sm_L} {r : List sm_V} : sm_R T_L_removeSlope (b, 1, (V, o), ls, r) = sm_R T_L_removeSlope (b, 2, (V, o), ls, .inl 0 :: r) := R_iconst rfl (by decide)
theorem s_L_removeSlope_2 {b : Nat} {V : Nat → Nat → Int32} {o : Int64} {tl : sm_L} {x : sm_N} {r : List sm_V} : sm_R T_L_removeSlope (b, 2, (V, o), some (.inr (.inr x)) :: tl, r) = sm_R T_L_removeSlope (b, 3, (V, o), some (.inr (.inr x)) :: tl, .inr (.inr x) :: r) := R_aload_n rfl rfl
theorem s_L_removeSlope_3 {b : Nat} {V : Nat → Nat → Int32} {o : Int64} {l0 : Option sm_V} {tl : sm_L} {x : Int32} {r : List sm_V} : sm_R T_L_removeSlope (b, 3, (V, o), l0 :: some (.inl x) :: tl, r) = sm_R T_L_removeSlope (b, 4, (V, o), l0 :: some (.inl x) :: tl, .inl x :: r) := R_iload_n rfl rfl
theorem s_L_removeSlope_4 {b : Nat} {V : Nat → Nat → Int32} {o : Int64} {ls : sm_L} {r : List sm_V} {k0 i0 : Nat} {a1 : Int32} (h : r.length ≤ 4) (hb : 2 ≤ b) : sm_R T_L_removeSlope (b, 4, (V, o), ls, .inl a1 :: .inr (.inr (9, k0, i0)) :: r) = sm_k2 (F_X9_removeSlope (V, o) [.inr (.inr (9, k0, i0)), .inl a1]) (fun M1 v => sm_R T_L_removeSlope ((b - 2), 7, M1, ls, v.toList ++ r)) (fun M1 e => if e = 3 then (sm_g (sm_lk ls 3 = true) (sm_R T_L_removeSlope ((b - 2), 13, M1, ls.set 3 none, []))) else if e = 2 then (sm_g (sm_lk ls 3 = true) (sm_R T_L_removeSlope ((b - 2), 16, M1, ls.set 3 none, []))) else none) := by
  have h9 := R_callH (T := T_L_removeSlope) (b := b) (pc := 4) (V := V) (o := o) (ls := ls) (r := r) (x := 61) (as := [.inr (.inr (9, k0, i0)), .inl a1]) rfl rfl rfl h hb ⟨rfl, rfl⟩ (by decide)
  refine h9.trans (congrArg (sm_k2 _ _) ?_)
  funext M1 e
  by_cases h3 : e = 3
  · subst h3; rfl
  rw [if_neg h3]
  by_cases h2 : e = 2
  · subst h2; rfl
  rw [if_neg h2]
  have hn9 : sm_hnd T_L_removeSlope 4 e = none := by
    cases hq : sm_hnd T_L_removeSlope 4 e with
    | none => rfl
    | some q =>
      have h8 : ((4, e), q) ∈ ([((4, 3), (13, 3)), ((4, 2), (16, 3))] : List ((Nat × Nat) × (Nat × Nat))) := sm_look2 hq
      simp [h3, h2] at h8
  rw [hn9]
theorem s_L_removeSlope_7 {b : Nat} {V : Nat → Nat → Int32} {o : Int64} {ls : sm_L} {r : List sm_V} {x : Int32} : sm_R T_L_removeSlope (b, 7, (V, o), ls, .inl x :: r) = sm_R T_L_removeSlope (b, 8, (V, o), ls, .inr (.inl x.toInt64) :: r) := R_i2l rfl
theorem s_L_removeSlope_8 {b : Nat} {V : Nat → Nat → Int32} {o : Int64} {ls : sm_L} {r : List sm_V} {x : Int64} : sm_R T_L_removeSlope (b, 8, (V, o), ls, .inr (.inl x) :: .inl 0 :: .inr (.inr (60, 0, 0)) :: r) = sm_R T_L_removeSlope (b, 9, (V, x), ls, r) := R_lastore rfl
theorem s_L_removeSlope_9 {b : Nat} {V : Nat → Nat → Int32} {o : Int64} {ls : sm_L} {r : List sm_V} : sm_R T_L_removeSlope (b, 9, (V, o), ls, r) = sm_R T_L_removeSlope (b, 18, (V, o), ls, r) := R_goto (tgt := 18) rfl (by decide)
theorem s_L_removeSlope_13 {b : Nat} {V : Nat → Nat → Int32} {o : Int64} {ls : sm_L} {r : List sm_V} : sm_R T_L_removeSlope (b, 13, (V, o), ls, r) = sm_R T_L_removeSlope (b, 14, (V, o), ls, .inl 1 :: r) := R_iconst rfl (by decide)
theorem s_L_removeSlope_14 {b : Nat} {V : Nat → Nat → Int32} {o : Int64} {ls : sm_L} {x : Int32} : sm_R T_L_removeSlope (b, 14, (V, o), ls, [.inl x]) = some ((V, o), .ok (some (.inl x))) := R_ireturn rfl (Or.inr rfl)
theorem s_L_removeSlope_16 {b : Nat} {V : Nat → Nat → Int32} {o : Int64} {ls : sm_L} {r : List sm_V} : sm_R T_L_removeSlope (b, 16, (V, o), ls, r) = sm_R T_L_removeSlope (b, 17, (V, o), ls, .inl 2 :: r) := R_iconst rfl (by decide)
theorem s_L_removeSlope_17 {b : Nat} {V : Nat → Nat → Int32} {o : Int64} {ls : sm_L} {x : Int32} : sm_R T_L_removeSlope (b, 17, (V, o), ls, [.inl x]) = some ((V, o), .ok (some (.inl x))) := R_ireturn rfl (Or.inr rfl)
theorem s_L_removeSlope_18 {b : Nat} {V : Nat → Nat → Int32} {o : Int64} {ls : sm_L} {r : List sm_V} : sm_R T_L_removeSlope (b, 18, (V, o), ls, r) = sm_R T_L_removeSlope (b, 19, (V, o), ls, .inl 0 :: r) := R_iconst rfl (by decide)
theorem s_L_removeSlope_19 {b : Nat} {V : Nat → Nat → Int32} {o : Int64} {ls : sm_L} {x : Int32} : sm_R T_L_removeSlope (b, 19, (V, o), ls, [.inl x]) = some ((V, o), .ok (some (.inl x))) := R_ireturn rfl (Or.inr rfl)
theorem s_L_addGun_0 {b : Nat} {V : Nat → Nat → Int32} {o : Int64} {l0 l1 l2 : Option sm_V} {tl : sm_L} {x : sm_N} {r : List sm_V} : sm_R T_L_addGun (b, 0, (V, o), l0 :: l1 :: l2 :: some (.inr (.inr x)) :: tl, r) = sm_R T_L_addGun (b, 1, (V, o), l0 :: l1 :: l2 :: some (.inr (.inr x)) :: tl, .inr (.inr x) :: r) := R_aload_n rfl rfl
theorem s_L_addGun_1 {b : Nat} {V : Nat → Nat → Int32} {o : Int64} {ls : sm_L} {r : List sm_V} : sm_R T_L_addGun (b, 1, (V, o), ls, r) = sm_R T_L_addGun (b, 2, (V, o), ls, .inl 0 :: r) := R_iconst rfl (by decide)
theorem s_L_addGun_2 {b : Nat} {V : Nat → Nat → Int32} {o : Int64} {tl : sm_L} {x : sm_N} {r : List sm_V} : sm_R T_L_addGun (b, 2, (V, o), some (.inr (.inr x)) :: tl, r) = sm_R T_L_addGun (b, 3, (V, o), some (.inr (.inr x)) :: tl, .inr (.inr x) :: r) := R_aload_n rfl rfl
theorem s_L_addGun_3 {b : Nat} {V : Nat → Nat → Int32} {o : Int64} {l0 : Option sm_V} {tl : sm_L} {x : Int32} {r : List sm_V} : sm_R T_L_addGun (b, 3, (V, o), l0 :: some (.inl x) :: tl, r) = sm_R T_L_addGun (b, 4, (V, o), l0 :: some (.inl x) :: tl, .inl x :: r) := R_iload_n rfl rfl
theorem s_L_addGun_4 {b : Nat} {V : Nat → Nat → Int32} {o : Int64} {l0 l1 : Option sm_V} {tl : sm_L} {x : Int32} {r : List sm_V} : sm_R T_L_addGun (b, 4, (V, o), l0 :: l1 :: some (.inl x) :: tl, r) = sm_R T_L_addGun (b, 5, (V, o), l0 :: l1 :: some (.inl x) :: tl, .inl x :: r) := R_iload_n rfl rfl
theorem s_L_addGun_5 {b : Nat} {V : Nat → Nat → Int32} {o : Int64} {ls : sm_L} {r : List sm_V} {k0 i0 : Nat} {a1 : Int32} {a2 : Int32} (h : r.length ≤ 4) (hb : 3 ≤ b) : sm_R T_L_addGun (b, 5, (V, o), ls, .inl a2 :: .inl a1 :: .inr (.inr (9, k0, i0)) :: r) = sm_k2 (F_X9_addGun (V, o) [.inr (.inr (9, k0, i0)), .inl a1, .inl a2]) (fun M1 v => sm_R T_L_addGun ((b - 3), 8, M1, ls, v.toList ++ r)) (fun M1 e => if e = 3 then (sm_g (sm_lk ls 4 = true) (sm_R T_L_addGun ((b - 3), 15, M1, ls.set 4 none, []))) else if e = 1 then (sm_g (sm_lk ls 4 = true) (sm_R T_L_addGun ((b - 3), 19, M1, ls.set 4 none, []))) else if e = 2 then (sm_g (sm_lk ls 4 = true) (sm_R T_L_addGun ((b - 3), 23, M1, ls.set 4 none, []))) else none) := by
  have h9 := R_callH (T := T_L_addGun) (b := b) (pc := 5) (V := V) (o := o) (ls := ls) (r := r) (x := 64) (as := [.inr (.inr (9, k0, i0)), .inl a1, .inl a2]) rfl rfl rfl h hb ⟨rfl, rfl⟩ (by decide)
  refine h9.trans (congrArg (sm_k2 _ _) ?_)
  funext M1 e
  by_cases h3 : e = 3
  · subst h3; rfl
  rw [if_neg h3]
  by_cases h1 : e = 1
  · subst h1; rfl
  rw [if_neg h1]
  by_cases h2 : e = 2
  · subst h2; rfl
  rw [if_neg h2]
  have hn9 : sm_hnd T_L_addGun 5 e = none := by
    cases hq : sm_hnd T_L_addGun 5 e with
    | none => rfl
    | some q =>
      have h8 : ((5, e), q) ∈ ([((5, 3), (15, 4)), ((5, 1), (19, 4)), ((5, 2), (23, 4))] : List ((Nat × Nat) × (Nat × Nat))) := sm_look2 hq
      simp [h3, h1, h2] at h8
  rw [hn9]
theorem s_L_addGun_8 {b : Nat} {V : Nat → Nat → Int32} {o : Int64} {ls : sm_L} {r : List sm_V} {x : Int32} : sm_R T_L_addGun (b, 8, (V, o), ls, .inl x :: r) = sm_R T_L_addGun (b, 9, (V, o), ls, .inr (.inl x.toInt64) :: r) := R_i2l rfl
theorem s_L_addGun_9 {b : Nat} {V : Nat → Nat → Int32} {o : Int64} {ls : sm_L} {r : List sm_V} {x : Int64} : sm_R T_L_addGun (b, 9, (V, o), ls, .inr (.inl x) :: .inl 0 :: .inr (.inr (60, 0, 0)) :: r) = sm_R T_L_addGun (b, 10, (V, x), ls, r) := R_lastore rfl
theorem s_L_addGun_10 {b : Nat} {V : Nat → Nat → Int32} {o : Int64} {ls : sm_L} {r : List sm_V} : sm_R T_L_addGun (b, 10, (V, o), ls, r) = sm_R T_L_addGun (b, 25, (V, o), ls, r) := R_goto (tgt := 25) rfl (by decide)
theorem s_L_addGun_15 {b : Nat} {V : Nat → Nat → Int32} {o : Int64} {ls : sm_L} {r : List sm_V} : sm_R T_L_addGun (b, 15, (V, o), ls, r) = sm_R T_L_addGun (b, 16, (V, o), ls, .inl 1 :: r) := R_iconst rfl (by decide)
theorem s_L_addGun_16 {b : Nat} {V : Nat → Nat → Int32} {o : Int64} {ls : sm_L} {x : Int32} : sm_R T_L_addGun (b, 16, (V, o), ls, [.inl x]) = some ((V, o), .ok (some (.inl x))) := R_ireturn rfl (Or.inr rfl)
theorem s_L_addGun_19 {b : Nat} {V : Nat → Nat → Int32} {o : Int64} {ls : sm_L} {r : List sm_V} : sm_R T_L_addGun (b, 19, (V, o), ls, r) = sm_R T_L_addGun (b, 20, (V, o), ls, .inl 2 :: r) := R_iconst rfl (by decide)
theorem s_L_addGun_20 {b : Nat} {V : Nat → Nat → Int32} {o : Int64} {ls : sm_L} {x : Int32} : sm_R T_L_addGun (b, 20, (V, o), ls, [.inl x]) = some ((V, o), .ok (some (.inl x))) := R_ireturn rfl (Or.inr rfl)
theorem s_L_addGun_23 {b : Nat} {V : Nat → Nat → Int32} {o : Int64} {ls : sm_L} {r : List sm_V} : sm_R T_L_addGun (b, 23, (V, o), ls, r) = sm_R T_L_addGun (b, 24, (V, o), ls, .inl 3 :: r) := R_iconst rfl (by decide)
theorem s_L_addGun_24 {b : Nat} {V : Nat → Nat → Int32} {o : Int64} {ls : sm_L} {x : Int32} : sm_R T_L_addGun (b, 24, (V, o), ls, [.inl x]) = some ((V, o), .ok (some (.inl x))) := R_ireturn rfl (Or.inr rfl)
theorem s_L_addGun_25 {b : Nat} {V : Nat → Nat → Int32} {o : Int64} {ls : sm_L} {r : List sm_V} : sm_R T_L_addGun (b, 25, (V, o), ls, r) = sm_R T_L_addGun (b, 26, (V, o), ls, .inl 0 :: r) := R_iconst rfl (by decide)
theorem s_L_addGun_26 {b : Nat} {V : Nat → Nat → Int32} {o : Int64} {ls : sm_L} {x : Int32} : sm_R T_L_addGun (b, 26, (V, o), ls, [.inl x]) = some ((V, o), .ok (some (.inl x))) := R_ireturn rfl (Or.inr rfl)
theorem s_L_bring_0 {b : Nat} {V : Nat → Nat → Int32} {o : Int64} {l0 l1 l2 : Option sm_V} {tl : sm_L} {x : sm_N} {r : List sm_V} : sm_R T_L_bring (b, 0, (V, o), l0 :: l1 :: l2 :: some (.inr (.inr x)) :: tl, r) = sm_R T_L_bring (b, 1, (V, o), l0 :: l1 :: l2 :: some (.inr (.inr x)) :: tl, .inr (.inr x) :: r) := R_aload_n rfl rfl
theorem s_L_bring_1 {b : Nat} {V : Nat → Nat → Int32} {o : Int64} {ls : sm_L} {r : List sm_V} : sm_R T_L_bring (b, 1, (V, o), ls, r) = sm_R T_L_bring (b, 2, (V, o), ls, .inl 0 :: r) := R_iconst rfl (by decide)
theorem s_L_bring_2 {b : Nat} {V : Nat → Nat → Int32} {o : Int64} {tl : sm_L} {x : sm_N} {r : List sm_V} : sm_R T_L_bring (b, 2, (V, o), some (.inr (.inr x)) :: tl, r) = sm_R T_L_bring (b, 3, (V, o), some (.inr (.inr x)) :: tl, .inr (.inr x) :: r) := R_aload_n rfl rfl
theorem s_L_bring_3 {b : Nat} {V : Nat → Nat → Int32} {o : Int64} {l0 : Option sm_V} {tl : sm_L} {x : Int32} {r : List sm_V} : sm_R T_L_bring (b, 3, (V, o), l0 :: some (.inl x) :: tl, r) = sm_R T_L_bring (b, 4, (V, o), l0 :: some (.inl x) :: tl, .inl x :: r) := R_iload_n rfl rfl
theorem s_L_bring_4 {b : Nat} {V : Nat → Nat → Int32} {o : Int64} {l0 l1 : Option sm_V} {tl : sm_L} {x : Int32} {r : List sm_V} : sm_R T_L_bring (b, 4, (V, o), l0 :: l1 :: some (.inl x) :: tl, r) = sm_R T_L_bring (b, 5, (V, o), l0 :: l1 :: some (.inl x) :: tl, .inl x :: r) := R_iload_n rfl rfl
theorem s_L_bring_5 {b : Nat} {V : Nat → Nat → Int32} {o : Int64} {ls : sm_L} {r : List sm_V} {k0 i0 : Nat} {a1 : Int32} {a2 : Int32} (h : r.length ≤ 4) (hb : 2 ≤ b) : sm_R T_L_bring (b, 5, (V, o), ls, .inl a2 :: .inl a1 :: .inr (.inr (9, k0, i0)) :: r) = sm_k2 (F_X9_bring (V, o) [.inr (.inr (9, k0, i0)), .inl a1, .inl a2]) (fun M1 v => sm_R T_L_bring ((b - 2), 8, M1, ls, v.toList ++ r)) (fun M1 e => if e = 3 then (sm_g (sm_lk ls 4 = true) (sm_R T_L_bring ((b - 2), 15, M1, ls.set 4 none, []))) else none) := by
  have h9 := R_callH (T := T_L_bring) (b := b) (pc := 5) (V := V) (o := o) (ls := ls) (r := r) (x := 67) (as := [.inr (.inr (9, k0, i0)), .inl a1, .inl a2]) rfl rfl rfl h hb ⟨rfl, rfl⟩ (by decide)
  refine h9.trans (congrArg (sm_k2 _ _) ?_)
  funext M1 e
  by_cases h3 : e = 3
  · subst h3; rfl
  rw [if_neg h3]
  have hn9 : sm_hnd T_L_bring 5 e = none := by
    cases hq : sm_hnd T_L_bring 5 e with
    | none => rfl
    | some q =>
      have h8 : ((5, e), q) ∈ ([((5, 3), (15, 4))] : List ((Nat × Nat) × (Nat × Nat))) := sm_look2 hq
      simp [h3] at h8
  rw [hn9]
theorem s_L_bring_8 {b : Nat} {V : Nat → Nat → Int32} {o : Int64} {ls : sm_L} {r : List sm_V} {x : Int32} : sm_R T_L_bring (b, 8, (V, o), ls, .inl x :: r) = sm_R T_L_bring (b, 9, (V, o), ls, .inr (.inl x.toInt64) :: r) := R_i2l rfl
theorem s_L_bring_9 {b : Nat} {V : Nat → Nat → Int32} {o : Int64} {ls : sm_L} {r : List sm_V} {x : Int64} : sm_R T_L_bring (b, 9, (V, o), ls, .inr (.inl x) :: .inl 0 :: .inr (.inr (60, 0, 0)) :: r) = sm_R T_L_bring (b, 10, (V, x), ls, r) := R_lastore rfl
theorem s_L_bring_10 {b : Nat} {V : Nat → Nat → Int32} {o : Int64} {ls : sm_L} {r : List sm_V} : sm_R T_L_bring (b, 10, (V, o), ls, r) = sm_R T_L_bring (b, 17, (V, o), ls, r) := R_goto (tgt := 17) rfl (by decide)
theorem s_L_bring_15 {b : Nat} {V : Nat → Nat → Int32} {o : Int64} {ls : sm_L} {r : List sm_V} : sm_R T_L_bring (b, 15, (V, o), ls, r) = sm_R T_L_bring (b, 16, (V, o), ls, .inl 1 :: r) := R_iconst rfl (by decide)
theorem s_L_bring_16 {b : Nat} {V : Nat → Nat → Int32} {o : Int64} {ls : sm_L} {x : Int32} : sm_R T_L_bring (b, 16, (V, o), ls, [.inl x]) = some ((V, o), .ok (some (.inl x))) := R_ireturn rfl (Or.inr rfl)
theorem s_L_bring_17 {b : Nat} {V : Nat → Nat → Int32} {o : Int64} {ls : sm_L} {r : List sm_V} : sm_R T_L_bring (b, 17, (V, o), ls, r) = sm_R T_L_bring (b, 18, (V, o), ls, .inl 0 :: r) := R_iconst rfl (by decide)
theorem s_L_bring_18 {b : Nat} {V : Nat → Nat → Int32} {o : Int64} {ls : sm_L} {x : Int32} : sm_R T_L_bring (b, 18, (V, o), ls, [.inl x]) = some ((V, o), .ok (some (.inl x))) := R_ireturn rfl (Or.inr rfl)
theorem s_L_allow_0 {b : Nat} {V : Nat → Nat → Int32} {o : Int64} {l0 l1 l2 : Option sm_V} {tl : sm_L} {x : sm_N} {r : List sm_V} : sm_R T_L_allow (b, 0, (V, o), l0 :: l1 :: l2 :: some (.inr (.inr x)) :: tl, r) = sm_R T_L_allow (b, 1, (V, o), l0 :: l1 :: l2 :: some (.inr (.inr x)) :: tl, .inr (.inr x) :: r) := R_aload_n rfl rfl
theorem s_L_allow_1 {b : Nat} {V : Nat → Nat → Int32} {o : Int64} {ls : sm_L} {r : List sm_V} : sm_R T_L_allow (b, 1, (V, o), ls, r) = sm_R T_L_allow (b, 2, (V, o), ls, .inl 0 :: r) := R_iconst rfl (by decide)
theorem s_L_allow_2 {b : Nat} {V : Nat → Nat → Int32} {o : Int64} {tl : sm_L} {x : sm_N} {r : List sm_V} : sm_R T_L_allow (b, 2, (V, o), some (.inr (.inr x)) :: tl, r) = sm_R T_L_allow (b, 3, (V, o), some (.inr (.inr x)) :: tl, .inr (.inr x) :: r) := R_aload_n rfl rfl
theorem s_L_allow_3 {b : Nat} {V : Nat → Nat → Int32} {o : Int64} {l0 : Option sm_V} {tl : sm_L} {x : Int32} {r : List sm_V} : sm_R T_L_allow (b, 3, (V, o), l0 :: some (.inl x) :: tl, r) = sm_R T_L_allow (b, 4, (V, o), l0 :: some (.inl x) :: tl, .inl x :: r) := R_iload_n rfl rfl
theorem s_L_allow_4 {b : Nat} {V : Nat → Nat → Int32} {o : Int64} {l0 l1 : Option sm_V} {tl : sm_L} {x : Int32} {r : List sm_V} : sm_R T_L_allow (b, 4, (V, o), l0 :: l1 :: some (.inl x) :: tl, r) = sm_R T_L_allow (b, 5, (V, o), l0 :: l1 :: some (.inl x) :: tl, .inl x :: r) := R_iload_n rfl rfl
theorem s_L_allow_5 {b : Nat} {V : Nat → Nat → Int32} {o : Int64} {ls : sm_L} {r : List sm_V} {k0 i0 : Nat} {a1 : Int32} {a2 : Int32} (h : r.length ≤ 4) (hb : 1 ≤ b) : sm_R T_L_allow (b, 5, (V, o), ls, .inl a2 :: .inl a1 :: .inr (.inr (9, k0, i0)) :: r) = sm_k2 (F_X9_allow (V, o) [.inr (.inr (9, k0, i0)), .inl a1, .inl a2]) (fun M1 v => sm_R T_L_allow ((b - 1), 8, M1, ls, v.toList ++ r)) (fun M1 e => if e = 3 then (sm_g (sm_lk ls 4 = true) (sm_R T_L_allow ((b - 1), 15, M1, ls.set 4 none, []))) else none) := by
  have h9 := R_callH (T := T_L_allow) (b := b) (pc := 5) (V := V) (o := o) (ls := ls) (r := r) (x := 70) (as := [.inr (.inr (9, k0, i0)), .inl a1, .inl a2]) rfl rfl rfl h hb ⟨rfl, rfl⟩ (by decide)
  refine h9.trans (congrArg (sm_k2 _ _) ?_)
  funext M1 e
  by_cases h3 : e = 3
  · subst h3; rfl
  rw [if_neg h3]
  have hn9 : sm_hnd T_L_allow 5 e = none := by
    cases hq : sm_hnd T_L_allow 5 e with
    | none => rfl
    | some q =>
      have h8 : ((5, e), q) ∈ ([((5, 3), (15, 4))] : List ((Nat × Nat) × (Nat × Nat))) := sm_look2 hq
      simp [h3] at h8
  rw [hn9]
theorem s_L_allow_8 {b : Nat} {V : Nat → Nat → Int32} {o : Int64} {ls : sm_L} {r : List sm_V} {x : Int32} : sm_R T_L_allow (b, 8, (V, o), ls, .inl x :: r) = sm_R T_L_allow (b, 9, (V, o), ls, .inr (.inl x.toInt64) :: r) := R_i2l rfl
theorem s_L_allow_9 {b : Nat} {V : Nat → Nat → Int32} {o : Int64} {ls : sm_L} {r : List sm_V} {x : Int64} : sm_R T_L_allow (b, 9, (V, o), ls, .inr (.inl x) :: .inl 0 :: .inr (.inr (60, 0, 0)) :: r) = sm_R T_L_allow (b, 10, (V, x), ls, r) := R_lastore rfl
theorem s_L_allow_10 {b : Nat} {V : Nat → Nat → Int32} {o : Int64} {ls : sm_L} {r : List sm_V} : sm_R T_L_allow (b, 10, (V, o), ls, r) = sm_R T_L_allow (b, 17, (V, o), ls, r) := R_goto (tgt := 17) rfl (by decide)
theorem s_L_allow_15 {b : Nat} {V : Nat → Nat → Int32} {o : Int64} {ls : sm_L} {r : List sm_V} : sm_R T_L_allow (b, 15, (V, o), ls, r) = sm_R T_L_allow (b, 16, (V, o), ls, .inl 1 :: r) := R_iconst rfl (by decide)
theorem s_L_allow_16 {b : Nat} {V : Nat → Nat → Int32} {o : Int64} {ls : sm_L} {x : Int32} : sm_R T_L_allow (b, 16, (V, o), ls, [.inl x]) = some ((V, o), .ok (some (.inl x))) := R_ireturn rfl (Or.inr rfl)
theorem s_L_allow_17 {b : Nat} {V : Nat → Nat → Int32} {o : Int64} {ls : sm_L} {r : List sm_V} : sm_R T_L_allow (b, 17, (V, o), ls, r) = sm_R T_L_allow (b, 18, (V, o), ls, .inl 0 :: r) := R_iconst rfl (by decide)
theorem s_L_allow_18 {b : Nat} {V : Nat → Nat → Int32} {o : Int64} {ls : sm_L} {x : Int32} : sm_R T_L_allow (b, 18, (V, o), ls, [.inl x]) = some ((V, o), .ok (some (.inl x))) := R_ireturn rfl (Or.inr rfl)
theorem s_L_undo_0 {b : Nat} {V : Nat → Nat → Int32} {o : Int64} {l0 : Option sm_V} {tl : sm_L} {x : sm_N} {r : List sm_V} : sm_R T_L_undo (b, 0, (V, o), l0 :: some (.inr (.inr x)) :: tl, r) = sm_R T_L_undo (b, 1, (V, o), l0 :: some (.inr (.inr x)) :: tl, .inr (.inr x) :: r) := R_aload_n rfl rfl
theorem s_L_undo_1 {b : Nat} {V : Nat → Nat → Int32} {o : Int64} {ls : sm_L} {r : List sm_V} : sm_R T_L_undo (b, 1, (V, o), ls, r) = sm_R T_L_undo (b, 2, (V, o), ls, .inl 0 :: r) := R_iconst rfl (by decide)
theorem s_L_undo_2 {b : Nat} {V : Nat → Nat → Int32} {o : Int64} {tl : sm_L} {x : sm_N} {r : List sm_V} : sm_R T_L_undo (b, 2, (V, o), some (.inr (.inr x)) :: tl, r) = sm_R T_L_undo (b, 3, (V, o), some (.inr (.inr x)) :: tl, .inr (.inr x) :: r) := R_aload_n rfl rfl
theorem s_L_undo_3 {b : Nat} {V : Nat → Nat → Int32} {o : Int64} {ls : sm_L} {r : List sm_V} {k0 i0 : Nat} (h : r.length ≤ 4) (hb : 1 ≤ b) : sm_R T_L_undo (b, 3, (V, o), ls, .inr (.inr (9, k0, i0)) :: r) = sm_k2 (F_X9_undo (V, o) [.inr (.inr (9, k0, i0))]) (fun M1 v => sm_R T_L_undo ((b - 1), 6, M1, ls, v.toList ++ r)) (fun M1 e => if e = 2 then (sm_g (sm_lk ls 2 = true) (sm_R T_L_undo ((b - 1), 12, M1, ls.set 2 none, []))) else none) := by
  have h9 := R_callH (T := T_L_undo) (b := b) (pc := 3) (V := V) (o := o) (ls := ls) (r := r) (x := 74) (as := [.inr (.inr (9, k0, i0))]) rfl rfl rfl h hb ⟨rfl, rfl⟩ (by decide)
  refine h9.trans (congrArg (sm_k2 _ _) ?_)
  funext M1 e
  by_cases h2 : e = 2
  · subst h2; rfl
  rw [if_neg h2]
  have hn9 : sm_hnd T_L_undo 3 e = none := by
    cases hq : sm_hnd T_L_undo 3 e with
    | none => rfl
    | some q =>
      have h8 : ((3, e), q) ∈ ([((3, 2), (12, 2))] : List ((Nat × Nat) × (Nat × Nat))) := sm_look2 hq
      simp [h2] at h8
  rw [hn9]
theorem s_L_undo_6 {b : Nat} {V : Nat → Nat → Int32} {o : Int64} {ls : sm_L} {r : List sm_V} {x : Int32} : sm_R T_L_undo (b, 6, (V, o), ls, .inl x :: r) = sm_R T_L_undo (b, 7, (V, o), ls, .inr (.inl x.toInt64) :: r) := R_i2l rfl
theorem s_L_undo_7 {b : Nat} {V : Nat → Nat → Int32} {o : Int64} {ls : sm_L} {r : List sm_V} {x : Int64} : sm_R T_L_undo (b, 7, (V, o), ls, .inr (.inl x) :: .inl 0 :: .inr (.inr (60, 0, 0)) :: r) = sm_R T_L_undo (b, 8, (V, x), ls, r) := R_lastore rfl
theorem s_L_undo_8 {b : Nat} {V : Nat → Nat → Int32} {o : Int64} {ls : sm_L} {r : List sm_V} : sm_R T_L_undo (b, 8, (V, o), ls, r) = sm_R T_L_undo (b, 14, (V, o), ls, r) := R_goto (tgt := 14) rfl (by decide)
theorem s_L_undo_12 {b : Nat} {V : Nat → Nat → Int32} {o : Int64} {ls : sm_L} {r : List sm_V} : sm_R T_L_undo (b, 12, (V, o), ls, r) = sm_R T_L_undo (b, 13, (V, o), ls, .inl 1 :: r) := R_iconst rfl (by decide)
theorem s_L_undo_13 {b : Nat} {V : Nat → Nat → Int32} {o : Int64} {ls : sm_L} {x : Int32} : sm_R T_L_undo (b, 13, (V, o), ls, [.inl x]) = some ((V, o), .ok (some (.inl x))) := R_ireturn rfl (Or.inr rfl)
theorem s_L_undo_14 {b : Nat} {V : Nat → Nat → Int32} {o : Int64} {ls : sm_L} {r : List sm_V} : sm_R T_L_undo (b, 14, (V, o), ls, r) = sm_R T_L_undo (b, 15, (V, o), ls, .inl 0 :: r) := R_iconst rfl (by decide)
theorem s_L_undo_15 {b : Nat} {V : Nat → Nat → Int32} {o : Int64} {ls : sm_L} {x : Int32} : sm_R T_L_undo (b, 15, (V, o), ls, [.inl x]) = some ((V, o), .ok (some (.inl x))) := R_ireturn rfl (Or.inr rfl)
theorem s_L_whyNot_0 {b : Nat} {V : Nat → Nat → Int32} {o : Int64} {l0 l1 : Option sm_V} {tl : sm_L} {x : sm_N} {r : List sm_V} : sm_R T_L_whyNot (b, 0, (V, o), l0 :: l1 :: some (.inr (.inr x)) :: tl, r) = sm_R T_L_whyNot (b, 1, (V, o), l0 :: l1 :: some (.inr (.inr x)) :: tl, .inr (.inr x) :: r) := R_aload_n rfl rfl
theorem s_L_whyNot_1 {b : Nat} {V : Nat → Nat → Int32} {o : Int64} {ls : sm_L} {r : List sm_V} : sm_R T_L_whyNot (b, 1, (V, o), ls, r) = sm_R T_L_whyNot (b, 2, (V, o), ls, .inl 0 :: r) := R_iconst rfl (by decide)
theorem s_L_whyNot_2 {b : Nat} {V : Nat → Nat → Int32} {o : Int64} {tl : sm_L} {x : sm_N} {r : List sm_V} : sm_R T_L_whyNot (b, 2, (V, o), some (.inr (.inr x)) :: tl, r) = sm_R T_L_whyNot (b, 3, (V, o), some (.inr (.inr x)) :: tl, .inr (.inr x) :: r) := R_aload_n rfl rfl
theorem s_L_whyNot_3 {b : Nat} {V : Nat → Nat → Int32} {o : Int64} {l0 : Option sm_V} {tl : sm_L} {x : Int32} {r : List sm_V} : sm_R T_L_whyNot (b, 3, (V, o), l0 :: some (.inl x) :: tl, r) = sm_R T_L_whyNot (b, 4, (V, o), l0 :: some (.inl x) :: tl, .inl x :: r) := R_iload_n rfl rfl
theorem s_L_whyNot_4 {b : Nat} {V : Nat → Nat → Int32} {o : Int64} {ls : sm_L} {r : List sm_V} {k0 i0 : Nat} {a1 : Int32} (h : r.length ≤ 4) (hb : 1 ≤ b) : sm_R T_L_whyNot (b, 4, (V, o), ls, .inl a1 :: .inr (.inr (9, k0, i0)) :: r) = sm_k2 (F_X9_whyNot (V, o) [.inr (.inr (9, k0, i0)), .inl a1]) (fun M1 v => sm_R T_L_whyNot ((b - 1), 7, M1, ls, v.toList ++ r)) (fun M1 e => if e = 3 then (sm_g (sm_lk ls 3 = true) (sm_R T_L_whyNot ((b - 1), 13, M1, ls.set 3 none, []))) else none) := by
  have h9 := R_callH (T := T_L_whyNot) (b := b) (pc := 4) (V := V) (o := o) (ls := ls) (r := r) (x := 77) (as := [.inr (.inr (9, k0, i0)), .inl a1]) rfl rfl rfl h hb ⟨rfl, rfl⟩ (by decide)
  refine h9.trans (congrArg (sm_k2 _ _) ?_)
  funext M1 e
  by_cases h3 : e = 3
  · subst h3; rfl
  rw [if_neg h3]
  have hn9 : sm_hnd T_L_whyNot 4 e = none := by
    cases hq : sm_hnd T_L_whyNot 4 e with
    | none => rfl
    | some q =>
      have h8 : ((4, e), q) ∈ ([((4, 3), (13, 3))] : List ((Nat × Nat) × (Nat × Nat))) := sm_look2 hq
      simp [h3] at h8
  rw [hn9]
theorem s_L_whyNot_7 {b : Nat} {V : Nat → Nat → Int32} {o : Int64} {ls : sm_L} {r : List sm_V} {x : Int32} : sm_R T_L_whyNot (b, 7, (V, o), ls, .inl x :: r) = sm_R T_L_whyNot (b, 8, (V, o), ls, .inr (.inl x.toInt64) :: r) := R_i2l rfl
theorem s_L_whyNot_8 {b : Nat} {V : Nat → Nat → Int32} {o : Int64} {ls : sm_L} {r : List sm_V} {x : Int64} : sm_R T_L_whyNot (b, 8, (V, o), ls, .inr (.inl x) :: .inl 0 :: .inr (.inr (60, 0, 0)) :: r) = sm_R T_L_whyNot (b, 9, (V, x), ls, r) := R_lastore rfl
theorem s_L_whyNot_9 {b : Nat} {V : Nat → Nat → Int32} {o : Int64} {ls : sm_L} {r : List sm_V} : sm_R T_L_whyNot (b, 9, (V, o), ls, r) = sm_R T_L_whyNot (b, 15, (V, o), ls, r) := R_goto (tgt := 15) rfl (by decide)
theorem s_L_whyNot_13 {b : Nat} {V : Nat → Nat → Int32} {o : Int64} {ls : sm_L} {r : List sm_V} : sm_R T_L_whyNot (b, 13, (V, o), ls, r) = sm_R T_L_whyNot (b, 14, (V, o), ls, .inl 1 :: r) := R_iconst rfl (by decide)
theorem s_L_whyNot_14 {b : Nat} {V : Nat → Nat → Int32} {o : Int64} {ls : sm_L} {x : Int32} : sm_R T_L_whyNot (b, 14, (V, o), ls, [.inl x]) = some ((V, o), .ok (some (.inl x))) := R_ireturn rfl (Or.inr rfl)
theorem s_L_whyNot_15 {b : Nat} {V : Nat → Nat → Int32} {o : Int64} {ls : sm_L} {r : List sm_V} : sm_R T_L_whyNot (b, 15, (V, o), ls, r) = sm_R T_L_whyNot (b, 16, (V, o), ls, .inl 0 :: r) := R_iconst rfl (by decide)
theorem s_L_whyNot_16 {b : Nat} {V : Nat → Nat → Int32} {o : Int64} {ls : sm_L} {x : Int32} : sm_R T_L_whyNot (b, 16, (V, o), ls, [.inl x]) = some ((V, o), .ok (some (.inl x))) := R_ireturn rfl (Or.inr rfl)
theorem s_L_order_0 {b : Nat} {V : Nat → Nat → Int32} {o : Int64} {l0 l1 : Option sm_V} {tl : sm_L} {x : sm_N} {r : List sm_V} : sm_R T_L_order (b, 0, (V, o), l0 :: l1 :: some (.inr (.inr x)) :: tl, r) = sm_R T_L_order (b, 1, (V, o), l0 :: l1 :: some (.inr (.inr x)) :: tl, .inr (.inr x) :: r) := R_aload_n rfl rfl
theorem s_L_order_1 {b : Nat} {V : Nat → Nat → Int32} {o : Int64} {ls : sm_L} {r : List sm_V} : sm_R T_L_order (b, 1, (V, o), ls, r) = sm_R T_L_order (b, 2, (V, o), ls, .inl 0 :: r) := R_iconst rfl (by decide)
theorem s_L_order_2 {b : Nat} {V : Nat → Nat → Int32} {o : Int64} {tl : sm_L} {x : sm_N} {r : List sm_V} : sm_R T_L_order (b, 2, (V, o), some (.inr (.inr x)) :: tl, r) = sm_R T_L_order (b, 3, (V, o), some (.inr (.inr x)) :: tl, .inr (.inr x) :: r) := R_aload_n rfl rfl
theorem s_L_order_3 {b : Nat} {V : Nat → Nat → Int32} {o : Int64} {l0 : Option sm_V} {tl : sm_L} {x : Int32} {r : List sm_V} : sm_R T_L_order (b, 3, (V, o), l0 :: some (.inl x) :: tl, r) = sm_R T_L_order (b, 4, (V, o), l0 :: some (.inl x) :: tl, .inl x :: r) := R_iload_n rfl rfl
theorem s_L_order_4 {b : Nat} {V : Nat → Nat → Int32} {o : Int64} {ls : sm_L} {r : List sm_V} {k0 i0 : Nat} {a1 : Int32} (h : r.length ≤ 4) (hb : 1 ≤ b) : sm_R T_L_order (b, 4, (V, o), ls, .inl a1 :: .inr (.inr (9, k0, i0)) :: r) = sm_k2 (F_X9_order (V, o) [.inr (.inr (9, k0, i0)), .inl a1]) (fun M1 v => sm_R T_L_order ((b - 1), 7, M1, ls, v.toList ++ r)) (fun M1 e => if e = 1 then (sm_g (sm_lk ls 3 = true) (sm_R T_L_order ((b - 1), 13, M1, ls.set 3 none, []))) else none) := by
  have h9 := R_callH (T := T_L_order) (b := b) (pc := 4) (V := V) (o := o) (ls := ls) (r := r) (x := 80) (as := [.inr (.inr (9, k0, i0)), .inl a1]) rfl rfl rfl h hb ⟨rfl, rfl⟩ (by decide)
  refine h9.trans (congrArg (sm_k2 _ _) ?_)
  funext M1 e
  by_cases h1 : e = 1
  · subst h1; rfl
  rw [if_neg h1]
  have hn9 : sm_hnd T_L_order 4 e = none := by
    cases hq : sm_hnd T_L_order 4 e with
    | none => rfl
    | some q =>
      have h8 : ((4, e), q) ∈ ([((4, 1), (13, 3))] : List ((Nat × Nat) × (Nat × Nat))) := sm_look2 hq
      simp [h1] at h8
  rw [hn9]
theorem s_L_order_7 {b : Nat} {V : Nat → Nat → Int32} {o : Int64} {ls : sm_L} {r : List sm_V} {x : Int32} : sm_R T_L_order (b, 7, (V, o), ls, .inl x :: r) = sm_R T_L_order (b, 8, (V, o), ls, .inr (.inl x.toInt64) :: r) := R_i2l rfl
theorem s_L_order_8 {b : Nat} {V : Nat → Nat → Int32} {o : Int64} {ls : sm_L} {r : List sm_V} {x : Int64} : sm_R T_L_order (b, 8, (V, o), ls, .inr (.inl x) :: .inl 0 :: .inr (.inr (60, 0, 0)) :: r) = sm_R T_L_order (b, 9, (V, x), ls, r) := R_lastore rfl
theorem s_L_order_9 {b : Nat} {V : Nat → Nat → Int32} {o : Int64} {ls : sm_L} {r : List sm_V} : sm_R T_L_order (b, 9, (V, o), ls, r) = sm_R T_L_order (b, 15, (V, o), ls, r) := R_goto (tgt := 15) rfl (by decide)
theorem s_L_order_13 {b : Nat} {V : Nat → Nat → Int32} {o : Int64} {ls : sm_L} {r : List sm_V} : sm_R T_L_order (b, 13, (V, o), ls, r) = sm_R T_L_order (b, 14, (V, o), ls, .inl 1 :: r) := R_iconst rfl (by decide)
theorem s_L_order_14 {b : Nat} {V : Nat → Nat → Int32} {o : Int64} {ls : sm_L} {x : Int32} : sm_R T_L_order (b, 14, (V, o), ls, [.inl x]) = some ((V, o), .ok (some (.inl x))) := R_ireturn rfl (Or.inr rfl)
theorem s_L_order_15 {b : Nat} {V : Nat → Nat → Int32} {o : Int64} {ls : sm_L} {r : List sm_V} : sm_R T_L_order (b, 15, (V, o), ls, r) = sm_R T_L_order (b, 16, (V, o), ls, .inl 0 :: r) := R_iconst rfl (by decide)
theorem s_L_order_16 {b : Nat} {V : Nat → Nat → Int32} {o : Int64} {ls : sm_L} {x : Int32} : sm_R T_L_order (b, 16, (V, o), ls, [.inl x]) = some ((V, o), .ok (some (.inl x))) := R_ireturn rfl (Or.inr rfl)
theorem s_L_ahead_0 {b : Nat} {V : Nat → Nat → Int32} {o : Int64} {l0 l1 l2 : Option sm_V} {tl : sm_L} {x : sm_N} {r : List sm_V} : sm_R T_L_ahead (b, 0, (V, o), l0 :: l1 :: l2 :: some (.inr (.inr x)) :: tl, r) = sm_R T_L_ahead (b, 1, (V, o), l0 :: l1 :: l2 :: some (.inr (.inr x)) :: tl, .inr (.inr x) :: r) := R_aload_n rfl rfl
theorem s_L_ahead_1 {b : Nat} {V : Nat → Nat → Int32} {o : Int64} {ls : sm_L} {r : List sm_V} : sm_R T_L_ahead (b, 1, (V, o), ls, r) = sm_R T_L_ahead (b, 2, (V, o), ls, .inl 0 :: r) := R_iconst rfl (by decide)
theorem s_L_ahead_2 {b : Nat} {V : Nat → Nat → Int32} {o : Int64} {tl : sm_L} {x : sm_N} {r : List sm_V} : sm_R T_L_ahead (b, 2, (V, o), some (.inr (.inr x)) :: tl, r) = sm_R T_L_ahead (b, 3, (V, o), some (.inr (.inr x)) :: tl, .inr (.inr x) :: r) := R_aload_n rfl rfl
theorem s_L_ahead_3 {b : Nat} {V : Nat → Nat → Int32} {o : Int64} {l0 : Option sm_V} {tl : sm_L} {x : Int32} {r : List sm_V} : sm_R T_L_ahead (b, 3, (V, o), l0 :: some (.inl x) :: tl, r) = sm_R T_L_ahead (b, 4, (V, o), l0 :: some (.inl x) :: tl, .inl x :: r) := R_iload_n rfl rfl
theorem s_L_ahead_4 {b : Nat} {V : Nat → Nat → Int32} {o : Int64} {l0 l1 : Option sm_V} {tl : sm_L} {x : Int32} {r : List sm_V} : sm_R T_L_ahead (b, 4, (V, o), l0 :: l1 :: some (.inl x) :: tl, r) = sm_R T_L_ahead (b, 5, (V, o), l0 :: l1 :: some (.inl x) :: tl, .inl x :: r) := R_iload_n rfl rfl
theorem s_L_ahead_5 {b : Nat} {V : Nat → Nat → Int32} {o : Int64} {ls : sm_L} {r : List sm_V} {k0 i0 : Nat} {a1 : Int32} {a2 : Int32} (h : r.length ≤ 4) (hb : 1 ≤ b) : sm_R T_L_ahead (b, 5, (V, o), ls, .inl a2 :: .inl a1 :: .inr (.inr (9, k0, i0)) :: r) = sm_k2 (F_X9_ahead (V, o) [.inr (.inr (9, k0, i0)), .inl a1, .inl a2]) (fun M1 v => sm_R T_L_ahead ((b - 1), 8, M1, ls, v.toList ++ r)) (fun M1 e => if e = 1 then (sm_g (sm_lk ls 4 = true) (sm_R T_L_ahead ((b - 1), 15, M1, ls.set 4 none, []))) else none) := by
  have h9 := R_callH (T := T_L_ahead) (b := b) (pc := 5) (V := V) (o := o) (ls := ls) (r := r) (x := 83) (as := [.inr (.inr (9, k0, i0)), .inl a1, .inl a2]) rfl rfl rfl h hb ⟨rfl, rfl⟩ (by decide)
  refine h9.trans (congrArg (sm_k2 _ _) ?_)
  funext M1 e
  by_cases h1 : e = 1
  · subst h1; rfl
  rw [if_neg h1]
  have hn9 : sm_hnd T_L_ahead 5 e = none := by
    cases hq : sm_hnd T_L_ahead 5 e with
    | none => rfl
    | some q =>
      have h8 : ((5, e), q) ∈ ([((5, 1), (15, 4))] : List ((Nat × Nat) × (Nat × Nat))) := sm_look2 hq
      simp [h1] at h8
  rw [hn9]
theorem s_L_ahead_8 {b : Nat} {V : Nat → Nat → Int32} {o : Int64} {ls : sm_L} {r : List sm_V} {x : Int32} : sm_R T_L_ahead (b, 8, (V, o), ls, .inl x :: r) = sm_R T_L_ahead (b, 9, (V, o), ls, .inr (.inl x.toInt64) :: r) := R_i2l rfl
theorem s_L_ahead_9 {b : Nat} {V : Nat → Nat → Int32} {o : Int64} {ls : sm_L} {r : List sm_V} {x : Int64} : sm_R T_L_ahead (b, 9, (V, o), ls, .inr (.inl x) :: .inl 0 :: .inr (.inr (60, 0, 0)) :: r) = sm_R T_L_ahead (b, 10, (V, x), ls, r) := R_lastore rfl
theorem s_L_ahead_10 {b : Nat} {V : Nat → Nat → Int32} {o : Int64} {ls : sm_L} {r : List sm_V} : sm_R T_L_ahead (b, 10, (V, o), ls, r) = sm_R T_L_ahead (b, 17, (V, o), ls, r) := R_goto (tgt := 17) rfl (by decide)
theorem s_L_ahead_15 {b : Nat} {V : Nat → Nat → Int32} {o : Int64} {ls : sm_L} {r : List sm_V} : sm_R T_L_ahead (b, 15, (V, o), ls, r) = sm_R T_L_ahead (b, 16, (V, o), ls, .inl 1 :: r) := R_iconst rfl (by decide)
theorem s_L_ahead_16 {b : Nat} {V : Nat → Nat → Int32} {o : Int64} {ls : sm_L} {x : Int32} : sm_R T_L_ahead (b, 16, (V, o), ls, [.inl x]) = some ((V, o), .ok (some (.inl x))) := R_ireturn rfl (Or.inr rfl)
theorem s_L_ahead_17 {b : Nat} {V : Nat → Nat → Int32} {o : Int64} {ls : sm_L} {r : List sm_V} : sm_R T_L_ahead (b, 17, (V, o), ls, r) = sm_R T_L_ahead (b, 18, (V, o), ls, .inl 0 :: r) := R_iconst rfl (by decide)
theorem s_L_ahead_18 {b : Nat} {V : Nat → Nat → Int32} {o : Int64} {ls : sm_L} {x : Int32} : sm_R T_L_ahead (b, 18, (V, o), ls, [.inl x]) = some ((V, o), .ok (some (.inl x))) := R_ireturn rfl (Or.inr rfl)
theorem s_L_readyAfter_0 {b : Nat} {V : Nat → Nat → Int32} {o : Int64} {l0 l1 : Option sm_V} {tl : sm_L} {x : sm_N} {r : List sm_V} : sm_R T_L_readyAfter (b, 0, (V, o), l0 :: l1 :: some (.inr (.inr x)) :: tl, r) = sm_R T_L_readyAfter (b, 1, (V, o), l0 :: l1 :: some (.inr (.inr x)) :: tl, .inr (.inr x) :: r) := R_aload_n rfl rfl
theorem s_L_readyAfter_1 {b : Nat} {V : Nat → Nat → Int32} {o : Int64} {ls : sm_L} {r : List sm_V} : sm_R T_L_readyAfter (b, 1, (V, o), ls, r) = sm_R T_L_readyAfter (b, 2, (V, o), ls, .inl 0 :: r) := R_iconst rfl (by decide)
theorem s_L_readyAfter_2 {b : Nat} {V : Nat → Nat → Int32} {o : Int64} {tl : sm_L} {x : sm_N} {r : List sm_V} : sm_R T_L_readyAfter (b, 2, (V, o), some (.inr (.inr x)) :: tl, r) = sm_R T_L_readyAfter (b, 3, (V, o), some (.inr (.inr x)) :: tl, .inr (.inr x) :: r) := R_aload_n rfl rfl
theorem s_L_readyAfter_3 {b : Nat} {V : Nat → Nat → Int32} {o : Int64} {l0 : Option sm_V} {tl : sm_L} {x : Int32} {r : List sm_V} : sm_R T_L_readyAfter (b, 3, (V, o), l0 :: some (.inl x) :: tl, r) = sm_R T_L_readyAfter (b, 4, (V, o), l0 :: some (.inl x) :: tl, .inl x :: r) := R_iload_n rfl rfl
theorem s_L_readyAfter_4 {b : Nat} {V : Nat → Nat → Int32} {o : Int64} {ls : sm_L} {r : List sm_V} {k0 i0 : Nat} {a1 : Int32} (h : r.length ≤ 4) (hb : 1 ≤ b) : sm_R T_L_readyAfter (b, 4, (V, o), ls, .inl a1 :: .inr (.inr (9, k0, i0)) :: r) = sm_k2 (F_X9_readyAfter (V, o) [.inr (.inr (9, k0, i0)), .inl a1]) (fun M1 v => sm_R T_L_readyAfter ((b - 1), 7, M1, ls, v.toList ++ r)) (fun M1 e => if e = 3 then (sm_g (sm_lk ls 3 = true) (sm_R T_L_readyAfter ((b - 1), 13, M1, ls.set 3 none, []))) else none) := by
  have h9 := R_callH (T := T_L_readyAfter) (b := b) (pc := 4) (V := V) (o := o) (ls := ls) (r := r) (x := 86) (as := [.inr (.inr (9, k0, i0)), .inl a1]) rfl rfl rfl h hb ⟨rfl, rfl⟩ (by decide)
  refine h9.trans (congrArg (sm_k2 _ _) ?_)
  funext M1 e
  by_cases h3 : e = 3
  · subst h3; rfl
  rw [if_neg h3]
  have hn9 : sm_hnd T_L_readyAfter 4 e = none := by
    cases hq : sm_hnd T_L_readyAfter 4 e with
    | none => rfl
    | some q =>
      have h8 : ((4, e), q) ∈ ([((4, 3), (13, 3))] : List ((Nat × Nat) × (Nat × Nat))) := sm_look2 hq
      simp [h3] at h8
  rw [hn9]
theorem s_L_readyAfter_7 {b : Nat} {V : Nat → Nat → Int32} {o : Int64} {ls : sm_L} {r : List sm_V} {x : Int32} : sm_R T_L_readyAfter (b, 7, (V, o), ls, .inl x :: r) = sm_R T_L_readyAfter (b, 8, (V, o), ls, .inr (.inl x.toInt64) :: r) := R_i2l rfl
theorem s_L_readyAfter_8 {b : Nat} {V : Nat → Nat → Int32} {o : Int64} {ls : sm_L} {r : List sm_V} {x : Int64} : sm_R T_L_readyAfter (b, 8, (V, o), ls, .inr (.inl x) :: .inl 0 :: .inr (.inr (60, 0, 0)) :: r) = sm_R T_L_readyAfter (b, 9, (V, x), ls, r) := R_lastore rfl
theorem s_L_readyAfter_9 {b : Nat} {V : Nat → Nat → Int32} {o : Int64} {ls : sm_L} {r : List sm_V} : sm_R T_L_readyAfter (b, 9, (V, o), ls, r) = sm_R T_L_readyAfter (b, 15, (V, o), ls, r) := R_goto (tgt := 15) rfl (by decide)
theorem s_L_readyAfter_13 {b : Nat} {V : Nat → Nat → Int32} {o : Int64} {ls : sm_L} {r : List sm_V} : sm_R T_L_readyAfter (b, 13, (V, o), ls, r) = sm_R T_L_readyAfter (b, 14, (V, o), ls, .inl 1 :: r) := R_iconst rfl (by decide)
theorem s_L_readyAfter_14 {b : Nat} {V : Nat → Nat → Int32} {o : Int64} {ls : sm_L} {x : Int32} : sm_R T_L_readyAfter (b, 14, (V, o), ls, [.inl x]) = some ((V, o), .ok (some (.inl x))) := R_ireturn rfl (Or.inr rfl)
theorem s_L_readyAfter_15 {b : Nat} {V : Nat → Nat → Int32} {o : Int64} {ls : sm_L} {r : List sm_V} : sm_R T_L_readyAfter (b, 15, (V, o), ls, r) = sm_R T_L_readyAfter (b, 16, (V, o), ls, .inl 0 :: r) := R_iconst rfl (by decide)
theorem s_L_readyAfter_16 {b : Nat} {V : Nat → Nat → Int32} {o : Int64} {ls : sm_L} {x : Int32} : sm_R T_L_readyAfter (b, 16, (V, o), ls, [.inl x]) = some ((V, o), .ok (some (.inl x))) := R_ireturn rfl (Or.inr rfl)
theorem s_L_bestPlace_0 {b : Nat} {V : Nat → Nat → Int32} {o : Int64} {l0 l1 l2 : Option sm_V} {tl : sm_L} {x : sm_N} {r : List sm_V} : sm_R T_L_bestPlace (b, 0, (V, o), l0 :: l1 :: l2 :: some (.inr (.inr x)) :: tl, r) = sm_R T_L_bestPlace (b, 1, (V, o), l0 :: l1 :: l2 :: some (.inr (.inr x)) :: tl, .inr (.inr x) :: r) := R_aload_n rfl rfl
theorem s_L_bestPlace_1 {b : Nat} {V : Nat → Nat → Int32} {o : Int64} {ls : sm_L} {r : List sm_V} : sm_R T_L_bestPlace (b, 1, (V, o), ls, r) = sm_R T_L_bestPlace (b, 2, (V, o), ls, .inl 0 :: r) := R_iconst rfl (by decide)
theorem s_L_bestPlace_2 {b : Nat} {V : Nat → Nat → Int32} {o : Int64} {tl : sm_L} {x : sm_N} {r : List sm_V} : sm_R T_L_bestPlace (b, 2, (V, o), some (.inr (.inr x)) :: tl, r) = sm_R T_L_bestPlace (b, 3, (V, o), some (.inr (.inr x)) :: tl, .inr (.inr x) :: r) := R_aload_n rfl rfl
theorem s_L_bestPlace_3 {b : Nat} {V : Nat → Nat → Int32} {o : Int64} {l0 : Option sm_V} {tl : sm_L} {x : Int32} {r : List sm_V} : sm_R T_L_bestPlace (b, 3, (V, o), l0 :: some (.inl x) :: tl, r) = sm_R T_L_bestPlace (b, 4, (V, o), l0 :: some (.inl x) :: tl, .inl x :: r) := R_iload_n rfl rfl
theorem s_L_bestPlace_4 {b : Nat} {V : Nat → Nat → Int32} {o : Int64} {l0 l1 : Option sm_V} {tl : sm_L} {x : Int32} {r : List sm_V} : sm_R T_L_bestPlace (b, 4, (V, o), l0 :: l1 :: some (.inl x) :: tl, r) = sm_R T_L_bestPlace (b, 5, (V, o), l0 :: l1 :: some (.inl x) :: tl, .inl x :: r) := R_iload_n rfl rfl
theorem s_L_bestPlace_5 {b : Nat} {V : Nat → Nat → Int32} {o : Int64} {ls : sm_L} {r : List sm_V} {k0 i0 : Nat} {a1 : Int32} {a2 : Int32} (h : r.length ≤ 4) (hb : 2 ≤ b) : sm_R T_L_bestPlace (b, 5, (V, o), ls, .inl a2 :: .inl a1 :: .inr (.inr (9, k0, i0)) :: r) = sm_k2 (F_X9_bestPlace (V, o) [.inr (.inr (9, k0, i0)), .inl a1, .inl a2]) (fun M1 v => sm_R T_L_bestPlace ((b - 2), 8, M1, ls, v.toList ++ r)) (fun M1 e => if e = 1 then (sm_g (sm_lk ls 4 = true) (sm_R T_L_bestPlace ((b - 2), 15, M1, ls.set 4 none, []))) else none) := by
  have h9 := R_callH (T := T_L_bestPlace) (b := b) (pc := 5) (V := V) (o := o) (ls := ls) (r := r) (x := 89) (as := [.inr (.inr (9, k0, i0)), .inl a1, .inl a2]) rfl rfl rfl h hb ⟨rfl, rfl⟩ (by decide)
  refine h9.trans (congrArg (sm_k2 _ _) ?_)
  funext M1 e
  by_cases h1 : e = 1
  · subst h1; rfl
  rw [if_neg h1]
  have hn9 : sm_hnd T_L_bestPlace 5 e = none := by
    cases hq : sm_hnd T_L_bestPlace 5 e with
    | none => rfl
    | some q =>
      have h8 : ((5, e), q) ∈ ([((5, 1), (15, 4))] : List ((Nat × Nat) × (Nat × Nat))) := sm_look2 hq
      simp [h1] at h8
  rw [hn9]
theorem s_L_bestPlace_8 {b : Nat} {V : Nat → Nat → Int32} {o : Int64} {ls : sm_L} {r : List sm_V} {x : Int32} : sm_R T_L_bestPlace (b, 8, (V, o), ls, .inl x :: r) = sm_R T_L_bestPlace (b, 9, (V, o), ls, .inr (.inl x.toInt64) :: r) := R_i2l rfl
theorem s_L_bestPlace_9 {b : Nat} {V : Nat → Nat → Int32} {o : Int64} {ls : sm_L} {r : List sm_V} {x : Int64} : sm_R T_L_bestPlace (b, 9, (V, o), ls, .inr (.inl x) :: .inl 0 :: .inr (.inr (60, 0, 0)) :: r) = sm_R T_L_bestPlace (b, 10, (V, x), ls, r) := R_lastore rfl
theorem s_L_bestPlace_10 {b : Nat} {V : Nat → Nat → Int32} {o : Int64} {ls : sm_L} {r : List sm_V} : sm_R T_L_bestPlace (b, 10, (V, o), ls, r) = sm_R T_L_bestPlace (b, 17, (V, o), ls, r) := R_goto (tgt := 17) rfl (by decide)
theorem s_L_bestPlace_15 {b : Nat} {V : Nat → Nat → Int32} {o : Int64} {ls : sm_L} {r : List sm_V} : sm_R T_L_bestPlace (b, 15, (V, o), ls, r) = sm_R T_L_bestPlace (b, 16, (V, o), ls, .inl 1 :: r) := R_iconst rfl (by decide)
theorem s_L_bestPlace_16 {b : Nat} {V : Nat → Nat → Int32} {o : Int64} {ls : sm_L} {x : Int32} : sm_R T_L_bestPlace (b, 16, (V, o), ls, [.inl x]) = some ((V, o), .ok (some (.inl x))) := R_ireturn rfl (Or.inr rfl)
theorem s_L_bestPlace_17 {b : Nat} {V : Nat → Nat → Int32} {o : Int64} {ls : sm_L} {r : List sm_V} : sm_R T_L_bestPlace (b, 17, (V, o), ls, r) = sm_R T_L_bestPlace (b, 18, (V, o), ls, .inl 0 :: r) := R_iconst rfl (by decide)
theorem s_L_bestPlace_18 {b : Nat} {V : Nat → Nat → Int32} {o : Int64} {ls : sm_L} {x : Int32} : sm_R T_L_bestPlace (b, 18, (V, o), ls, [.inl x]) = some ((V, o), .ok (some (.inl x))) := R_ireturn rfl (Or.inr rfl)
theorem s_L_missing_0 {b : Nat} {V : Nat → Nat → Int32} {o : Int64} {l0 l1 : Option sm_V} {tl : sm_L} {x : sm_N} {r : List sm_V} : sm_R T_L_missing (b, 0, (V, o), l0 :: l1 :: some (.inr (.inr x)) :: tl, r) = sm_R T_L_missing (b, 1, (V, o), l0 :: l1 :: some (.inr (.inr x)) :: tl, .inr (.inr x) :: r) := R_aload_n rfl rfl
theorem s_L_missing_1 {b : Nat} {V : Nat → Nat → Int32} {o : Int64} {ls : sm_L} {r : List sm_V} : sm_R T_L_missing (b, 1, (V, o), ls, r) = sm_R T_L_missing (b, 2, (V, o), ls, .inl 0 :: r) := R_iconst rfl (by decide)
theorem s_L_missing_2 {b : Nat} {V : Nat → Nat → Int32} {o : Int64} {tl : sm_L} {x : sm_N} {r : List sm_V} : sm_R T_L_missing (b, 2, (V, o), some (.inr (.inr x)) :: tl, r) = sm_R T_L_missing (b, 3, (V, o), some (.inr (.inr x)) :: tl, .inr (.inr x) :: r) := R_aload_n rfl rfl
theorem s_L_missing_3 {b : Nat} {V : Nat → Nat → Int32} {o : Int64} {l0 : Option sm_V} {tl : sm_L} {x : Int32} {r : List sm_V} : sm_R T_L_missing (b, 3, (V, o), l0 :: some (.inl x) :: tl, r) = sm_R T_L_missing (b, 4, (V, o), l0 :: some (.inl x) :: tl, .inl x :: r) := R_iload_n rfl rfl
theorem s_L_missing_4 {b : Nat} {V : Nat → Nat → Int32} {o : Int64} {ls : sm_L} {r : List sm_V} {k0 i0 : Nat} {a1 : Int32} (h : r.length ≤ 4) (hb : 1 ≤ b) : sm_R T_L_missing (b, 4, (V, o), ls, .inl a1 :: .inr (.inr (9, k0, i0)) :: r) = sm_k2 (F_X9_missing (V, o) [.inr (.inr (9, k0, i0)), .inl a1]) (fun M1 v => sm_R T_L_missing ((b - 1), 7, M1, ls, v.toList ++ r)) (fun M1 e => if e = 1 then (sm_g (sm_lk ls 3 = true) (sm_R T_L_missing ((b - 1), 13, M1, ls.set 3 none, []))) else none) := by
  have h9 := R_callH (T := T_L_missing) (b := b) (pc := 4) (V := V) (o := o) (ls := ls) (r := r) (x := 92) (as := [.inr (.inr (9, k0, i0)), .inl a1]) rfl rfl rfl h hb ⟨rfl, rfl⟩ (by decide)
  refine h9.trans (congrArg (sm_k2 _ _) ?_)
  funext M1 e
  by_cases h1 : e = 1
  · subst h1; rfl
  rw [if_neg h1]
  have hn9 : sm_hnd T_L_missing 4 e = none := by
    cases hq : sm_hnd T_L_missing 4 e with
    | none => rfl
    | some q =>
      have h8 : ((4, e), q) ∈ ([((4, 1), (13, 3))] : List ((Nat × Nat) × (Nat × Nat))) := sm_look2 hq
      simp [h1] at h8
  rw [hn9]
theorem s_L_missing_7 {b : Nat} {V : Nat → Nat → Int32} {o : Int64} {ls : sm_L} {r : List sm_V} {x : Int32} : sm_R T_L_missing (b, 7, (V, o), ls, .inl x :: r) = sm_R T_L_missing (b, 8, (V, o), ls, .inr (.inl x.toInt64) :: r) := R_i2l rfl
theorem s_L_missing_8 {b : Nat} {V : Nat → Nat → Int32} {o : Int64} {ls : sm_L} {r : List sm_V} {x : Int64} : sm_R T_L_missing (b, 8, (V, o), ls, .inr (.inl x) :: .inl 0 :: .inr (.inr (60, 0, 0)) :: r) = sm_R T_L_missing (b, 9, (V, x), ls, r) := R_lastore rfl
theorem s_L_missing_9 {b : Nat} {V : Nat → Nat → Int32} {o : Int64} {ls : sm_L} {r : List sm_V} : sm_R T_L_missing (b, 9, (V, o), ls, r) = sm_R T_L_missing (b, 15, (V, o), ls, r) := R_goto (tgt := 15) rfl (by decide)
theorem s_L_missing_13 {b : Nat} {V : Nat → Nat → Int32} {o : Int64} {ls : sm_L} {r : List sm_V} : sm_R T_L_missing (b, 13, (V, o), ls, r) = sm_R T_L_missing (b, 14, (V, o), ls, .inl 1 :: r) := R_iconst rfl (by decide)
theorem s_L_missing_14 {b : Nat} {V : Nat → Nat → Int32} {o : Int64} {ls : sm_L} {x : Int32} : sm_R T_L_missing (b, 14, (V, o), ls, [.inl x]) = some ((V, o), .ok (some (.inl x))) := R_ireturn rfl (Or.inr rfl)
theorem s_L_missing_15 {b : Nat} {V : Nat → Nat → Int32} {o : Int64} {ls : sm_L} {r : List sm_V} : sm_R T_L_missing (b, 15, (V, o), ls, r) = sm_R T_L_missing (b, 16, (V, o), ls, .inl 0 :: r) := R_iconst rfl (by decide)
theorem s_L_missing_16 {b : Nat} {V : Nat → Nat → Int32} {o : Int64} {ls : sm_L} {x : Int32} : sm_R T_L_missing (b, 16, (V, o), ls, [.inl x]) = some ((V, o), .ok (some (.inl x))) := R_ireturn rfl (Or.inr rfl)
theorem s_L_coldest_0 {b : Nat} {V : Nat → Nat → Int32} {o : Int64} {l0 l1 : Option sm_V} {tl : sm_L} {x : sm_N} {r : List sm_V} : sm_R T_L_coldest (b, 0, (V, o), l0 :: l1 :: some (.inr (.inr x)) :: tl, r) = sm_R T_L_coldest (b, 1, (V, o), l0 :: l1 :: some (.inr (.inr x)) :: tl, .inr (.inr x) :: r) := R_aload_n rfl rfl
theorem s_L_coldest_1 {b : Nat} {V : Nat → Nat → Int32} {o : Int64} {ls : sm_L} {r : List sm_V} : sm_R T_L_coldest (b, 1, (V, o), ls, r) = sm_R T_L_coldest (b, 2, (V, o), ls, .inl 0 :: r) := R_iconst rfl (by decide)
theorem s_L_coldest_2 {b : Nat} {V : Nat → Nat → Int32} {o : Int64} {tl : sm_L} {x : sm_N} {r : List sm_V} : sm_R T_L_coldest (b, 2, (V, o), some (.inr (.inr x)) :: tl, r) = sm_R T_L_coldest (b, 3, (V, o), some (.inr (.inr x)) :: tl, .inr (.inr x) :: r) := R_aload_n rfl rfl
theorem s_L_coldest_3 {b : Nat} {V : Nat → Nat → Int32} {o : Int64} {l0 : Option sm_V} {tl : sm_L} {x : Int32} {r : List sm_V} : sm_R T_L_coldest (b, 3, (V, o), l0 :: some (.inl x) :: tl, r) = sm_R T_L_coldest (b, 4, (V, o), l0 :: some (.inl x) :: tl, .inl x :: r) := R_iload_n rfl rfl
theorem s_L_coldest_4 {b : Nat} {V : Nat → Nat → Int32} {o : Int64} {ls : sm_L} {r : List sm_V} {k0 i0 : Nat} {a1 : Int32} (h : r.length ≤ 4) (hb : 1 ≤ b) : sm_R T_L_coldest (b, 4, (V, o), ls, .inl a1 :: .inr (.inr (9, k0, i0)) :: r) = sm_k2 (F_X9_coldest (V, o) [.inr (.inr (9, k0, i0)), .inl a1]) (fun M1 v => sm_R T_L_coldest ((b - 1), 7, M1, ls, v.toList ++ r)) (fun M1 e => if e = 1 then (sm_g (sm_lk ls 3 = true) (sm_R T_L_coldest ((b - 1), 13, M1, ls.set 3 none, []))) else none) := by
  have h9 := R_callH (T := T_L_coldest) (b := b) (pc := 4) (V := V) (o := o) (ls := ls) (r := r) (x := 95) (as := [.inr (.inr (9, k0, i0)), .inl a1]) rfl rfl rfl h hb ⟨rfl, rfl⟩ (by decide)
  refine h9.trans (congrArg (sm_k2 _ _) ?_)
  funext M1 e
  by_cases h1 : e = 1
  · subst h1; rfl
  rw [if_neg h1]
  have hn9 : sm_hnd T_L_coldest 4 e = none := by
    cases hq : sm_hnd T_L_coldest 4 e with
    | none => rfl
    | some q =>
      have h8 : ((4, e), q) ∈ ([((4, 1), (13, 3))] : List ((Nat × Nat) × (Nat × Nat))) := sm_look2 hq
      simp [h1] at h8
  rw [hn9]
theorem s_L_coldest_7 {b : Nat} {V : Nat → Nat → Int32} {o : Int64} {ls : sm_L} {r : List sm_V} {x : Int32} : sm_R T_L_coldest (b, 7, (V, o), ls, .inl x :: r) = sm_R T_L_coldest (b, 8, (V, o), ls, .inr (.inl x.toInt64) :: r) := R_i2l rfl
theorem s_L_coldest_8 {b : Nat} {V : Nat → Nat → Int32} {o : Int64} {ls : sm_L} {r : List sm_V} {x : Int64} : sm_R T_L_coldest (b, 8, (V, o), ls, .inr (.inl x) :: .inl 0 :: .inr (.inr (60, 0, 0)) :: r) = sm_R T_L_coldest (b, 9, (V, x), ls, r) := R_lastore rfl
theorem s_L_coldest_9 {b : Nat} {V : Nat → Nat → Int32} {o : Int64} {ls : sm_L} {r : List sm_V} : sm_R T_L_coldest (b, 9, (V, o), ls, r) = sm_R T_L_coldest (b, 15, (V, o), ls, r) := R_goto (tgt := 15) rfl (by decide)
theorem s_L_coldest_13 {b : Nat} {V : Nat → Nat → Int32} {o : Int64} {ls : sm_L} {r : List sm_V} : sm_R T_L_coldest (b, 13, (V, o), ls, r) = sm_R T_L_coldest (b, 14, (V, o), ls, .inl 1 :: r) := R_iconst rfl (by decide)
theorem s_L_coldest_14 {b : Nat} {V : Nat → Nat → Int32} {o : Int64} {ls : sm_L} {x : Int32} : sm_R T_L_coldest (b, 14, (V, o), ls, [.inl x]) = some ((V, o), .ok (some (.inl x))) := R_ireturn rfl (Or.inr rfl)
theorem s_L_coldest_15 {b : Nat} {V : Nat → Nat → Int32} {o : Int64} {ls : sm_L} {r : List sm_V} : sm_R T_L_coldest (b, 15, (V, o), ls, r) = sm_R T_L_coldest (b, 16, (V, o), ls, .inl 0 :: r) := R_iconst rfl (by decide)
theorem s_L_coldest_16 {b : Nat} {V : Nat → Nat → Int32} {o : Int64} {ls : sm_L} {x : Int32} : sm_R T_L_coldest (b, 16, (V, o), ls, [.inl x]) = some ((V, o), .ok (some (.inl x))) := R_ireturn rfl (Or.inr rfl)
theorem s_L_runScript_0 {b : Nat} {V : Nat → Nat → Int32} {o : Int64} {l0 l1 l2 l3 : Option sm_V} {tl : sm_L} {x : sm_N} {r : List sm_V} : sm_R T_L_runScript (b, 0, (V, o), l0 :: l1 :: l2 :: l3 :: some (.inr (.inr x)) :: tl, r) = sm_R T_L_runScript (b, 2, (V, o), l0 :: l1 :: l2 :: l3 :: some (.inr (.inr x)) :: tl, .inr (.inr x) :: r) := R_aload rfl rfl
theorem s_L_runScript_2 {b : Nat} {V : Nat → Nat → Int32} {o : Int64} {ls : sm_L} {r : List sm_V} : sm_R T_L_runScript (b, 2, (V, o), ls, r) = sm_R T_L_runScript (b, 3, (V, o), ls, .inl 0 :: r) := R_iconst rfl (by decide)
theorem s_L_runScript_3 {b : Nat} {V : Nat → Nat → Int32} {o : Int64} {tl : sm_L} {x : sm_N} {r : List sm_V} : sm_R T_L_runScript (b, 3, (V, o), some (.inr (.inr x)) :: tl, r) = sm_R T_L_runScript (b, 4, (V, o), some (.inr (.inr x)) :: tl, .inr (.inr x) :: r) := R_aload_n rfl rfl
theorem s_L_runScript_4 {b : Nat} {V : Nat → Nat → Int32} {o : Int64} {l0 : Option sm_V} {tl : sm_L} {x : Int32} {r : List sm_V} : sm_R T_L_runScript (b, 4, (V, o), l0 :: some (.inl x) :: tl, r) = sm_R T_L_runScript (b, 5, (V, o), l0 :: some (.inl x) :: tl, .inl x :: r) := R_iload_n rfl rfl
theorem s_L_runScript_5 {b : Nat} {V : Nat → Nat → Int32} {o : Int64} {l0 l1 : Option sm_V} {tl : sm_L} {x : Int64} {r : List sm_V} : sm_R T_L_runScript (b, 5, (V, o), l0 :: l1 :: some (.inr (.inl x)) :: tl, r) = sm_R T_L_runScript (b, 6, (V, o), l0 :: l1 :: some (.inr (.inl x)) :: tl, .inr (.inl x) :: r) := R_lload_n rfl rfl
theorem s_L_runScript_6 {b : Nat} {V : Nat → Nat → Int32} {o : Int64} {ls : sm_L} {r : List sm_V} {k0 i0 : Nat} {a1 : Int32} {a2 : Int64} (h : r.length ≤ 4) (hb : 1 ≤ b) : sm_R T_L_runScript (b, 6, (V, o), ls, .inr (.inl a2) :: .inl a1 :: .inr (.inr (9, k0, i0)) :: r) = sm_k2 (F_X9_runScript (V, o) [.inr (.inr (9, k0, i0)), .inl a1, .inr (.inl a2)]) (fun M1 v => sm_R T_L_runScript ((b - 1), 9, M1, ls, v.toList ++ r)) (fun M1 e => if e = 1 then (sm_g (sm_lk ls 5 = true) (sm_R T_L_runScript ((b - 1), 16, M1, ls.set 5 none, []))) else none) := by
  have h9 := R_callH (T := T_L_runScript) (b := b) (pc := 6) (V := V) (o := o) (ls := ls) (r := r) (x := 98) (as := [.inr (.inr (9, k0, i0)), .inl a1, .inr (.inl a2)]) rfl rfl rfl h hb ⟨rfl, rfl⟩ (by decide)
  refine h9.trans (congrArg (sm_k2 _ _) ?_)
  funext M1 e
  by_cases h1 : e = 1
  · subst h1; rfl
  rw [if_neg h1]
  have hn9 : sm_hnd T_L_runScript 6 e = none := by
    cases hq : sm_hnd T_L_runScript 6 e with
    | none => rfl
    | some q =>
      have h8 : ((6, e), q) ∈ ([((6, 1), (16, 5))] : List ((Nat × Nat) × (Nat × Nat))) := sm_look2 hq
      simp [h1] at h8
  rw [hn9]
theorem s_L_runScript_9 {b : Nat} {V : Nat → Nat → Int32} {o : Int64} {ls : sm_L} {r : List sm_V} {x : Int32} : sm_R T_L_runScript (b, 9, (V, o), ls, .inl x :: r) = sm_R T_L_runScript (b, 10, (V, o), ls, .inr (.inl x.toInt64) :: r) := R_i2l rfl
theorem s_L_runScript_10 {b : Nat} {V : Nat → Nat → Int32} {o : Int64} {ls : sm_L} {r : List sm_V} {x : Int64} : sm_R T_L_runScript (b, 10, (V, o), ls, .inr (.inl x) :: .inl 0 :: .inr (.inr (60, 0, 0)) :: r) = sm_R T_L_runScript (b, 11, (V, x), ls, r) := R_lastore rfl
theorem s_L_runScript_11 {b : Nat} {V : Nat → Nat → Int32} {o : Int64} {ls : sm_L} {r : List sm_V} : sm_R T_L_runScript (b, 11, (V, o), ls, r) = sm_R T_L_runScript (b, 18, (V, o), ls, r) := R_goto (tgt := 18) rfl (by decide)
theorem s_L_runScript_16 {b : Nat} {V : Nat → Nat → Int32} {o : Int64} {ls : sm_L} {r : List sm_V} : sm_R T_L_runScript (b, 16, (V, o), ls, r) = sm_R T_L_runScript (b, 17, (V, o), ls, .inl 1 :: r) := R_iconst rfl (by decide)
theorem s_L_runScript_17 {b : Nat} {V : Nat → Nat → Int32} {o : Int64} {ls : sm_L} {x : Int32} : sm_R T_L_runScript (b, 17, (V, o), ls, [.inl x]) = some ((V, o), .ok (some (.inl x))) := R_ireturn rfl (Or.inr rfl)
theorem s_L_runScript_18 {b : Nat} {V : Nat → Nat → Int32} {o : Int64} {ls : sm_L} {r : List sm_V} : sm_R T_L_runScript (b, 18, (V, o), ls, r) = sm_R T_L_runScript (b, 19, (V, o), ls, .inl 0 :: r) := R_iconst rfl (by decide)
theorem s_L_runScript_19 {b : Nat} {V : Nat → Nat → Int32} {o : Int64} {ls : sm_L} {x : Int32} : sm_R T_L_runScript (b, 19, (V, o), ls, [.inl x]) = some ((V, o), .ok (some (.inl x))) := R_ireturn rfl (Or.inr rfl)
theorem s_L_simulate_0 {b : Nat} {V : Nat → Nat → Int32} {o : Int64} {l0 l1 l2 l3 : Option sm_V} {tl : sm_L} {x : sm_N} {r : List sm_V} : sm_R T_L_simulate (b, 0, (V, o), l0 :: l1 :: l2 :: l3 :: some (.inr (.inr x)) :: tl, r) = sm_R T_L_simulate (b, 2, (V, o), l0 :: l1 :: l2 :: l3 :: some (.inr (.inr x)) :: tl, .inr (.inr x) :: r) := R_aload rfl rfl
theorem s_L_simulate_2 {b : Nat} {V : Nat → Nat → Int32} {o : Int64} {ls : sm_L} {r : List sm_V} : sm_R T_L_simulate (b, 2, (V, o), ls, r) = sm_R T_L_simulate (b, 3, (V, o), ls, .inl 0 :: r) := R_iconst rfl (by decide)
theorem s_L_simulate_3 {b : Nat} {V : Nat → Nat → Int32} {o : Int64} {tl : sm_L} {x : sm_N} {r : List sm_V} : sm_R T_L_simulate (b, 3, (V, o), some (.inr (.inr x)) :: tl, r) = sm_R T_L_simulate (b, 4, (V, o), some (.inr (.inr x)) :: tl, .inr (.inr x) :: r) := R_aload_n rfl rfl
theorem s_L_simulate_4 {b : Nat} {V : Nat → Nat → Int32} {o : Int64} {l0 : Option sm_V} {tl : sm_L} {x : Int64} {r : List sm_V} : sm_R T_L_simulate (b, 4, (V, o), l0 :: some (.inr (.inl x)) :: tl, r) = sm_R T_L_simulate (b, 5, (V, o), l0 :: some (.inr (.inl x)) :: tl, .inr (.inl x) :: r) := R_lload_n rfl rfl
theorem s_L_simulate_5 {b : Nat} {V : Nat → Nat → Int32} {o : Int64} {l0 l1 l2 : Option sm_V} {tl : sm_L} {x : Int32} {r : List sm_V} : sm_R T_L_simulate (b, 5, (V, o), l0 :: l1 :: l2 :: some (.inl x) :: tl, r) = sm_R T_L_simulate (b, 6, (V, o), l0 :: l1 :: l2 :: some (.inl x) :: tl, .inl x :: r) := R_iload_n rfl rfl
theorem s_L_simulate_6 {b : Nat} {V : Nat → Nat → Int32} {o : Int64} {ls : sm_L} {r : List sm_V} {k0 i0 : Nat} {a1 : Int64} {a2 : Int32} (h : r.length ≤ 4) (hb : 1 ≤ b) : sm_R T_L_simulate (b, 6, (V, o), ls, .inl a2 :: .inr (.inl a1) :: .inr (.inr (9, k0, i0)) :: r) = sm_k2 (F_X9_simulate (V, o) [.inr (.inr (9, k0, i0)), .inr (.inl a1), .inl a2]) (fun M1 v => sm_R T_L_simulate ((b - 1), 9, M1, ls, v.toList ++ r)) (fun M1 e => if e = 1 then (sm_g (sm_lk ls 5 = true) (sm_R T_L_simulate ((b - 1), 16, M1, ls.set 5 none, []))) else none) := by
  have h9 := R_callH (T := T_L_simulate) (b := b) (pc := 6) (V := V) (o := o) (ls := ls) (r := r) (x := 102) (as := [.inr (.inr (9, k0, i0)), .inr (.inl a1), .inl a2]) rfl rfl rfl h hb ⟨rfl, rfl⟩ (by decide)
  refine h9.trans (congrArg (sm_k2 _ _) ?_)
  funext M1 e
  by_cases h1 : e = 1
  · subst h1; rfl
  rw [if_neg h1]
  have hn9 : sm_hnd T_L_simulate 6 e = none := by
    cases hq : sm_hnd T_L_simulate 6 e with
    | none => rfl
    | some q =>
      have h8 : ((6, e), q) ∈ ([((6, 1), (16, 5))] : List ((Nat × Nat) × (Nat × Nat))) := sm_look2 hq
      simp [h1] at h8
  rw [hn9]
theorem s_L_simulate_9 {b : Nat} {V : Nat → Nat → Int32} {o : Int64} {ls : sm_L} {r : List sm_V} {x : Int32} : sm_R T_L_simulate (b, 9, (V, o), ls, .inl x :: r) = sm_R T_L_simulate (b, 10, (V, o), ls, .inr (.inl x.toInt64) :: r) := R_i2l rfl
theorem s_L_simulate_10 {b : Nat} {V : Nat → Nat → Int32} {o : Int64} {ls : sm_L} {r : List sm_V} {x : Int64} : sm_R T_L_simulate (b, 10, (V, o), ls, .inr (.inl x) :: .inl 0 :: .inr (.inr (60, 0, 0)) :: r) = sm_R T_L_simulate (b, 11, (V, x), ls, r) := R_lastore rfl
theorem s_L_simulate_11 {b : Nat} {V : Nat → Nat → Int32} {o : Int64} {ls : sm_L} {r : List sm_V} : sm_R T_L_simulate (b, 11, (V, o), ls, r) = sm_R T_L_simulate (b, 18, (V, o), ls, r) := R_goto (tgt := 18) rfl (by decide)
theorem s_L_simulate_16 {b : Nat} {V : Nat → Nat → Int32} {o : Int64} {ls : sm_L} {r : List sm_V} : sm_R T_L_simulate (b, 16, (V, o), ls, r) = sm_R T_L_simulate (b, 17, (V, o), ls, .inl 1 :: r) := R_iconst rfl (by decide)
theorem s_L_simulate_17 {b : Nat} {V : Nat → Nat → Int32} {o : Int64} {ls : sm_L} {x : Int32} : sm_R T_L_simulate (b, 17, (V, o), ls, [.inl x]) = some ((V, o), .ok (some (.inl x))) := R_ireturn rfl (Or.inr rfl)
theorem s_L_simulate_18 {b : Nat} {V : Nat → Nat → Int32} {o : Int64} {ls : sm_L} {r : List sm_V} : sm_R T_L_simulate (b, 18, (V, o), ls, r) = sm_R T_L_simulate (b, 19, (V, o), ls, .inl 0 :: r) := R_iconst rfl (by decide)
theorem s_L_simulate_19 {b : Nat} {V : Nat → Nat → Int32} {o : Int64} {ls : sm_L} {x : Int32} : sm_R T_L_simulate (b, 19, (V, o), ls, [.inl x]) = some ((V, o), .ok (some (.inl x))) := R_ireturn rfl (Or.inr rfl)
theorem s_L_save_0 {b : Nat} {V : Nat → Nat → Int32} {o : Int64} {l0 l1 : Option sm_V} {tl : sm_L} {x : sm_N} {r : List sm_V} : sm_R T_L_save (b, 0, (V, o), l0 :: l1 :: some (.inr (.inr x)) :: tl, r) = sm_R T_L_save (b, 1, (V, o), l0 :: l1 :: some (.inr (.inr x)) :: tl, .inr (.inr x) :: r) := R_aload_n rfl rfl
theorem s_L_save_1 {b : Nat} {V : Nat → Nat → Int32} {o : Int64} {ls : sm_L} {r : List sm_V} : sm_R T_L_save (b, 1, (V, o), ls, r) = sm_R T_L_save (b, 2, (V, o), ls, .inl 0 :: r) := R_iconst rfl (by decide)
theorem s_L_save_2 {b : Nat} {V : Nat → Nat → Int32} {o : Int64} {tl : sm_L} {x : sm_N} {r : List sm_V} : sm_R T_L_save (b, 2, (V, o), some (.inr (.inr x)) :: tl, r) = sm_R T_L_save (b, 3, (V, o), some (.inr (.inr x)) :: tl, .inr (.inr x) :: r) := R_aload_n rfl rfl
theorem s_L_save_3 {b : Nat} {V : Nat → Nat → Int32} {o : Int64} {l0 : Option sm_V} {tl : sm_L} {x : Int32} {r : List sm_V} : sm_R T_L_save (b, 3, (V, o), l0 :: some (.inl x) :: tl, r) = sm_R T_L_save (b, 4, (V, o), l0 :: some (.inl x) :: tl, .inl x :: r) := R_iload_n rfl rfl
theorem s_L_save_4 {b : Nat} {V : Nat → Nat → Int32} {o : Int64} {ls : sm_L} {r : List sm_V} {k0 i0 : Nat} {a1 : Int32} (h : r.length ≤ 4) (hb : 1 ≤ b) : sm_R T_L_save (b, 4, (V, o), ls, .inl a1 :: .inr (.inr (9, k0, i0)) :: r) = sm_k2 (F_X9_save (V, o) [.inr (.inr (9, k0, i0)), .inl a1]) (fun M1 v => sm_R T_L_save ((b - 1), 7, M1, ls, v.toList ++ r)) (fun M1 e => if e = 3 then (sm_g (sm_lk ls 3 = true) (sm_R T_L_save ((b - 1), 13, M1, ls.set 3 none, []))) else none) := by
  have h9 := R_callH (T := T_L_save) (b := b) (pc := 4) (V := V) (o := o) (ls := ls) (r := r) (x := 106) (as := [.inr (.inr (9, k0, i0)), .inl a1]) rfl rfl rfl h hb ⟨rfl, rfl⟩ (by decide)
  refine h9.trans (congrArg (sm_k2 _ _) ?_)
  funext M1 e
  by_cases h3 : e = 3
  · subst h3; rfl
  rw [if_neg h3]
  have hn9 : sm_hnd T_L_save 4 e = none := by
    cases hq : sm_hnd T_L_save 4 e with
    | none => rfl
    | some q =>
      have h8 : ((4, e), q) ∈ ([((4, 3), (13, 3))] : List ((Nat × Nat) × (Nat × Nat))) := sm_look2 hq
      simp [h3] at h8
  rw [hn9]
theorem s_L_save_7 {b : Nat} {V : Nat → Nat → Int32} {o : Int64} {ls : sm_L} {r : List sm_V} {x : Int32} : sm_R T_L_save (b, 7, (V, o), ls, .inl x :: r) = sm_R T_L_save (b, 8, (V, o), ls, .inr (.inl x.toInt64) :: r) := R_i2l rfl
theorem s_L_save_8 {b : Nat} {V : Nat → Nat → Int32} {o : Int64} {ls : sm_L} {r : List sm_V} {x : Int64} : sm_R T_L_save (b, 8, (V, o), ls, .inr (.inl x) :: .inl 0 :: .inr (.inr (60, 0, 0)) :: r) = sm_R T_L_save (b, 9, (V, x), ls, r) := R_lastore rfl
theorem s_L_save_9 {b : Nat} {V : Nat → Nat → Int32} {o : Int64} {ls : sm_L} {r : List sm_V} : sm_R T_L_save (b, 9, (V, o), ls, r) = sm_R T_L_save (b, 15, (V, o), ls, r) := R_goto (tgt := 15) rfl (by decide)
theorem s_L_save_13 {b : Nat} {V : Nat → Nat → Int32} {o : Int64} {ls : sm_L} {r : List sm_V} : sm_R T_L_save (b, 13, (V, o), ls, r) = sm_R T_L_save (b, 14, (V, o), ls, .inl 1 :: r) := R_iconst rfl (by decide)
theorem s_L_save_14 {b : Nat} {V : Nat → Nat → Int32} {o : Int64} {ls : sm_L} {x : Int32} : sm_R T_L_save (b, 14, (V, o), ls, [.inl x]) = some ((V, o), .ok (some (.inl x))) := R_ireturn rfl (Or.inr rfl)
theorem s_L_save_15 {b : Nat} {V : Nat → Nat → Int32} {o : Int64} {ls : sm_L} {r : List sm_V} : sm_R T_L_save (b, 15, (V, o), ls, r) = sm_R T_L_save (b, 16, (V, o), ls, .inl 0 :: r) := R_iconst rfl (by decide)
theorem s_L_save_16 {b : Nat} {V : Nat → Nat → Int32} {o : Int64} {ls : sm_L} {x : Int32} : sm_R T_L_save (b, 16, (V, o), ls, [.inl x]) = some ((V, o), .ok (some (.inl x))) := R_ireturn rfl (Or.inr rfl)
theorem s_L_restore_0 {b : Nat} {V : Nat → Nat → Int32} {o : Int64} {l0 l1 : Option sm_V} {tl : sm_L} {x : sm_N} {r : List sm_V} : sm_R T_L_restore (b, 0, (V, o), l0 :: l1 :: some (.inr (.inr x)) :: tl, r) = sm_R T_L_restore (b, 1, (V, o), l0 :: l1 :: some (.inr (.inr x)) :: tl, .inr (.inr x) :: r) := R_aload_n rfl rfl
theorem s_L_restore_1 {b : Nat} {V : Nat → Nat → Int32} {o : Int64} {ls : sm_L} {r : List sm_V} : sm_R T_L_restore (b, 1, (V, o), ls, r) = sm_R T_L_restore (b, 2, (V, o), ls, .inl 0 :: r) := R_iconst rfl (by decide)
theorem s_L_restore_2 {b : Nat} {V : Nat → Nat → Int32} {o : Int64} {tl : sm_L} {x : sm_N} {r : List sm_V} : sm_R T_L_restore (b, 2, (V, o), some (.inr (.inr x)) :: tl, r) = sm_R T_L_restore (b, 3, (V, o), some (.inr (.inr x)) :: tl, .inr (.inr x) :: r) := R_aload_n rfl rfl
theorem s_L_restore_3 {b : Nat} {V : Nat → Nat → Int32} {o : Int64} {l0 : Option sm_V} {tl : sm_L} {x : Int32} {r : List sm_V} : sm_R T_L_restore (b, 3, (V, o), l0 :: some (.inl x) :: tl, r) = sm_R T_L_restore (b, 4, (V, o), l0 :: some (.inl x) :: tl, .inl x :: r) := R_iload_n rfl rfl
theorem s_L_restore_4 {b : Nat} {V : Nat → Nat → Int32} {o : Int64} {ls : sm_L} {r : List sm_V} {k0 i0 : Nat} {a1 : Int32} (h : r.length ≤ 4) (hb : 2 ≤ b) : sm_R T_L_restore (b, 4, (V, o), ls, .inl a1 :: .inr (.inr (9, k0, i0)) :: r) = sm_k2 (F_X9_restore (V, o) [.inr (.inr (9, k0, i0)), .inl a1]) (fun M1 v => sm_R T_L_restore ((b - 2), 7, M1, ls, v.toList ++ r)) (fun M1 e => if e = 3 then (sm_g (sm_lk ls 3 = true) (sm_R T_L_restore ((b - 2), 13, M1, ls.set 3 none, []))) else if e = 2 then (sm_g (sm_lk ls 3 = true) (sm_R T_L_restore ((b - 2), 16, M1, ls.set 3 none, []))) else none) := by
  have h9 := R_callH (T := T_L_restore) (b := b) (pc := 4) (V := V) (o := o) (ls := ls) (r := r) (x := 109) (as := [.inr (.inr (9, k0, i0)), .inl a1]) rfl rfl rfl h hb ⟨rfl, rfl⟩ (by decide)
  refine h9.trans (congrArg (sm_k2 _ _) ?_)
  funext M1 e
  by_cases h3 : e = 3
  · subst h3; rfl
  rw [if_neg h3]
  by_cases h2 : e = 2
  · subst h2; rfl
  rw [if_neg h2]
  have hn9 : sm_hnd T_L_restore 4 e = none := by
    cases hq : sm_hnd T_L_restore 4 e with
    | none => rfl
    | some q =>
      have h8 : ((4, e), q) ∈ ([((4, 3), (13, 3)), ((4, 2), (16, 3))] : List ((Nat × Nat) × (Nat × Nat))) := sm_look2 hq
      simp [h3, h2] at h8
  rw [hn9]
theorem s_L_restore_7 {b : Nat} {V : Nat → Nat → Int32} {o : Int64} {ls : sm_L} {r : List sm_V} {x : Int32} : sm_R T_L_restore (b, 7, (V, o), ls, .inl x :: r) = sm_R T_L_restore (b, 8, (V, o), ls, .inr (.inl x.toInt64) :: r) := R_i2l rfl
theorem s_L_restore_8 {b : Nat} {V : Nat → Nat → Int32} {o : Int64} {ls : sm_L} {r : List sm_V} {x : Int64} : sm_R T_L_restore (b, 8, (V, o), ls, .inr (.inl x) :: .inl 0 :: .inr (.inr (60, 0, 0)) :: r) = sm_R T_L_restore (b, 9, (V, x), ls, r) := R_lastore rfl
theorem s_L_restore_9 {b : Nat} {V : Nat → Nat → Int32} {o : Int64} {ls : sm_L} {r : List sm_V} : sm_R T_L_restore (b, 9, (V, o), ls, r) = sm_R T_L_restore (b, 18, (V, o), ls, r) := R_goto (tgt := 18) rfl (by decide)
theorem s_L_restore_13 {b : Nat} {V : Nat → Nat → Int32} {o : Int64} {ls : sm_L} {r : List sm_V} : sm_R T_L_restore (b, 13, (V, o), ls, r) = sm_R T_L_restore (b, 14, (V, o), ls, .inl 1 :: r) := R_iconst rfl (by decide)
theorem s_L_restore_14 {b : Nat} {V : Nat → Nat → Int32} {o : Int64} {ls : sm_L} {x : Int32} : sm_R T_L_restore (b, 14, (V, o), ls, [.inl x]) = some ((V, o), .ok (some (.inl x))) := R_ireturn rfl (Or.inr rfl)
theorem s_L_restore_16 {b : Nat} {V : Nat → Nat → Int32} {o : Int64} {ls : sm_L} {r : List sm_V} : sm_R T_L_restore (b, 16, (V, o), ls, r) = sm_R T_L_restore (b, 17, (V, o), ls, .inl 2 :: r) := R_iconst rfl (by decide)
theorem s_L_restore_17 {b : Nat} {V : Nat → Nat → Int32} {o : Int64} {ls : sm_L} {x : Int32} : sm_R T_L_restore (b, 17, (V, o), ls, [.inl x]) = some ((V, o), .ok (some (.inl x))) := R_ireturn rfl (Or.inr rfl)
theorem s_L_restore_18 {b : Nat} {V : Nat → Nat → Int32} {o : Int64} {ls : sm_L} {r : List sm_V} : sm_R T_L_restore (b, 18, (V, o), ls, r) = sm_R T_L_restore (b, 19, (V, o), ls, .inl 0 :: r) := R_iconst rfl (by decide)
theorem s_L_restore_19 {b : Nat} {V : Nat → Nat → Int32} {o : Int64} {ls : sm_L} {x : Int32} : sm_R T_L_restore (b, 19, (V, o), ls, [.inl x]) = some ((V, o), .ok (some (.inl x))) := R_ireturn rfl (Or.inr rfl)
