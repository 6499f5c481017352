/-! STEPS, by program -/
theorem s_L_tryAppend_0 {b : Nat} {V : Nat → Nat → Int32} {o : Int64} {tl : sm_L} {x : sm_N} {r : List sm_V} : sm_R T_L_tryAppend (b, 0, (V, o), some (.inr (.inr x)) :: tl, r) = sm_R T_L_tryAppend (b, 1, (V, o), some (.inr (.inr x)) :: tl, .inr (.inr x) :: r) := R_aload_n rfl rfl
theorem s_L_tryAppend_1 {b : Nat} {V : Nat → Nat → Int32} {o : Int64} {l0 : Option sm_V} {tl : sm_L} {x : Int32} {r : List sm_V} : sm_R T_L_tryAppend (b, 1, (V, o), l0 :: some (.inl x) :: tl, r) = sm_R T_L_tryAppend (b, 2, (V, o), l0 :: some (.inl x) :: tl, .inl x :: r) := R_iload_n rfl rfl
theorem s_L_tryAppend_2 {b : Nat} {V : Nat → Nat → Int32} {o : Int64} {ls : sm_L} {r : List sm_V} {k0 i0 : Nat} {a1 : Int32} (h : r.length ≤ 4) (hb : 1 ≤ b) : sm_R T_L_tryAppend (b, 2, (V, o), ls, .inl a1 :: .inr (.inr (9, k0, i0)) :: r) = sm_k2 (F_X9_append (V, o) [.inr (.inr (9, k0, i0)), .inl a1]) (fun M1 v => sm_R T_L_tryAppend ((b - 1), 5, M1, ls, v.toList ++ r)) (fun M1 e => if e = 1 then (sm_g (sm_lk ls 2 = true) (sm_R T_L_tryAppend ((b - 1), 7, M1, ls.set 2 none, []))) else if e = 2 then (sm_g (sm_lk ls 2 = true) (sm_R T_L_tryAppend ((b - 1), 11, M1, ls.set 2 none, []))) else none) := by
  have h9 := R_callH (T := T_L_tryAppend) (b := b) (pc := 2) (V := V) (o := o) (ls := ls) (r := r) (x := 7) (as := [.inr (.inr (9, k0, i0)), .inl a1]) rfl rfl rfl h hb ⟨rfl, rfl⟩ (by decide)
  refine h9.trans (congrArg (sm_k2 _ _) ?_)
  funext M1 e
  by_cases h1 : e = 1
  · subst h1; rfl
  rw [if_neg h1]
  by_cases h2 : e = 2
  · subst h2; rfl
  rw [if_neg h2]
  have hn9 : sm_hnd T_L_tryAppend 2 e = none := by
    cases hq : sm_hnd T_L_tryAppend 2 e with
    | none => rfl
    | some q =>
      have h8 : ((2, e), q) ∈ ([((2, 1), (7, 2)), ((2, 2), (11, 2))] : List ((Nat × Nat) × (Nat × Nat))) := sm_look2 hq
      simp [h1, h2] at h8
  rw [hn9]
theorem s_L_tryAppend_5 {b : Nat} {V : Nat → Nat → Int32} {o : Int64} {ls : sm_L} {x : Int32} : sm_R T_L_tryAppend (b, 5, (V, o), ls, [.inl x]) = some ((V, o), .ok (some (.inl x))) := R_ireturn rfl (Or.inr rfl)
theorem s_L_tryAppend_7 {b : Nat} {V : Nat → Nat → Int32} {o : Int64} {ls : sm_L} {r : List sm_V} : sm_R T_L_tryAppend (b, 7, (V, o), ls, r) = sm_R T_L_tryAppend (b, 9, (V, o), ls, .inl (-99002) :: r) := R_ldc rfl rfl
theorem s_L_tryAppend_9 {b : Nat} {V : Nat → Nat → Int32} {o : Int64} {ls : sm_L} {x : Int32} : sm_R T_L_tryAppend (b, 9, (V, o), ls, [.inl x]) = some ((V, o), .ok (some (.inl x))) := R_ireturn rfl (Or.inr rfl)
theorem s_L_tryAppend_11 {b : Nat} {V : Nat → Nat → Int32} {o : Int64} {ls : sm_L} {r : List sm_V} : sm_R T_L_tryAppend (b, 11, (V, o), ls, r) = sm_R T_L_tryAppend (b, 13, (V, o), ls, .inl (-99003) :: r) := R_ldc rfl rfl
theorem s_L_tryAppend_13 {b : Nat} {V : Nat → Nat → Int32} {o : Int64} {ls : sm_L} {x : Int32} : sm_R T_L_tryAppend (b, 13, (V, o), ls, [.inl x]) = some ((V, o), .ok (some (.inl x))) := R_ireturn rfl (Or.inr rfl)
theorem s_L_tryLoad_0 {b : Nat} {V : Nat → Nat → Int32} {o : Int64} {tl : sm_L} {x : sm_N} {r : List sm_V} : sm_R T_L_tryLoad (b, 0, (V, o), some (.inr (.inr x)) :: tl, r) = sm_R T_L_tryLoad (b, 1, (V, o), some (.inr (.inr x)) :: tl, .inr (.inr x) :: r) := R_aload_n rfl rfl
theorem s_L_tryLoad_1 {b : Nat} {V : Nat → Nat → Int32} {o : Int64} {ls : sm_L} {r : List sm_V} {k0 i0 : Nat} (h : r.length ≤ 4) (hb : 1 ≤ b) : sm_R T_L_tryLoad (b, 1, (V, o), ls, .inr (.inr (9, k0, i0)) :: r) = sm_k2 (F_X9_load (V, o) [.inr (.inr (9, k0, i0))]) (fun M1 v => sm_R T_L_tryLoad ((b - 1), 4, M1, ls, v.toList ++ r)) (fun M1 e => if e = 2 then (sm_g (sm_lk ls 1 = true) (sm_R T_L_tryLoad ((b - 1), 6, M1, ls.set 1 none, []))) else none) := by
  have h9 := R_callH (T := T_L_tryLoad) (b := b) (pc := 1) (V := V) (o := o) (ls := ls) (r := r) (x := 19) (as := [.inr (.inr (9, k0, i0))]) rfl rfl rfl h hb ⟨rfl, rfl⟩ (by decide)
  refine h9.trans (congrArg (sm_k2 _ _) ?_)
  funext M1 e
  by_cases h2 : e = 2
  · subst h2; rfl
  rw [if_neg h2]
  have hn9 : sm_hnd T_L_tryLoad 1 e = none := by
    cases hq : sm_hnd T_L_tryLoad 1 e with
    | none => rfl
    | some q =>
      have h8 : ((1, e), q) ∈ ([((1, 2), (6, 1))] : List ((Nat × Nat) × (Nat × Nat))) := sm_look2 hq
      simp [h2] at h8
  rw [hn9]
theorem s_L_tryLoad_4 {b : Nat} {V : Nat → Nat → Int32} {o : Int64} {ls : sm_L} {x : Int32} : sm_R T_L_tryLoad (b, 4, (V, o), ls, [.inl x]) = some ((V, o), .ok (some (.inl x))) := R_ireturn rfl (Or.inr rfl)
theorem s_L_tryLoad_6 {b : Nat} {V : Nat → Nat → Int32} {o : Int64} {ls : sm_L} {r : List sm_V} : sm_R T_L_tryLoad (b, 6, (V, o), ls, r) = sm_R T_L_tryLoad (b, 8, (V, o), ls, .inl (-99003) :: r) := R_ldc rfl rfl
theorem s_L_tryLoad_8 {b : Nat} {V : Nat → Nat → Int32} {o : Int64} {ls : sm_L} {x : Int32} : sm_R T_L_tryLoad (b, 8, (V, o), ls, [.inl x]) = some ((V, o), .ok (some (.inl x))) := R_ireturn rfl (Or.inr rfl)
theorem s_L_tryAbout_0 {b : Nat} {V : Nat → Nat → Int32} {o : Int64} {tl : sm_L} {x : sm_N} {r : List sm_V} : sm_R T_L_tryAbout (b, 0, (V, o), some (.inr (.inr x)) :: tl, r) = sm_R T_L_tryAbout (b, 1, (V, o), some (.inr (.inr x)) :: tl, .inr (.inr x) :: r) := R_aload_n rfl rfl
theorem s_L_tryAbout_1 {b : Nat} {V : Nat → Nat → Int32} {o : Int64} {l0 : Option sm_V} {tl : sm_L} {x : Int32} {r : List sm_V} : sm_R T_L_tryAbout (b, 1, (V, o), l0 :: some (.inl x) :: tl, r) = sm_R T_L_tryAbout (b, 2, (V, o), l0 :: some (.inl x) :: tl, .inl x :: r) := R_iload_n rfl rfl
theorem s_L_tryAbout_2 {b : Nat} {V : Nat → Nat → Int32} {o : Int64} {ls : sm_L} {r : List sm_V} {k0 i0 : Nat} {a1 : Int32} (h : r.length ≤ 4) (hb : 1 ≤ b) : sm_R T_L_tryAbout (b, 2, (V, o), ls, .inl a1 :: .inr (.inr (9, k0, i0)) :: r) = sm_k2 (F_X9_about (V, o) [.inr (.inr (9, k0, i0)), .inl a1]) (fun M1 v => sm_R T_L_tryAbout ((b - 1), 5, M1, ls, v.toList ++ r)) (fun M1 e => if e = 1 then (sm_g (sm_lk ls 2 = true) (sm_R T_L_tryAbout ((b - 1), 7, M1, ls.set 2 none, []))) else none) := by
  have h9 := R_callH (T := T_L_tryAbout) (b := b) (pc := 2) (V := V) (o := o) (ls := ls) (r := r) (x := 23) (as := [.inr (.inr (9, k0, i0)), .inl a1]) rfl rfl rfl h hb ⟨rfl, rfl⟩ (by decide)
  refine h9.trans (congrArg (sm_k2 _ _) ?_)
  funext M1 e
  by_cases h1 : e = 1
  · subst h1; rfl
  rw [if_neg h1]
  have hn9 : sm_hnd T_L_tryAbout 2 e = none := by
    cases hq : sm_hnd T_L_tryAbout 2 e with
    | none => rfl
    | some q =>
      have h8 : ((2, e), q) ∈ ([((2, 1), (7, 2))] : List ((Nat × Nat) × (Nat × Nat))) := sm_look2 hq
      simp [h1] at h8
  rw [hn9]
theorem s_L_tryAbout_5 {b : Nat} {V : Nat → Nat → Int32} {o : Int64} {ls : sm_L} {x : Int32} : sm_R T_L_tryAbout (b, 5, (V, o), ls, [.inl x]) = some ((V, o), .ok (some (.inl x))) := R_ireturn rfl (Or.inr rfl)
theorem s_L_tryAbout_7 {b : Nat} {V : Nat → Nat → Int32} {o : Int64} {ls : sm_L} {r : List sm_V} : sm_R T_L_tryAbout (b, 7, (V, o), ls, r) = sm_R T_L_tryAbout (b, 9, (V, o), ls, .inl (-99002) :: r) := R_ldc rfl rfl
theorem s_L_tryAbout_9 {b : Nat} {V : Nat → Nat → Int32} {o : Int64} {ls : sm_L} {x : Int32} : sm_R T_L_tryAbout (b, 9, (V, o), ls, [.inl x]) = some ((V, o), .ok (some (.inl x))) := R_ireturn rfl (Or.inr rfl)
theorem s_L_trySlope_0 {b : Nat} {V : Nat → Nat → Int32} {o : Int64} {tl : sm_L} {x : sm_N} {r : List sm_V} : sm_R T_L_trySlope (b, 0, (V, o), some (.inr (.inr x)) :: tl, r) = sm_R T_L_trySlope (b, 1, (V, o), some (.inr (.inr x)) :: tl, .inr (.inr x) :: r) := R_aload_n rfl rfl
theorem s_L_trySlope_1 {b : Nat} {V : Nat → Nat → Int32} {o : Int64} {l0 : Option sm_V} {tl : sm_L} {x : Int32} {r : List sm_V} : sm_R T_L_trySlope (b, 1, (V, o), l0 :: some (.inl x) :: tl, r) = sm_R T_L_trySlope (b, 2, (V, o), l0 :: some (.inl x) :: tl, .inl x :: r) := R_iload_n rfl rfl
theorem s_L_trySlope_2 {b : Nat} {V : Nat → Nat → Int32} {o : Int64} {l0 l1 : Option sm_V} {tl : sm_L} {x : Int32} {r : List sm_V} : sm_R T_L_trySlope (b, 2, (V, o), l0 :: l1 :: some (.inl x) :: tl, r) = sm_R T_L_trySlope (b, 3, (V, o), l0 :: l1 :: some (.inl x) :: tl, .inl x :: r) := R_iload_n rfl rfl
theorem s_L_trySlope_3 {b : Nat} {V : Nat → Nat → Int32} {o : Int64} {ls : sm_L} {r : List sm_V} {k0 i0 : Nat} {a1 : Int32} {a2 : Int32} (h : r.length ≤ 4) (hb : 2 ≤ b) : sm_R T_L_trySlope (b, 3, (V, o), ls, .inl a2 :: .inl a1 :: .inr (.inr (9, k0, i0)) :: r) = sm_k2 (F_X9_slope (V, o) [.inr (.inr (9, k0, i0)), .inl a1, .inl a2]) (fun M1 v => sm_R T_L_trySlope ((b - 2), 6, M1, ls, v.toList ++ r)) (fun M1 e => if e = 3 then (sm_g (sm_lk ls 3 = true) (sm_R T_L_trySlope ((b - 2), 8, M1, ls.set 3 none, []))) else if e = 1 then (sm_g (sm_lk ls 3 = true) (sm_R T_L_trySlope ((b - 2), 12, M1, ls.set 3 none, []))) else none) := by
  have h9 := R_callH (T := T_L_trySlope) (b := b) (pc := 3) (V := V) (o := o) (ls := ls) (r := r) (x := 26) (as := [.inr (.inr (9, k0, i0)), .inl a1, .inl a2]) rfl rfl rfl h hb ⟨rfl, rfl⟩ (by decide)
  refine h9.trans (congrArg (sm_k2 _ _) ?_)
  funext M1 e
  by_cases h3 : e = 3
  · subst h3; rfl
  rw [if_neg h3]
  by_cases h1 : e = 1
  · subst h1; rfl
  rw [if_neg h1]
  have hn9 : sm_hnd T_L_trySlope 3 e = none := by
    cases hq : sm_hnd T_L_trySlope 3 e with
    | none => rfl
    | some q =>
      have h8 : ((3, e), q) ∈ ([((3, 3), (8, 3)), ((3, 1), (12, 3))] : List ((Nat × Nat) × (Nat × Nat))) := sm_look2 hq
      simp [h3, h1] at h8
  rw [hn9]
theorem s_L_trySlope_6 {b : Nat} {V : Nat → Nat → Int32} {o : Int64} {ls : sm_L} {x : Int32} : sm_R T_L_trySlope (b, 6, (V, o), ls, [.inl x]) = some ((V, o), .ok (some (.inl x))) := R_ireturn rfl (Or.inr rfl)
theorem s_L_trySlope_8 {b : Nat} {V : Nat → Nat → Int32} {o : Int64} {ls : sm_L} {r : List sm_V} : sm_R T_L_trySlope (b, 8, (V, o), ls, r) = sm_R T_L_trySlope (b, 10, (V, o), ls, .inl (-99001) :: r) := R_ldc rfl rfl
theorem s_L_trySlope_10 {b : Nat} {V : Nat → Nat → Int32} {o : Int64} {ls : sm_L} {x : Int32} : sm_R T_L_trySlope (b, 10, (V, o), ls, [.inl x]) = some ((V, o), .ok (some (.inl x))) := R_ireturn rfl (Or.inr rfl)
theorem s_L_trySlope_12 {b : Nat} {V : Nat → Nat → Int32} {o : Int64} {ls : sm_L} {r : List sm_V} : sm_R T_L_trySlope (b, 12, (V, o), ls, r) = sm_R T_L_trySlope (b, 14, (V, o), ls, .inl (-99002) :: r) := R_ldc rfl rfl
theorem s_L_trySlope_14 {b : Nat} {V : Nat → Nat → Int32} {o : Int64} {ls : sm_L} {x : Int32} : sm_R T_L_trySlope (b, 14, (V, o), ls, [.inl x]) = some ((V, o), .ok (some (.inl x))) := R_ireturn rfl (Or.inr rfl)
theorem s_L_tryGun_0 {b : Nat} {V : Nat → Nat → Int32} {o : Int64} {tl : sm_L} {x : sm_N} {r : List sm_V} : sm_R T_L_tryGun (b, 0, (V, o), some (.inr (.inr x)) :: tl, r) = sm_R T_L_tryGun (b, 1, (V, o), some (.inr (.inr x)) :: tl, .inr (.inr x) :: r) := R_aload_n rfl rfl
theorem s_L_tryGun_1 {b : Nat} {V : Nat → Nat → Int32} {o : Int64} {l0 : Option sm_V} {tl : sm_L} {x : Int32} {r : List sm_V} : sm_R T_L_tryGun (b, 1, (V, o), l0 :: some (.inl x) :: tl, r) = sm_R T_L_tryGun (b, 2, (V, o), l0 :: some (.inl x) :: tl, .inl x :: r) := R_iload_n rfl rfl
theorem s_L_tryGun_2 {b : Nat} {V : Nat → Nat → Int32} {o : Int64} {l0 l1 : Option sm_V} {tl : sm_L} {x : Int32} {r : List sm_V} : sm_R T_L_tryGun (b, 2, (V, o), l0 :: l1 :: some (.inl x) :: tl, r) = sm_R T_L_tryGun (b, 3, (V, o), l0 :: l1 :: some (.inl x) :: tl, .inl x :: r) := R_iload_n rfl rfl
theorem s_L_tryGun_3 {b : Nat} {V : Nat → Nat → Int32} {o : Int64} {ls : sm_L} {r : List sm_V} {k0 i0 : Nat} {a1 : Int32} {a2 : Int32} (h : r.length ≤ 4) (hb : 2 ≤ b) : sm_R T_L_tryGun (b, 3, (V, o), ls, .inl a2 :: .inl a1 :: .inr (.inr (9, k0, i0)) :: r) = sm_k2 (F_X9_gun (V, o) [.inr (.inr (9, k0, i0)), .inl a1, .inl a2]) (fun M1 v => sm_R T_L_tryGun ((b - 2), 6, M1, ls, v.toList ++ r)) (fun M1 e => if e = 3 then (sm_g (sm_lk ls 3 = true) (sm_R T_L_tryGun ((b - 2), 8, M1, ls.set 3 none, []))) else if e = 1 then (sm_g (sm_lk ls 3 = true) (sm_R T_L_tryGun ((b - 2), 12, M1, ls.set 3 none, []))) else none) := by
  have h9 := R_callH (T := T_L_tryGun) (b := b) (pc := 3) (V := V) (o := o) (ls := ls) (r := r) (x := 33) (as := [.inr (.inr (9, k0, i0)), .inl a1, .inl a2]) rfl rfl rfl h hb ⟨rfl, rfl⟩ (by decide)
  refine h9.trans (congrArg (sm_k2 _ _) ?_)
  funext M1 e
  by_cases h3 : e = 3
  · subst h3; rfl
  rw [if_neg h3]
  by_cases h1 : e = 1
  · subst h1; rfl
  rw [if_neg h1]
  have hn9 : sm_hnd T_L_tryGun 3 e = none := by
    cases hq : sm_hnd T_L_tryGun 3 e with
    | none => rfl
    | some q =>
      have h8 : ((3, e), q) ∈ ([((3, 3), (8, 3)), ((3, 1), (12, 3))] : List ((Nat × Nat) × (Nat × Nat))) := sm_look2 hq
      simp [h3, h1] at h8
  rw [hn9]
theorem s_L_tryGun_6 {b : Nat} {V : Nat → Nat → Int32} {o : Int64} {ls : sm_L} {x : Int32} : sm_R T_L_tryGun (b, 6, (V, o), ls, [.inl x]) = some ((V, o), .ok (some (.inl x))) := R_ireturn rfl (Or.inr rfl)
theorem s_L_tryGun_8 {b : Nat} {V : Nat → Nat → Int32} {o : Int64} {ls : sm_L} {r : List sm_V} : sm_R T_L_tryGun (b, 8, (V, o), ls, r) = sm_R T_L_tryGun (b, 10, (V, o), ls, .inl (-99001) :: r) := R_ldc rfl rfl
theorem s_L_tryGun_10 {b : Nat} {V : Nat → Nat → Int32} {o : Int64} {ls : sm_L} {x : Int32} : sm_R T_L_tryGun (b, 10, (V, o), ls, [.inl x]) = some ((V, o), .ok (some (.inl x))) := R_ireturn rfl (Or.inr rfl)
theorem s_L_tryGun_12 {b : Nat} {V : Nat → Nat → Int32} {o : Int64} {ls : sm_L} {r : List sm_V} : sm_R T_L_tryGun (b, 12, (V, o), ls, r) = sm_R T_L_tryGun (b, 14, (V, o), ls, .inl (-99002) :: r) := R_ldc rfl rfl
theorem s_L_tryGun_14 {b : Nat} {V : Nat → Nat → Int32} {o : Int64} {ls : sm_L} {x : Int32} : sm_R T_L_tryGun (b, 14, (V, o), ls, [.inl x]) = some ((V, o), .ok (some (.inl x))) := R_ireturn rfl (Or.inr rfl)
theorem s_L_tryAccount_0 {b : Nat} {V : Nat → Nat → Int32} {o : Int64} {tl : sm_L} {x : sm_N} {r : List sm_V} : sm_R T_L_tryAccount (b, 0, (V, o), some (.inr (.inr x)) :: tl, r) = sm_R T_L_tryAccount (b, 1, (V, o), some (.inr (.inr x)) :: tl, .inr (.inr x) :: r) := R_aload_n rfl rfl
theorem s_L_tryAccount_1 {b : Nat} {V : Nat → Nat → Int32} {o : Int64} {l0 : Option sm_V} {tl : sm_L} {x : Int32} {r : List sm_V} : sm_R T_L_tryAccount (b, 1, (V, o), l0 :: some (.inl x) :: tl, r) = sm_R T_L_tryAccount (b, 2, (V, o), l0 :: some (.inl x) :: tl, .inl x :: r) := R_iload_n rfl rfl
theorem s_L_tryAccount_2 {b : Nat} {V : Nat → Nat → Int32} {o : Int64} {ls : sm_L} {r : List sm_V} {k0 i0 : Nat} {a1 : Int32} (h : r.length ≤ 4) (hb : 1 ≤ b) : sm_R T_L_tryAccount (b, 2, (V, o), ls, .inl a1 :: .inr (.inr (9, k0, i0)) :: r) = sm_k2 (F_X9_account (V, o) [.inr (.inr (9, k0, i0)), .inl a1]) (fun M1 v => sm_R T_L_tryAccount ((b - 1), 5, M1, ls, v.toList ++ r)) (fun M1 e => if e = 1 then (sm_g (sm_lk ls 2 = true) (sm_R T_L_tryAccount ((b - 1), 7, M1, ls.set 2 none, []))) else none) := by
  have h9 := R_callH (T := T_L_tryAccount) (b := b) (pc := 2) (V := V) (o := o) (ls := ls) (r := r) (x := 36) (as := [.inr (.inr (9, k0, i0)), .inl a1]) rfl rfl rfl h hb ⟨rfl, rfl⟩ (by decide)
  refine h9.trans (congrArg (sm_k2 _ _) ?_)
  funext M1 e
  by_cases h1 : e = 1
  · subst h1; rfl
  rw [if_neg h1]
  have hn9 : sm_hnd T_L_tryAccount 2 e = none := by
    cases hq : sm_hnd T_L_tryAccount 2 e with
    | none => rfl
    | some q =>
      have h8 : ((2, e), q) ∈ ([((2, 1), (7, 2))] : List ((Nat × Nat) × (Nat × Nat))) := sm_look2 hq
      simp [h1] at h8
  rw [hn9]
theorem s_L_tryAccount_5 {b : Nat} {V : Nat → Nat → Int32} {o : Int64} {ls : sm_L} {x : Int32} : sm_R T_L_tryAccount (b, 5, (V, o), ls, [.inl x]) = some ((V, o), .ok (some (.inl x))) := R_ireturn rfl (Or.inr rfl)
theorem s_L_tryAccount_7 {b : Nat} {V : Nat → Nat → Int32} {o : Int64} {ls : sm_L} {r : List sm_V} : sm_R T_L_tryAccount (b, 7, (V, o), ls, r) = sm_R T_L_tryAccount (b, 9, (V, o), ls, .inl (-99002) :: r) := R_ldc rfl rfl
theorem s_L_tryAccount_9 {b : Nat} {V : Nat → Nat → Int32} {o : Int64} {ls : sm_L} {x : Int32} : sm_R T_L_tryAccount (b, 9, (V, o), ls, [.inl x]) = some ((V, o), .ok (some (.inl x))) := R_ireturn rfl (Or.inr rfl)
theorem s_L_tryBook_0 {b : Nat} {V : Nat → Nat → Int32} {o : Int64} {tl : sm_L} {x : sm_N} {r : List sm_V} : sm_R T_L_tryBook (b, 0, (V, o), some (.inr (.inr x)) :: tl, r) = sm_R T_L_tryBook (b, 1, (V, o), some (.inr (.inr x)) :: tl, .inr (.inr x) :: r) := R_aload_n rfl rfl
theorem s_L_tryBook_1 {b : Nat} {V : Nat → Nat → Int32} {o : Int64} {l0 : Option sm_V} {tl : sm_L} {x : Int32} {r : List sm_V} : sm_R T_L_tryBook (b, 1, (V, o), l0 :: some (.inl x) :: tl, r) = sm_R T_L_tryBook (b, 2, (V, o), l0 :: some (.inl x) :: tl, .inl x :: r) := R_iload_n rfl rfl
theorem s_L_tryBook_2 {b : Nat} {V : Nat → Nat → Int32} {o : Int64} {l0 l1 : Option sm_V} {tl : sm_L} {x : Int32} {r : List sm_V} : sm_R T_L_tryBook (b, 2, (V, o), l0 :: l1 :: some (.inl x) :: tl, r) = sm_R T_L_tryBook (b, 3, (V, o), l0 :: l1 :: some (.inl x) :: tl, .inl x :: r) := R_iload_n rfl rfl
theorem s_L_tryBook_3 {b : Nat} {V : Nat → Nat → Int32} {o : Int64} {ls : sm_L} {r : List sm_V} {k0 i0 : Nat} {a1 : Int32} {a2 : Int32} (h : r.length ≤ 4) (hb : 1 ≤ b) : sm_R T_L_tryBook (b, 3, (V, o), ls, .inl a2 :: .inl a1 :: .inr (.inr (9, k0, i0)) :: r) = sm_k2 (F_X9_book (V, o) [.inr (.inr (9, k0, i0)), .inl a1, .inl a2]) (fun M1 v => sm_R T_L_tryBook ((b - 1), 6, M1, ls, v.toList ++ r)) (fun M1 e => if e = 1 then (sm_g (sm_lk ls 3 = true) (sm_R T_L_tryBook ((b - 1), 8, M1, ls.set 3 none, []))) else none) := by
  have h9 := R_callH (T := T_L_tryBook) (b := b) (pc := 3) (V := V) (o := o) (ls := ls) (r := r) (x := 39) (as := [.inr (.inr (9, k0, i0)), .inl a1, .inl a2]) rfl rfl rfl h hb ⟨rfl, rfl⟩ (by decide)
  refine h9.trans (congrArg (sm_k2 _ _) ?_)
  funext M1 e
  by_cases h1 : e = 1
  · subst h1; rfl
  rw [if_neg h1]
  have hn9 : sm_hnd T_L_tryBook 3 e = none := by
    cases hq : sm_hnd T_L_tryBook 3 e with
    | none => rfl
    | some q =>
      have h8 : ((3, e), q) ∈ ([((3, 1), (8, 3))] : List ((Nat × Nat) × (Nat × Nat))) := sm_look2 hq
      simp [h1] at h8
  rw [hn9]
theorem s_L_tryBook_6 {b : Nat} {V : Nat → Nat → Int32} {o : Int64} {ls : sm_L} {x : Int32} : sm_R T_L_tryBook (b, 6, (V, o), ls, [.inl x]) = some ((V, o), .ok (some (.inl x))) := R_ireturn rfl (Or.inr rfl)
theorem s_L_tryBook_8 {b : Nat} {V : Nat → Nat → Int32} {o : Int64} {ls : sm_L} {r : List sm_V} : sm_R T_L_tryBook (b, 8, (V, o), ls, r) = sm_R T_L_tryBook (b, 10, (V, o), ls, .inl (-99002) :: r) := R_ldc rfl rfl
theorem s_L_tryBook_10 {b : Nat} {V : Nat → Nat → Int32} {o : Int64} {ls : sm_L} {x : Int32} : sm_R T_L_tryBook (b, 10, (V, o), ls, [.inl x]) = some ((V, o), .ok (some (.inl x))) := R_ireturn rfl (Or.inr rfl)
theorem s_L_tryWet_0 {b : Nat} {V : Nat → Nat → Int32} {o : Int64} {tl : sm_L} {x : sm_N} {r : List sm_V} : sm_R T_L_tryWet (b, 0, (V, o), some (.inr (.inr x)) :: tl, r) = sm_R T_L_tryWet (b, 1, (V, o), some (.inr (.inr x)) :: tl, .inr (.inr x) :: r) := R_aload_n rfl rfl
theorem s_L_tryWet_1 {b : Nat} {V : Nat → Nat → Int32} {o : Int64} {l0 : Option sm_V} {tl : sm_L} {x : Int32} {r : List sm_V} : sm_R T_L_tryWet (b, 1, (V, o), l0 :: some (.inl x) :: tl, r) = sm_R T_L_tryWet (b, 2, (V, o), l0 :: some (.inl x) :: tl, .inl x :: r) := R_iload_n rfl rfl
theorem s_L_tryWet_2 {b : Nat} {V : Nat → Nat → Int32} {o : Int64} {ls : sm_L} {r : List sm_V} {k0 i0 : Nat} {a1 : Int32} (h : r.length ≤ 4) (hb : 1 ≤ b) : sm_R T_L_tryWet (b, 2, (V, o), ls, .inl a1 :: .inr (.inr (9, k0, i0)) :: r) = sm_k2 (F_X9_wet (V, o) [.inr (.inr (9, k0, i0)), .inl a1]) (fun M1 v => sm_R T_L_tryWet ((b - 1), 5, M1, ls, v.toList ++ r)) (fun M1 e => if e = 1 then (sm_g (sm_lk ls 2 = true) (sm_R T_L_tryWet ((b - 1), 7, M1, ls.set 2 none, []))) else none) := by
  have h9 := R_callH (T := T_L_tryWet) (b := b) (pc := 2) (V := V) (o := o) (ls := ls) (r := r) (x := 42) (as := [.inr (.inr (9, k0, i0)), .inl a1]) rfl rfl rfl h hb ⟨rfl, rfl⟩ (by decide)
  refine h9.trans (congrArg (sm_k2 _ _) ?_)
  funext M1 e
  by_cases h1 : e = 1
  · subst h1; rfl
  rw [if_neg h1]
  have hn9 : sm_hnd T_L_tryWet 2 e = none := by
    cases hq : sm_hnd T_L_tryWet 2 e with
    | none => rfl
    | some q =>
      have h8 : ((2, e), q) ∈ ([((2, 1), (7, 2))] : List ((Nat × Nat) × (Nat × Nat))) := sm_look2 hq
      simp [h1] at h8
  rw [hn9]
theorem s_L_tryWet_5 {b : Nat} {V : Nat → Nat → Int32} {o : Int64} {ls : sm_L} {x : Int32} : sm_R T_L_tryWet (b, 5, (V, o), ls, [.inl x]) = some ((V, o), .ok (some (.inl x))) := R_ireturn rfl (Or.inr rfl)
theorem s_L_tryWet_7 {b : Nat} {V : Nat → Nat → Int32} {o : Int64} {ls : sm_L} {r : List sm_V} : sm_R T_L_tryWet (b, 7, (V, o), ls, r) = sm_R T_L_tryWet (b, 9, (V, o), ls, .inl (-99002) :: r) := R_ldc rfl rfl
theorem s_L_tryWet_9 {b : Nat} {V : Nat → Nat → Int32} {o : Int64} {ls : sm_L} {x : Int32} : sm_R T_L_tryWet (b, 9, (V, o), ls, [.inl x]) = some ((V, o), .ok (some (.inl x))) := R_ireturn rfl (Or.inr rfl)
theorem s_L_tryPass_0 {b : Nat} {V : Nat → Nat → Int32} {o : Int64} {tl : sm_L} {x : sm_N} {r : List sm_V} : sm_R T_L_tryPass (b, 0, (V, o), some (.inr (.inr x)) :: tl, r) = sm_R T_L_tryPass (b, 1, (V, o), some (.inr (.inr x)) :: tl, .inr (.inr x) :: r) := R_aload_n rfl rfl
theorem s_L_tryPass_1 {b : Nat} {V : Nat → Nat → Int32} {o : Int64} {l0 : Option sm_V} {tl : sm_L} {x : Int32} {r : List sm_V} : sm_R T_L_tryPass (b, 1, (V, o), l0 :: some (.inl x) :: tl, r) = sm_R T_L_tryPass (b, 2, (V, o), l0 :: some (.inl x) :: tl, .inl x :: r) := R_iload_n rfl rfl
theorem s_L_tryPass_2 {b : Nat} {V : Nat → Nat → Int32} {o : Int64} {ls : sm_L} {r : List sm_V} {k0 i0 : Nat} {a1 : Int32} (h : r.length ≤ 4) (hb : 1 ≤ b) : sm_R T_L_tryPass (b, 2, (V, o), ls, .inl a1 :: .inr (.inr (9, k0, i0)) :: r) = sm_k2 (F_X9_pass (V, o) [.inr (.inr (9, k0, i0)), .inl a1]) (fun M1 v => sm_R T_L_tryPass ((b - 1), 5, M1, ls, v.toList ++ r)) (fun M1 e => if e = 1 then (sm_g (sm_lk ls 2 = true) (sm_R T_L_tryPass ((b - 1), 7, M1, ls.set 2 none, []))) else none) := by
  have h9 := R_callH (T := T_L_tryPass) (b := b) (pc := 2) (V := V) (o := o) (ls := ls) (r := r) (x := 45) (as := [.inr (.inr (9, k0, i0)), .inl a1]) rfl rfl rfl h hb ⟨rfl, rfl⟩ (by decide)
  refine h9.trans (congrArg (sm_k2 _ _) ?_)
  funext M1 e
  by_cases h1 : e = 1
  · subst h1; rfl
  rw [if_neg h1]
  have hn9 : sm_hnd T_L_tryPass 2 e = none := by
    cases hq : sm_hnd T_L_tryPass 2 e with
    | none => rfl
    | some q =>
      have h8 : ((2, e), q) ∈ ([((2, 1), (7, 2))] : List ((Nat × Nat) × (Nat × Nat))) := sm_look2 hq
      simp [h1] at h8
  rw [hn9]
theorem s_L_tryPass_5 {b : Nat} {V : Nat → Nat → Int32} {o : Int64} {ls : sm_L} {x : Int32} : sm_R T_L_tryPass (b, 5, (V, o), ls, [.inl x]) = some ((V, o), .ok (some (.inl x))) := R_ireturn rfl (Or.inr rfl)
theorem s_L_tryPass_7 {b : Nat} {V : Nat → Nat → Int32} {o : Int64} {ls : sm_L} {r : List sm_V} : sm_R T_L_tryPass (b, 7, (V, o), ls, r) = sm_R T_L_tryPass (b, 9, (V, o), ls, .inl (-99002) :: r) := R_ldc rfl rfl
theorem s_L_tryPass_9 {b : Nat} {V : Nat → Nat → Int32} {o : Int64} {ls : sm_L} {x : Int32} : sm_R T_L_tryPass (b, 9, (V, o), ls, [.inl x]) = some ((V, o), .ok (some (.inl x))) := R_ireturn rfl (Or.inr rfl)
theorem s_L_trySet_0 {b : Nat} {V : Nat → Nat → Int32} {o : Int64} {tl : sm_L} {x : sm_N} {r : List sm_V} : sm_R T_L_trySet (b, 0, (V, o), some (.inr (.inr x)) :: tl, r) = sm_R T_L_trySet (b, 1, (V, o), some (.inr (.inr x)) :: tl, .inr (.inr x) :: r) := R_aload_n rfl rfl
theorem s_L_trySet_1 {b : Nat} {V : Nat → Nat → Int32} {o : Int64} {l0 : Option sm_V} {tl : sm_L} {x : Int32} {r : List sm_V} : sm_R T_L_trySet (b, 1, (V, o), l0 :: some (.inl x) :: tl, r) = sm_R T_L_trySet (b, 2, (V, o), l0 :: some (.inl x) :: tl, .inl x :: r) := R_iload_n rfl rfl
theorem s_L_trySet_2 {b : Nat} {V : Nat → Nat → Int32} {o : Int64} {l0 l1 : Option sm_V} {tl : sm_L} {x : Int32} {r : List sm_V} : sm_R T_L_trySet (b, 2, (V, o), l0 :: l1 :: some (.inl x) :: tl, r) = sm_R T_L_trySet (b, 3, (V, o), l0 :: l1 :: some (.inl x) :: tl, .inl x :: r) := R_iload_n rfl rfl
theorem s_L_trySet_3 {b : Nat} {V : Nat → Nat → Int32} {o : Int64} {ls : sm_L} {r : List sm_V} {k0 i0 : Nat} {a1 : Int32} {a2 : Int32} (h : r.length ≤ 4) (hb : 1 ≤ b) : sm_R T_L_trySet (b, 3, (V, o), ls, .inl a2 :: .inl a1 :: .inr (.inr (9, k0, i0)) :: r) = sm_k2 (F_X9_set (V, o) [.inr (.inr (9, k0, i0)), .inl a1, .inl a2]) (fun M1 v => sm_R T_L_trySet ((b - 1), 6, M1, ls, v.toList ++ r)) (fun M1 e => if e = 1 then (sm_g (sm_lk ls 3 = true) (sm_R T_L_trySet ((b - 1), 8, M1, ls.set 3 none, []))) else none) := by
  have h9 := R_callH (T := T_L_trySet) (b := b) (pc := 3) (V := V) (o := o) (ls := ls) (r := r) (x := 48) (as := [.inr (.inr (9, k0, i0)), .inl a1, .inl a2]) rfl rfl rfl h hb ⟨rfl, rfl⟩ (by decide)
  refine h9.trans (congrArg (sm_k2 _ _) ?_)
  funext M1 e
  by_cases h1 : e = 1
  · subst h1; rfl
  rw [if_neg h1]
  have hn9 : sm_hnd T_L_trySet 3 e = none := by
    cases hq : sm_hnd T_L_trySet 3 e with
    | none => rfl
    | some q =>
      have h8 : ((3, e), q) ∈ ([((3, 1), (8, 3))] : List ((Nat × Nat) × (Nat × Nat))) := sm_look2 hq
      simp [h1] at h8
  rw [hn9]
theorem s_L_trySet_6 {b : Nat} {V : Nat → Nat → Int32} {o : Int64} {ls : sm_L} {x : Int32} : sm_R T_L_trySet (b, 6, (V, o), ls, [.inl x]) = some ((V, o), .ok (some (.inl x))) := R_ireturn rfl (Or.inr rfl)
theorem s_L_trySet_8 {b : Nat} {V : Nat → Nat → Int32} {o : Int64} {ls : sm_L} {r : List sm_V} : sm_R T_L_trySet (b, 8, (V, o), ls, r) = sm_R T_L_trySet (b, 10, (V, o), ls, .inl (-99002) :: r) := R_ldc rfl rfl
theorem s_L_trySet_10 {b : Nat} {V : Nat → Nat → Int32} {o : Int64} {ls : sm_L} {x : Int32} : sm_R T_L_trySet (b, 10, (V, o), ls, [.inl x]) = some ((V, o), .ok (some (.inl x))) := R_ireturn rfl (Or.inr rfl)
theorem s_L_tryFill_0 {b : Nat} {V : Nat → Nat → Int32} {o : Int64} {tl : sm_L} {x : sm_N} {r : List sm_V} : sm_R T_L_tryFill (b, 0, (V, o), some (.inr (.inr x)) :: tl, r) = sm_R T_L_tryFill (b, 1, (V, o), some (.inr (.inr x)) :: tl, .inr (.inr x) :: r) := R_aload_n rfl rfl
theorem s_L_tryFill_1 {b : Nat} {V : Nat → Nat → Int32} {o : Int64} {l0 : Option sm_V} {tl : sm_L} {x : Int32} {r : List sm_V} : sm_R T_L_tryFill (b, 1, (V, o), l0 :: some (.inl x) :: tl, r) = sm_R T_L_tryFill (b, 2, (V, o), l0 :: some (.inl x) :: tl, .inl x :: r) := R_iload_n rfl rfl
theorem s_L_tryFill_2 {b : Nat} {V : Nat → Nat → Int32} {o : Int64} {ls : sm_L} {r : List sm_V} {k0 i0 : Nat} {a1 : Int32} (h : r.length ≤ 4) (hb : 1 ≤ b) : sm_R T_L_tryFill (b, 2, (V, o), ls, .inl a1 :: .inr (.inr (9, k0, i0)) :: r) = sm_k2 (F_X9_fill (V, o) [.inr (.inr (9, k0, i0)), .inl a1]) (fun M1 v => sm_R T_L_tryFill ((b - 1), 5, M1, ls, v.toList ++ r)) (fun M1 e => if e = 1 then (sm_g (sm_lk ls 2 = true) (sm_R T_L_tryFill ((b - 1), 7, M1, ls.set 2 none, []))) else none) := by
  have h9 := R_callH (T := T_L_tryFill) (b := b) (pc := 2) (V := V) (o := o) (ls := ls) (r := r) (x := 51) (as := [.inr (.inr (9, k0, i0)), .inl a1]) rfl rfl rfl h hb ⟨rfl, rfl⟩ (by decide)
  refine h9.trans (congrArg (sm_k2 _ _) ?_)
  funext M1 e
  by_cases h1 : e = 1
  · subst h1; rfl
  rw [if_neg h1]
  have hn9 : sm_hnd T_L_tryFill 2 e = none := by
    cases hq : sm_hnd T_L_tryFill 2 e with
    | none => rfl
    | some q =>
      have h8 : ((2, e), q) ∈ ([((2, 1), (7, 2))] : List ((Nat × Nat) × (Nat × Nat))) := sm_look2 hq
      simp [h1] at h8
  rw [hn9]
theorem s_L_tryFill_5 {b : Nat} {V : Nat → Nat → Int32} {o : Int64} {ls : sm_L} {x : Int32} : sm_R T_L_tryFill (b, 5, (V, o), ls, [.inl x]) = some ((V, o), .ok (some (.inl x))) := R_ireturn rfl (Or.inr rfl)
theorem s_L_tryFill_7 {b : Nat} {V : Nat → Nat → Int32} {o : Int64} {ls : sm_L} {r : List sm_V} : sm_R T_L_tryFill (b, 7, (V, o), ls, r) = sm_R T_L_tryFill (b, 9, (V, o), ls, .inl (-99002) :: r) := R_ldc rfl rfl
theorem s_L_tryFill_9 {b : Nat} {V : Nat → Nat → Int32} {o : Int64} {ls : sm_L} {x : Int32} : sm_R T_L_tryFill (b, 9, (V, o), ls, [.inl x]) = some ((V, o), .ok (some (.inl x))) := R_ireturn rfl (Or.inr rfl)
theorem s_L_trySetWet_0 {b : Nat} {V : Nat → Nat → Int32} {o : Int64} {tl : sm_L} {x : sm_N} {r : List sm_V} : sm_R T_L_trySetWet (b, 0, (V, o), some (.inr (.inr x)) :: tl, r) = sm_R T_L_trySetWet (b, 1, (V, o), some (.inr (.inr x)) :: tl, .inr (.inr x) :: r) := R_aload_n rfl rfl
theorem s_L_trySetWet_1 {b : Nat} {V : Nat → Nat → Int32} {o : Int64} {l0 : Option sm_V} {tl : sm_L} {x : Int32} {r : List sm_V} : sm_R T_L_trySetWet (b, 1, (V, o), l0 :: some (.inl x) :: tl, r) = sm_R T_L_trySetWet (b, 2, (V, o), l0 :: some (.inl x) :: tl, .inl x :: r) := R_iload_n rfl rfl
theorem s_L_trySetWet_2 {b : Nat} {V : Nat → Nat → Int32} {o : Int64} {l0 l1 : Option sm_V} {tl : sm_L} {x : Int32} {r : List sm_V} : sm_R T_L_trySetWet (b, 2, (V, o), l0 :: l1 :: some (.inl x) :: tl, r) = sm_R T_L_trySetWet (b, 3, (V, o), l0 :: l1 :: some (.inl x) :: tl, .inl x :: r) := R_iload_n rfl rfl
theorem s_L_trySetWet_3 {b : Nat} {V : Nat → Nat → Int32} {o : Int64} {ls : sm_L} {r : List sm_V} {k0 i0 : Nat} {a1 : Int32} {a2 : Int32} (h : r.length ≤ 4) (hb : 1 ≤ b) : sm_R T_L_trySetWet (b, 3, (V, o), ls, .inl a2 :: .inl a1 :: .inr (.inr (9, k0, i0)) :: r) = sm_k2 (F_X9_setWet (V, o) [.inr (.inr (9, k0, i0)), .inl a1, .inl a2]) (fun M1 v => sm_R T_L_trySetWet ((b - 1), 6, M1, ls, v.toList ++ r)) (fun M1 e => if e = 1 then (sm_g (sm_lk ls 3 = true) (sm_R T_L_trySetWet ((b - 1), 8, M1, ls.set 3 none, []))) else none) := by
  have h9 := R_callH (T := T_L_trySetWet) (b := b) (pc := 3) (V := V) (o := o) (ls := ls) (r := r) (x := 54) (as := [.inr (.inr (9, k0, i0)), .inl a1, .inl a2]) rfl rfl rfl h hb ⟨rfl, rfl⟩ (by decide)
  refine h9.trans (congrArg (sm_k2 _ _) ?_)
  funext M1 e
  by_cases h1 : e = 1
  · subst h1; rfl
  rw [if_neg h1]
  have hn9 : sm_hnd T_L_trySetWet 3 e = none := by
    cases hq : sm_hnd T_L_trySetWet 3 e with
    | none => rfl
    | some q =>
      have h8 : ((3, e), q) ∈ ([((3, 1), (8, 3))] : List ((Nat × Nat) × (Nat × Nat))) := sm_look2 hq
      simp [h1] at h8
  rw [hn9]
theorem s_L_trySetWet_6 {b : Nat} {V : Nat → Nat → Int32} {o : Int64} {ls : sm_L} {x : Int32} : sm_R T_L_trySetWet (b, 6, (V, o), ls, [.inl x]) = some ((V, o), .ok (some (.inl x))) := R_ireturn rfl (Or.inr rfl)
theorem s_L_trySetWet_8 {b : Nat} {V : Nat → Nat → Int32} {o : Int64} {ls : sm_L} {r : List sm_V} : sm_R T_L_trySetWet (b, 8, (V, o), ls, r) = sm_R T_L_trySetWet (b, 10, (V, o), ls, .inl (-99002) :: r) := R_ldc rfl rfl
theorem s_L_trySetWet_10 {b : Nat} {V : Nat → Nat → Int32} {o : Int64} {ls : sm_L} {x : Int32} : sm_R T_L_trySetWet (b, 10, (V, o), ls, [.inl x]) = some ((V, o), .ok (some (.inl x))) := R_ireturn rfl (Or.inr rfl)
theorem s_L_trySetSlope_0 {b : Nat} {V : Nat → Nat → Int32} {o : Int64} {tl : sm_L} {x : sm_N} {r : List sm_V} : sm_R T_L_trySetSlope (b, 0, (V, o), some (.inr (.inr x)) :: tl, r) = sm_R T_L_trySetSlope (b, 1, (V, o), some (.inr (.inr x)) :: tl, .inr (.inr x) :: r) := R_aload_n rfl rfl
theorem s_L_trySetSlope_1 {b : Nat} {V : Nat → Nat → Int32} {o : Int64} {l0 : Option sm_V} {tl : sm_L} {x : Int32} {r : List sm_V} : sm_R T_L_trySetSlope (b, 1, (V, o), l0 :: some (.inl x) :: tl, r) = sm_R T_L_trySetSlope (b, 2, (V, o), l0 :: some (.inl x) :: tl, .inl x :: r) := R_iload_n rfl rfl
theorem s_L_trySetSlope_2 {b : Nat} {V : Nat → Nat → Int32} {o : Int64} {l0 l1 : Option sm_V} {tl : sm_L} {x : Int32} {r : List sm_V} : sm_R T_L_trySetSlope (b, 2, (V, o), l0 :: l1 :: some (.inl x) :: tl, r) = sm_R T_L_trySetSlope (b, 3, (V, o), l0 :: l1 :: some (.inl x) :: tl, .inl x :: r) := R_iload_n rfl rfl
theorem s_L_trySetSlope_3 {b : Nat} {V : Nat → Nat → Int32} {o : Int64} {l0 l1 l2 : Option sm_V} {tl : sm_L} {x : Int32} {r : List sm_V} : sm_R T_L_trySetSlope (b, 3, (V, o), l0 :: l1 :: l2 :: some (.inl x) :: tl, r) = sm_R T_L_trySetSlope (b, 4, (V, o), l0 :: l1 :: l2 :: some (.inl x) :: tl, .inl x :: r) := R_iload_n rfl rfl
theorem s_L_trySetSlope_4 {b : Nat} {V : Nat → Nat → Int32} {o : Int64} {ls : sm_L} {r : List sm_V} {k0 i0 : Nat} {a1 : Int32} {a2 : Int32} {a3 : Int32} (h : r.length ≤ 4) (hb : 2 ≤ b) : sm_R T_L_trySetSlope (b, 4, (V, o), ls, .inl a3 :: .inl a2 :: .inl a1 :: .inr (.inr (9, k0, i0)) :: r) = sm_k2 (F_X9_setSlope (V, o) [.inr (.inr (9, k0, i0)), .inl a1, .inl a2, .inl a3]) (fun M1 v => sm_R T_L_trySetSlope ((b - 2), 7, M1, ls, v.toList ++ r)) (fun M1 e => if e = 3 then (sm_g (sm_lk ls 4 = true) (sm_R T_L_trySetSlope ((b - 2), 10, M1, ls.set 4 none, []))) else if e = 1 then (sm_g (sm_lk ls 4 = true) (sm_R T_L_trySetSlope ((b - 2), 15, M1, ls.set 4 none, []))) else none) := by
  have h9 := R_callH (T := T_L_trySetSlope) (b := b) (pc := 4) (V := V) (o := o) (ls := ls) (r := r) (x := 57) (as := [.inr (.inr (9, k0, i0)), .inl a1, .inl a2, .inl a3]) rfl rfl rfl h hb ⟨rfl, rfl⟩ (by decide)
  refine h9.trans (congrArg (sm_k2 _ _) ?_)
  funext M1 e
  by_cases h3 : e = 3
  · subst h3; rfl
  rw [if_neg h3]
  by_cases h1 : e = 1
  · subst h1; rfl
  rw [if_neg h1]
  have hn9 : sm_hnd T_L_trySetSlope 4 e = none := by
    cases hq : sm_hnd T_L_trySetSlope 4 e with
    | none => rfl
    | some q =>
      have h8 : ((4, e), q) ∈ ([((4, 3), (10, 4)), ((4, 1), (15, 4))] : List ((Nat × Nat) × (Nat × Nat))) := sm_look2 hq
      simp [h3, h1] at h8
  rw [hn9]
theorem s_L_trySetSlope_7 {b : Nat} {V : Nat → Nat → Int32} {o : Int64} {ls : sm_L} {x : Int32} : sm_R T_L_trySetSlope (b, 7, (V, o), ls, [.inl x]) = some ((V, o), .ok (some (.inl x))) := R_ireturn rfl (Or.inr rfl)
theorem s_L_trySetSlope_10 {b : Nat} {V : Nat → Nat → Int32} {o : Int64} {ls : sm_L} {r : List sm_V} : sm_R T_L_trySetSlope (b, 10, (V, o), ls, r) = sm_R T_L_trySetSlope (b, 12, (V, o), ls, .inl (-99001) :: r) := R_ldc rfl rfl
theorem s_L_trySetSlope_12 {b : Nat} {V : Nat → Nat → Int32} {o : Int64} {ls : sm_L} {x : Int32} : sm_R T_L_trySetSlope (b, 12, (V, o), ls, [.inl x]) = some ((V, o), .ok (some (.inl x))) := R_ireturn rfl (Or.inr rfl)
theorem s_L_trySetSlope_15 {b : Nat} {V : Nat → Nat → Int32} {o : Int64} {ls : sm_L} {r : List sm_V} : sm_R T_L_trySetSlope (b, 15, (V, o), ls, r) = sm_R T_L_trySetSlope (b, 17, (V, o), ls, .inl (-99002) :: r) := R_ldc rfl rfl
theorem s_L_trySetSlope_17 {b : Nat} {V : Nat → Nat → Int32} {o : Int64} {ls : sm_L} {x : Int32} : sm_R T_L_trySetSlope (b, 17, (V, o), ls, [.inl x]) = some ((V, o), .ok (some (.inl x))) := R_ireturn rfl (Or.inr rfl)
theorem s_L_tryAddSlope_0 {b : Nat} {V : Nat → Nat → Int32} {o : Int64} {tl : sm_L} {x : sm_N} {r : List sm_V} : sm_R T_L_tryAddSlope (b, 0, (V, o), some (.inr (.inr x)) :: tl, r) = sm_R T_L_tryAddSlope (b, 1, (V, o), some (.inr (.inr x)) :: tl, .inr (.inr x) :: r) := R_aload_n rfl rfl
theorem s_L_tryAddSlope_1 {b : Nat} {V : Nat → Nat → Int32} {o : Int64} {l0 : Option sm_V} {tl : sm_L} {x : Int32} {r : List sm_V} : sm_R T_L_tryAddSlope (b, 1, (V, o), l0 :: some (.inl x) :: tl, r) = sm_R T_L_tryAddSlope (b, 2, (V, o), l0 :: some (.inl x) :: tl, .inl x :: r) := R_iload_n rfl rfl
theorem s_L_tryAddSlope_2 {b : Nat} {V : Nat → Nat → Int32} {o : Int64} {l0 l1 : Option sm_V} {tl : sm_L} {x : Int32} {r : List sm_V} : sm_R T_L_tryAddSlope (b, 2, (V, o), l0 :: l1 :: some (.inl x) :: tl, r) = sm_R T_L_tryAddSlope (b, 3, (V, o), l0 :: l1 :: some (.inl x) :: tl, .inl x :: r) := R_iload_n rfl rfl
theorem s_L_tryAddSlope_3 {b : Nat} {V : Nat → Nat → Int32} {o : Int64} {l0 l1 l2 : Option sm_V} {tl : sm_L} {x : Int32} {r : List sm_V} : sm_R T_L_tryAddSlope (b, 3, (V, o), l0 :: l1 :: l2 :: some (.inl x) :: tl, r) = sm_R T_L_tryAddSlope (b, 4, (V, o), l0 :: l1 :: l2 :: some (.inl x) :: tl, .inl x :: r) := R_iload_n rfl rfl
theorem s_L_tryAddSlope_4 {b : Nat} {V : Nat → Nat → Int32} {o : Int64} {ls : sm_L} {r : List sm_V} {k0 i0 : Nat} {a1 : Int32} {a2 : Int32} {a3 : Int32} (h : r.length ≤ 4) (hb : 1 ≤ b) : sm_R T_L_tryAddSlope (b, 4, (V, o), ls, .inl a3 :: .inl a2 :: .inl a1 :: .inr (.inr (9, k0, i0)) :: r) = sm_k2 (F_X9_addSlope (V, o) [.inr (.inr (9, k0, i0)), .inl a1, .inl a2, .inl a3]) (fun M1 v => sm_R T_L_tryAddSlope ((b - 1), 7, M1, ls, v.toList ++ r)) (fun M1 e => if e = 1 then (sm_g (sm_lk ls 4 = true) (sm_R T_L_tryAddSlope ((b - 1), 10, M1, ls.set 4 none, []))) else if e = 2 then (sm_g (sm_lk ls 4 = true) (sm_R T_L_tryAddSlope ((b - 1), 15, M1, ls.set 4 none, []))) else none) := by
  have h9 := R_callH (T := T_L_tryAddSlope) (b := b) (pc := 4) (V := V) (o := o) (ls := ls) (r := r) (x := 61) (as := [.inr (.inr (9, k0, i0)), .inl a1, .inl a2, .inl a3]) rfl rfl rfl h hb ⟨rfl, rfl⟩ (by decide)
  refine h9.trans (congrArg (sm_k2 _ _) ?_)
  funext M1 e
  by_cases h1 : e = 1
  · subst h1; rfl
  rw [if_neg h1]
  by_cases h2 : e = 2
  · subst h2; rfl
  rw [if_neg h2]
  have hn9 : sm_hnd T_L_tryAddSlope 4 e = none := by
    cases hq : sm_hnd T_L_tryAddSlope 4 e with
    | none => rfl
    | some q =>
      have h8 : ((4, e), q) ∈ ([((4, 1), (10, 4)), ((4, 2), (15, 4))] : List ((Nat × Nat) × (Nat × Nat))) := sm_look2 hq
      simp [h1, h2] at h8
  rw [hn9]
theorem s_L_tryAddSlope_7 {b : Nat} {V : Nat → Nat → Int32} {o : Int64} {ls : sm_L} {x : Int32} : sm_R T_L_tryAddSlope (b, 7, (V, o), ls, [.inl x]) = some ((V, o), .ok (some (.inl x))) := R_ireturn rfl (Or.inr rfl)
theorem s_L_tryAddSlope_10 {b : Nat} {V : Nat → Nat → Int32} {o : Int64} {ls : sm_L} {r : List sm_V} : sm_R T_L_tryAddSlope (b, 10, (V, o), ls, r) = sm_R T_L_tryAddSlope (b, 12, (V, o), ls, .inl (-99002) :: r) := R_ldc rfl rfl
theorem s_L_tryAddSlope_12 {b : Nat} {V : Nat → Nat → Int32} {o : Int64} {ls : sm_L} {x : Int32} : sm_R T_L_tryAddSlope (b, 12, (V, o), ls, [.inl x]) = some ((V, o), .ok (some (.inl x))) := R_ireturn rfl (Or.inr rfl)
theorem s_L_tryAddSlope_15 {b : Nat} {V : Nat → Nat → Int32} {o : Int64} {ls : sm_L} {r : List sm_V} : sm_R T_L_tryAddSlope (b, 15, (V, o), ls, r) = sm_R T_L_tryAddSlope (b, 17, (V, o), ls, .inl (-99003) :: r) := R_ldc rfl rfl
theorem s_L_tryAddSlope_17 {b : Nat} {V : Nat → Nat → Int32} {o : Int64} {ls : sm_L} {x : Int32} : sm_R T_L_tryAddSlope (b, 17, (V, o), ls, [.inl x]) = some ((V, o), .ok (some (.inl x))) := R_ireturn rfl (Or.inr rfl)
theorem s_L_tryRemoveSlope_0 {b : Nat} {V : Nat → Nat → Int32} {o : Int64} {tl : sm_L} {x : sm_N} {r : List sm_V} : sm_R T_L_tryRemoveSlope (b, 0, (V, o), some (.inr (.inr x)) :: tl, r) = sm_R T_L_tryRemoveSlope (b, 1, (V, o), some (.inr (.inr x)) :: tl, .inr (.inr x) :: r) := R_aload_n rfl rfl
theorem s_L_tryRemoveSlope_1 {b : Nat} {V : Nat → Nat → Int32} {o : Int64} {l0 : Option sm_V} {tl : sm_L} {x : Int32} {r : List sm_V} : sm_R T_L_tryRemoveSlope (b, 1, (V, o), l0 :: some (.inl x) :: tl, r) = sm_R T_L_tryRemoveSlope (b, 2, (V, o), l0 :: some (.inl x) :: tl, .inl x :: r) := R_iload_n rfl rfl
theorem s_L_tryRemoveSlope_2 {b : Nat} {V : Nat → Nat → Int32} {o : Int64} {ls : sm_L} {r : List sm_V} {k0 i0 : Nat} {a1 : Int32} (h : r.length ≤ 4) (hb : 2 ≤ b) : sm_R T_L_tryRemoveSlope (b, 2, (V, o), ls, .inl a1 :: .inr (.inr (9, k0, i0)) :: r) = sm_k2 (F_X9_removeSlope (V, o) [.inr (.inr (9, k0, i0)), .inl a1]) (fun M1 v => sm_R T_L_tryRemoveSlope ((b - 2), 5, M1, ls, v.toList ++ r)) (fun M1 e => if e = 3 then (sm_g (sm_lk ls 2 = true) (sm_R T_L_tryRemoveSlope ((b - 2), 7, M1, ls.set 2 none, []))) else if e = 2 then (sm_g (sm_lk ls 2 = true) (sm_R T_L_tryRemoveSlope ((b - 2), 11, M1, ls.set 2 none, []))) else none) := by
  have h9 := R_callH (T := T_L_tryRemoveSlope) (b := b) (pc := 2) (V := V) (o := o) (ls := ls) (r := r) (x := 64) (as := [.inr (.inr (9, k0, i0)), .inl a1]) rfl rfl rfl h hb ⟨rfl, rfl⟩ (by decide)
  refine h9.trans (congrArg (sm_k2 _ _) ?_)
  funext M1 e
  by_cases h3 : e = 3
  · subst h3; rfl
  rw [if_neg h3]
  by_cases h2 : e = 2
  · subst h2; rfl
  rw [if_neg h2]
  have hn9 : sm_hnd T_L_tryRemoveSlope 2 e = none := by
    cases hq : sm_hnd T_L_tryRemoveSlope 2 e with
    | none => rfl
    | some q =>
      have h8 : ((2, e), q) ∈ ([((2, 3), (7, 2)), ((2, 2), (11, 2))] : List ((Nat × Nat) × (Nat × Nat))) := sm_look2 hq
      simp [h3, h2] at h8
  rw [hn9]
theorem s_L_tryRemoveSlope_5 {b : Nat} {V : Nat → Nat → Int32} {o : Int64} {ls : sm_L} {x : Int32} : sm_R T_L_tryRemoveSlope (b, 5, (V, o), ls, [.inl x]) = some ((V, o), .ok (some (.inl x))) := R_ireturn rfl (Or.inr rfl)
theorem s_L_tryRemoveSlope_7 {b : Nat} {V : Nat → Nat → Int32} {o : Int64} {ls : sm_L} {r : List sm_V} : sm_R T_L_tryRemoveSlope (b, 7, (V, o), ls, r) = sm_R T_L_tryRemoveSlope (b, 9, (V, o), ls, .inl (-99001) :: r) := R_ldc rfl rfl
theorem s_L_tryRemoveSlope_9 {b : Nat} {V : Nat → Nat → Int32} {o : Int64} {ls : sm_L} {x : Int32} : sm_R T_L_tryRemoveSlope (b, 9, (V, o), ls, [.inl x]) = some ((V, o), .ok (some (.inl x))) := R_ireturn rfl (Or.inr rfl)
theorem s_L_tryRemoveSlope_11 {b : Nat} {V : Nat → Nat → Int32} {o : Int64} {ls : sm_L} {r : List sm_V} : sm_R T_L_tryRemoveSlope (b, 11, (V, o), ls, r) = sm_R T_L_tryRemoveSlope (b, 13, (V, o), ls, .inl (-99003) :: r) := R_ldc rfl rfl
theorem s_L_tryRemoveSlope_13 {b : Nat} {V : Nat → Nat → Int32} {o : Int64} {ls : sm_L} {x : Int32} : sm_R T_L_tryRemoveSlope (b, 13, (V, o), ls, [.inl x]) = some ((V, o), .ok (some (.inl x))) := R_ireturn rfl (Or.inr rfl)
theorem s_L_tryAddGun_0 {b : Nat} {V : Nat → Nat → Int32} {o : Int64} {tl : sm_L} {x : sm_N} {r : List sm_V} : sm_R T_L_tryAddGun (b, 0, (V, o), some (.inr (.inr x)) :: tl, r) = sm_R T_L_tryAddGun (b, 1, (V, o), some (.inr (.inr x)) :: tl, .inr (.inr x) :: r) := R_aload_n rfl rfl
theorem s_L_tryAddGun_1 {b : Nat} {V : Nat → Nat → Int32} {o : Int64} {l0 : Option sm_V} {tl : sm_L} {x : Int32} {r : List sm_V} : sm_R T_L_tryAddGun (b, 1, (V, o), l0 :: some (.inl x) :: tl, r) = sm_R T_L_tryAddGun (b, 2, (V, o), l0 :: some (.inl x) :: tl, .inl x :: r) := R_iload_n rfl rfl
theorem s_L_tryAddGun_2 {b : Nat} {V : Nat → Nat → Int32} {o : Int64} {l0 l1 : Option sm_V} {tl : sm_L} {x : Int32} {r : List sm_V} : sm_R T_L_tryAddGun (b, 2, (V, o), l0 :: l1 :: some (.inl x) :: tl, r) = sm_R T_L_tryAddGun (b, 3, (V, o), l0 :: l1 :: some (.inl x) :: tl, .inl x :: r) := R_iload_n rfl rfl
theorem s_L_tryAddGun_3 {b : Nat} {V : Nat → Nat → Int32} {o : Int64} {ls : sm_L} {r : List sm_V} {k0 i0 : Nat} {a1 : Int32} {a2 : Int32} (h : r.length ≤ 4) (hb : 3 ≤ b) : sm_R T_L_tryAddGun (b, 3, (V, o), ls, .inl a2 :: .inl a1 :: .inr (.inr (9, k0, i0)) :: r) = sm_k2 (F_X9_addGun (V, o) [.inr (.inr (9, k0, i0)), .inl a1, .inl a2]) (fun M1 v => sm_R T_L_tryAddGun ((b - 3), 6, M1, ls, v.toList ++ r)) (fun M1 e => if e = 3 then (sm_g (sm_lk ls 3 = true) (sm_R T_L_tryAddGun ((b - 3), 8, M1, ls.set 3 none, []))) else if e = 1 then (sm_g (sm_lk ls 3 = true) (sm_R T_L_tryAddGun ((b - 3), 12, M1, ls.set 3 none, []))) else if e = 2 then (sm_g (sm_lk ls 3 = true) (sm_R T_L_tryAddGun ((b - 3), 16, M1, ls.set 3 none, []))) else none) := by
  have h9 := R_callH (T := T_L_tryAddGun) (b := b) (pc := 3) (V := V) (o := o) (ls := ls) (r := r) (x := 67) (as := [.inr (.inr (9, k0, i0)), .inl a1, .inl a2]) rfl rfl rfl h hb ⟨rfl, rfl⟩ (by decide)
  refine h9.trans (congrArg (sm_k2 _ _) ?_)
  funext M1 e
  by_cases h3 : e = 3
  · subst h3; rfl
  rw [if_neg h3]
  by_cases h1 : e = 1
  · subst h1; rfl
  rw [if_neg h1]
  by_cases h2 : e = 2
  · subst h2; rfl
  rw [if_neg h2]
  have hn9 : sm_hnd T_L_tryAddGun 3 e = none := by
    cases hq : sm_hnd T_L_tryAddGun 3 e with
    | none => rfl
    | some q =>
      have h8 : ((3, e), q) ∈ ([((3, 3), (8, 3)), ((3, 1), (12, 3)), ((3, 2), (16, 3))] : List ((Nat × Nat) × (Nat × Nat))) := sm_look2 hq
      simp [h3, h1, h2] at h8
  rw [hn9]
theorem s_L_tryAddGun_6 {b : Nat} {V : Nat → Nat → Int32} {o : Int64} {ls : sm_L} {x : Int32} : sm_R T_L_tryAddGun (b, 6, (V, o), ls, [.inl x]) = some ((V, o), .ok (some (.inl x))) := R_ireturn rfl (Or.inr rfl)
theorem s_L_tryAddGun_8 {b : Nat} {V : Nat → Nat → Int32} {o : Int64} {ls : sm_L} {r : List sm_V} : sm_R T_L_tryAddGun (b, 8, (V, o), ls, r) = sm_R T_L_tryAddGun (b, 10, (V, o), ls, .inl (-99001) :: r) := R_ldc rfl rfl
theorem s_L_tryAddGun_10 {b : Nat} {V : Nat → Nat → Int32} {o : Int64} {ls : sm_L} {x : Int32} : sm_R T_L_tryAddGun (b, 10, (V, o), ls, [.inl x]) = some ((V, o), .ok (some (.inl x))) := R_ireturn rfl (Or.inr rfl)
theorem s_L_tryAddGun_12 {b : Nat} {V : Nat → Nat → Int32} {o : Int64} {ls : sm_L} {r : List sm_V} : sm_R T_L_tryAddGun (b, 12, (V, o), ls, r) = sm_R T_L_tryAddGun (b, 14, (V, o), ls, .inl (-99002) :: r) := R_ldc rfl rfl
theorem s_L_tryAddGun_14 {b : Nat} {V : Nat → Nat → Int32} {o : Int64} {ls : sm_L} {x : Int32} : sm_R T_L_tryAddGun (b, 14, (V, o), ls, [.inl x]) = some ((V, o), .ok (some (.inl x))) := R_ireturn rfl (Or.inr rfl)
theorem s_L_tryAddGun_16 {b : Nat} {V : Nat → Nat → Int32} {o : Int64} {ls : sm_L} {r : List sm_V} : sm_R T_L_tryAddGun (b, 16, (V, o), ls, r) = sm_R T_L_tryAddGun (b, 18, (V, o), ls, .inl (-99003) :: r) := R_ldc rfl rfl
theorem s_L_tryAddGun_18 {b : Nat} {V : Nat → Nat → Int32} {o : Int64} {ls : sm_L} {x : Int32} : sm_R T_L_tryAddGun (b, 18, (V, o), ls, [.inl x]) = some ((V, o), .ok (some (.inl x))) := R_ireturn rfl (Or.inr rfl)
theorem s_L_tryBring_0 {b : Nat} {V : Nat → Nat → Int32} {o : Int64} {tl : sm_L} {x : sm_N} {r : List sm_V} : sm_R T_L_tryBring (b, 0, (V, o), some (.inr (.inr x)) :: tl, r) = sm_R T_L_tryBring (b, 1, (V, o), some (.inr (.inr x)) :: tl, .inr (.inr x) :: r) := R_aload_n rfl rfl
theorem s_L_tryBring_1 {b : Nat} {V : Nat → Nat → Int32} {o : Int64} {l0 : Option sm_V} {tl : sm_L} {x : Int32} {r : List sm_V} : sm_R T_L_tryBring (b, 1, (V, o), l0 :: some (.inl x) :: tl, r) = sm_R T_L_tryBring (b, 2, (V, o), l0 :: some (.inl x) :: tl, .inl x :: r) := R_iload_n rfl rfl
theorem s_L_tryBring_2 {b : Nat} {V : Nat → Nat → Int32} {o : Int64} {l0 l1 : Option sm_V} {tl : sm_L} {x : Int32} {r : List sm_V} : sm_R T_L_tryBring (b, 2, (V, o), l0 :: l1 :: some (.inl x) :: tl, r) = sm_R T_L_tryBring (b, 3, (V, o), l0 :: l1 :: some (.inl x) :: tl, .inl x :: r) := R_iload_n rfl rfl
theorem s_L_tryBring_3 {b : Nat} {V : Nat → Nat → Int32} {o : Int64} {ls : sm_L} {r : List sm_V} {k0 i0 : Nat} {a1 : Int32} {a2 : Int32} (h : r.length ≤ 4) (hb : 2 ≤ b) : sm_R T_L_tryBring (b, 3, (V, o), ls, .inl a2 :: .inl a1 :: .inr (.inr (9, k0, i0)) :: r) = sm_k2 (F_X9_bring (V, o) [.inr (.inr (9, k0, i0)), .inl a1, .inl a2]) (fun M1 v => sm_R T_L_tryBring ((b - 2), 6, M1, ls, v.toList ++ r)) (fun M1 e => if e = 3 then (sm_g (sm_lk ls 3 = true) (sm_R T_L_tryBring ((b - 2), 8, M1, ls.set 3 none, []))) else none) := by
  have h9 := R_callH (T := T_L_tryBring) (b := b) (pc := 3) (V := V) (o := o) (ls := ls) (r := r) (x := 70) (as := [.inr (.inr (9, k0, i0)), .inl a1, .inl a2]) rfl rfl rfl h hb ⟨rfl, rfl⟩ (by decide)
  refine h9.trans (congrArg (sm_k2 _ _) ?_)
  funext M1 e
  by_cases h3 : e = 3
  · subst h3; rfl
  rw [if_neg h3]
  have hn9 : sm_hnd T_L_tryBring 3 e = none := by
    cases hq : sm_hnd T_L_tryBring 3 e with
    | none => rfl
    | some q =>
      have h8 : ((3, e), q) ∈ ([((3, 3), (8, 3))] : List ((Nat × Nat) × (Nat × Nat))) := sm_look2 hq
      simp [h3] at h8
  rw [hn9]
theorem s_L_tryBring_6 {b : Nat} {V : Nat → Nat → Int32} {o : Int64} {ls : sm_L} {x : Int32} : sm_R T_L_tryBring (b, 6, (V, o), ls, [.inl x]) = some ((V, o), .ok (some (.inl x))) := R_ireturn rfl (Or.inr rfl)
theorem s_L_tryBring_8 {b : Nat} {V : Nat → Nat → Int32} {o : Int64} {ls : sm_L} {r : List sm_V} : sm_R T_L_tryBring (b, 8, (V, o), ls, r) = sm_R T_L_tryBring (b, 10, (V, o), ls, .inl (-99001) :: r) := R_ldc rfl rfl
theorem s_L_tryBring_10 {b : Nat} {V : Nat → Nat → Int32} {o : Int64} {ls : sm_L} {x : Int32} : sm_R T_L_tryBring (b, 10, (V, o), ls, [.inl x]) = some ((V, o), .ok (some (.inl x))) := R_ireturn rfl (Or.inr rfl)
theorem s_L_tryAllow_0 {b : Nat} {V : Nat → Nat → Int32} {o : Int64} {tl : sm_L} {x : sm_N} {r : List sm_V} : sm_R T_L_tryAllow (b, 0, (V, o), some (.inr (.inr x)) :: tl, r) = sm_R T_L_tryAllow (b, 1, (V, o), some (.inr (.inr x)) :: tl, .inr (.inr x) :: r) := R_aload_n rfl rfl
theorem s_L_tryAllow_1 {b : Nat} {V : Nat → Nat → Int32} {o : Int64} {l0 : Option sm_V} {tl : sm_L} {x : Int32} {r : List sm_V} : sm_R T_L_tryAllow (b, 1, (V, o), l0 :: some (.inl x) :: tl, r) = sm_R T_L_tryAllow (b, 2, (V, o), l0 :: some (.inl x) :: tl, .inl x :: r) := R_iload_n rfl rfl
theorem s_L_tryAllow_2 {b : Nat} {V : Nat → Nat → Int32} {o : Int64} {l0 l1 : Option sm_V} {tl : sm_L} {x : Int32} {r : List sm_V} : sm_R T_L_tryAllow (b, 2, (V, o), l0 :: l1 :: some (.inl x) :: tl, r) = sm_R T_L_tryAllow (b, 3, (V, o), l0 :: l1 :: some (.inl x) :: tl, .inl x :: r) := R_iload_n rfl rfl
theorem s_L_tryAllow_3 {b : Nat} {V : Nat → Nat → Int32} {o : Int64} {ls : sm_L} {r : List sm_V} {k0 i0 : Nat} {a1 : Int32} {a2 : Int32} (h : r.length ≤ 4) (hb : 1 ≤ b) : sm_R T_L_tryAllow (b, 3, (V, o), ls, .inl a2 :: .inl a1 :: .inr (.inr (9, k0, i0)) :: r) = sm_k2 (F_X9_allow (V, o) [.inr (.inr (9, k0, i0)), .inl a1, .inl a2]) (fun M1 v => sm_R T_L_tryAllow ((b - 1), 6, M1, ls, v.toList ++ r)) (fun M1 e => if e = 3 then (sm_g (sm_lk ls 3 = true) (sm_R T_L_tryAllow ((b - 1), 8, M1, ls.set 3 none, []))) else none) := by
  have h9 := R_callH (T := T_L_tryAllow) (b := b) (pc := 3) (V := V) (o := o) (ls := ls) (r := r) (x := 73) (as := [.inr (.inr (9, k0, i0)), .inl a1, .inl a2]) rfl rfl rfl h hb ⟨rfl, rfl⟩ (by decide)
  refine h9.trans (congrArg (sm_k2 _ _) ?_)
  funext M1 e
  by_cases h3 : e = 3
  · subst h3; rfl
  rw [if_neg h3]
  have hn9 : sm_hnd T_L_tryAllow 3 e = none := by
    cases hq : sm_hnd T_L_tryAllow 3 e with
    | none => rfl
    | some q =>
      have h8 : ((3, e), q) ∈ ([((3, 3), (8, 3))] : List ((Nat × Nat) × (Nat × Nat))) := sm_look2 hq
      simp [h3] at h8
  rw [hn9]
theorem s_L_tryAllow_6 {b : Nat} {V : Nat → Nat → Int32} {o : Int64} {ls : sm_L} {x : Int32} : sm_R T_L_tryAllow (b, 6, (V, o), ls, [.inl x]) = some ((V, o), .ok (some (.inl x))) := R_ireturn rfl (Or.inr rfl)
theorem s_L_tryAllow_8 {b : Nat} {V : Nat → Nat → Int32} {o : Int64} {ls : sm_L} {r : List sm_V} : sm_R T_L_tryAllow (b, 8, (V, o), ls, r) = sm_R T_L_tryAllow (b, 10, (V, o), ls, .inl (-99001) :: r) := R_ldc rfl rfl
theorem s_L_tryAllow_10 {b : Nat} {V : Nat → Nat → Int32} {o : Int64} {ls : sm_L} {x : Int32} : sm_R T_L_tryAllow (b, 10, (V, o), ls, [.inl x]) = some ((V, o), .ok (some (.inl x))) := R_ireturn rfl (Or.inr rfl)
theorem s_L_tryUndo_0 {b : Nat} {V : Nat → Nat → Int32} {o : Int64} {tl : sm_L} {x : sm_N} {r : List sm_V} : sm_R T_L_tryUndo (b, 0, (V, o), some (.inr (.inr x)) :: tl, r) = sm_R T_L_tryUndo (b, 1, (V, o), some (.inr (.inr x)) :: tl, .inr (.inr x) :: r) := R_aload_n rfl rfl
theorem s_L_tryUndo_1 {b : Nat} {V : Nat → Nat → Int32} {o : Int64} {ls : sm_L} {r : List sm_V} {k0 i0 : Nat} (h : r.length ≤ 4) (hb : 1 ≤ b) : sm_R T_L_tryUndo (b, 1, (V, o), ls, .inr (.inr (9, k0, i0)) :: r) = sm_k2 (F_X9_undo (V, o) [.inr (.inr (9, k0, i0))]) (fun M1 v => sm_R T_L_tryUndo ((b - 1), 4, M1, ls, v.toList ++ r)) (fun M1 e => if e = 2 then (sm_g (sm_lk ls 1 = true) (sm_R T_L_tryUndo ((b - 1), 6, M1, ls.set 1 none, []))) else none) := by
  have h9 := R_callH (T := T_L_tryUndo) (b := b) (pc := 1) (V := V) (o := o) (ls := ls) (r := r) (x := 77) (as := [.inr (.inr (9, k0, i0))]) rfl rfl rfl h hb ⟨rfl, rfl⟩ (by decide)
  refine h9.trans (congrArg (sm_k2 _ _) ?_)
  funext M1 e
  by_cases h2 : e = 2
  · subst h2; rfl
  rw [if_neg h2]
  have hn9 : sm_hnd T_L_tryUndo 1 e = none := by
    cases hq : sm_hnd T_L_tryUndo 1 e with
    | none => rfl
    | some q =>
      have h8 : ((1, e), q) ∈ ([((1, 2), (6, 1))] : List ((Nat × Nat) × (Nat × Nat))) := sm_look2 hq
      simp [h2] at h8
  rw [hn9]
theorem s_L_tryUndo_4 {b : Nat} {V : Nat → Nat → Int32} {o : Int64} {ls : sm_L} {x : Int32} : sm_R T_L_tryUndo (b, 4, (V, o), ls, [.inl x]) = some ((V, o), .ok (some (.inl x))) := R_ireturn rfl (Or.inr rfl)
theorem s_L_tryUndo_6 {b : Nat} {V : Nat → Nat → Int32} {o : Int64} {ls : sm_L} {r : List sm_V} : sm_R T_L_tryUndo (b, 6, (V, o), ls, r) = sm_R T_L_tryUndo (b, 8, (V, o), ls, .inl (-99003) :: r) := R_ldc rfl rfl
theorem s_L_tryUndo_8 {b : Nat} {V : Nat → Nat → Int32} {o : Int64} {ls : sm_L} {x : Int32} : sm_R T_L_tryUndo (b, 8, (V, o), ls, [.inl x]) = some ((V, o), .ok (some (.inl x))) := R_ireturn rfl (Or.inr rfl)
theorem s_L_tryWhyNot_0 {b : Nat} {V : Nat → Nat → Int32} {o : Int64} {tl : sm_L} {x : sm_N} {r : List sm_V} : sm_R T_L_tryWhyNot (b, 0, (V, o), some (.inr (.inr x)) :: tl, r) = sm_R T_L_tryWhyNot (b, 1, (V, o), some (.inr (.inr x)) :: tl, .inr (.inr x) :: r) := R_aload_n rfl rfl
theorem s_L_tryWhyNot_1 {b : Nat} {V : Nat → Nat → Int32} {o : Int64} {l0 : Option sm_V} {tl : sm_L} {x : Int32} {r : List sm_V} : sm_R T_L_tryWhyNot (b, 1, (V, o), l0 :: some (.inl x) :: tl, r) = sm_R T_L_tryWhyNot (b, 2, (V, o), l0 :: some (.inl x) :: tl, .inl x :: r) := R_iload_n rfl rfl
theorem s_L_tryWhyNot_2 {b : Nat} {V : Nat → Nat → Int32} {o : Int64} {ls : sm_L} {r : List sm_V} {k0 i0 : Nat} {a1 : Int32} (h : r.length ≤ 4) (hb : 1 ≤ b) : sm_R T_L_tryWhyNot (b, 2, (V, o), ls, .inl a1 :: .inr (.inr (9, k0, i0)) :: r) = sm_k2 (F_X9_whyNot (V, o) [.inr (.inr (9, k0, i0)), .inl a1]) (fun M1 v => sm_R T_L_tryWhyNot ((b - 1), 5, M1, ls, v.toList ++ r)) (fun M1 e => if e = 3 then (sm_g (sm_lk ls 2 = true) (sm_R T_L_tryWhyNot ((b - 1), 7, M1, ls.set 2 none, []))) else none) := by
  have h9 := R_callH (T := T_L_tryWhyNot) (b := b) (pc := 2) (V := V) (o := o) (ls := ls) (r := r) (x := 80) (as := [.inr (.inr (9, k0, i0)), .inl a1]) rfl rfl rfl h hb ⟨rfl, rfl⟩ (by decide)
  refine h9.trans (congrArg (sm_k2 _ _) ?_)
  funext M1 e
  by_cases h3 : e = 3
  · subst h3; rfl
  rw [if_neg h3]
  have hn9 : sm_hnd T_L_tryWhyNot 2 e = none := by
    cases hq : sm_hnd T_L_tryWhyNot 2 e with
    | none => rfl
    | some q =>
      have h8 : ((2, e), q) ∈ ([((2, 3), (7, 2))] : List ((Nat × Nat) × (Nat × Nat))) := sm_look2 hq
      simp [h3] at h8
  rw [hn9]
theorem s_L_tryWhyNot_5 {b : Nat} {V : Nat → Nat → Int32} {o : Int64} {ls : sm_L} {x : Int32} : sm_R T_L_tryWhyNot (b, 5, (V, o), ls, [.inl x]) = some ((V, o), .ok (some (.inl x))) := R_ireturn rfl (Or.inr rfl)
theorem s_L_tryWhyNot_7 {b : Nat} {V : Nat → Nat → Int32} {o : Int64} {ls : sm_L} {r : List sm_V} : sm_R T_L_tryWhyNot (b, 7, (V, o), ls, r) = sm_R T_L_tryWhyNot (b, 9, (V, o), ls, .inl (-99001) :: r) := R_ldc rfl rfl
theorem s_L_tryWhyNot_9 {b : Nat} {V : Nat → Nat → Int32} {o : Int64} {ls : sm_L} {x : Int32} : sm_R T_L_tryWhyNot (b, 9, (V, o), ls, [.inl x]) = some ((V, o), .ok (some (.inl x))) := R_ireturn rfl (Or.inr rfl)
theorem s_L_tryOrder_0 {b : Nat} {V : Nat → Nat → Int32} {o : Int64} {tl : sm_L} {x : sm_N} {r : List sm_V} : sm_R T_L_tryOrder (b, 0, (V, o), some (.inr (.inr x)) :: tl, r) = sm_R T_L_tryOrder (b, 1, (V, o), some (.inr (.inr x)) :: tl, .inr (.inr x) :: r) := R_aload_n rfl rfl
theorem s_L_tryOrder_1 {b : Nat} {V : Nat → Nat → Int32} {o : Int64} {l0 : Option sm_V} {tl : sm_L} {x : Int32} {r : List sm_V} : sm_R T_L_tryOrder (b, 1, (V, o), l0 :: some (.inl x) :: tl, r) = sm_R T_L_tryOrder (b, 2, (V, o), l0 :: some (.inl x) :: tl, .inl x :: r) := R_iload_n rfl rfl
theorem s_L_tryOrder_2 {b : Nat} {V : Nat → Nat → Int32} {o : Int64} {ls : sm_L} {r : List sm_V} {k0 i0 : Nat} {a1 : Int32} (h : r.length ≤ 4) (hb : 1 ≤ b) : sm_R T_L_tryOrder (b, 2, (V, o), ls, .inl a1 :: .inr (.inr (9, k0, i0)) :: r) = sm_k2 (F_X9_order (V, o) [.inr (.inr (9, k0, i0)), .inl a1]) (fun M1 v => sm_R T_L_tryOrder ((b - 1), 5, M1, ls, v.toList ++ r)) (fun M1 e => if e = 1 then (sm_g (sm_lk ls 2 = true) (sm_R T_L_tryOrder ((b - 1), 7, M1, ls.set 2 none, []))) else none) := by
  have h9 := R_callH (T := T_L_tryOrder) (b := b) (pc := 2) (V := V) (o := o) (ls := ls) (r := r) (x := 83) (as := [.inr (.inr (9, k0, i0)), .inl a1]) rfl rfl rfl h hb ⟨rfl, rfl⟩ (by decide)
  refine h9.trans (congrArg (sm_k2 _ _) ?_)
  funext M1 e
  by_cases h1 : e = 1
  · subst h1; rfl
  rw [if_neg h1]
  have hn9 : sm_hnd T_L_tryOrder 2 e = none := by
    cases hq : sm_hnd T_L_tryOrder 2 e with
    | none => rfl
    | some q =>
      have h8 : ((2, e), q) ∈ ([((2, 1), (7, 2))] : List ((Nat × Nat) × (Nat × Nat))) := sm_look2 hq
      simp [h1] at h8
  rw [hn9]
theorem s_L_tryOrder_5 {b : Nat} {V : Nat → Nat → Int32} {o : Int64} {ls : sm_L} {x : Int32} : sm_R T_L_tryOrder (b, 5, (V, o), ls, [.inl x]) = some ((V, o), .ok (some (.inl x))) := R_ireturn rfl (Or.inr rfl)
theorem s_L_tryOrder_7 {b : Nat} {V : Nat → Nat → Int32} {o : Int64} {ls : sm_L} {r : List sm_V} : sm_R T_L_tryOrder (b, 7, (V, o), ls, r) = sm_R T_L_tryOrder (b, 9, (V, o), ls, .inl (-99002) :: r) := R_ldc rfl rfl
theorem s_L_tryOrder_9 {b : Nat} {V : Nat → Nat → Int32} {o : Int64} {ls : sm_L} {x : Int32} : sm_R T_L_tryOrder (b, 9, (V, o), ls, [.inl x]) = some ((V, o), .ok (some (.inl x))) := R_ireturn rfl (Or.inr rfl)
theorem s_L_tryAhead_0 {b : Nat} {V : Nat → Nat → Int32} {o : Int64} {tl : sm_L} {x : sm_N} {r : List sm_V} : sm_R T_L_tryAhead (b, 0, (V, o), some (.inr (.inr x)) :: tl, r) = sm_R T_L_tryAhead (b, 1, (V, o), some (.inr (.inr x)) :: tl, .inr (.inr x) :: r) := R_aload_n rfl rfl
theorem s_L_tryAhead_1 {b : Nat} {V : Nat → Nat → Int32} {o : Int64} {l0 : Option sm_V} {tl : sm_L} {x : Int32} {r : List sm_V} : sm_R T_L_tryAhead (b, 1, (V, o), l0 :: some (.inl x) :: tl, r) = sm_R T_L_tryAhead (b, 2, (V, o), l0 :: some (.inl x) :: tl, .inl x :: r) := R_iload_n rfl rfl
theorem s_L_tryAhead_2 {b : Nat} {V : Nat → Nat → Int32} {o : Int64} {l0 l1 : Option sm_V} {tl : sm_L} {x : Int32} {r : List sm_V} : sm_R T_L_tryAhead (b, 2, (V, o), l0 :: l1 :: some (.inl x) :: tl, r) = sm_R T_L_tryAhead (b, 3, (V, o), l0 :: l1 :: some (.inl x) :: tl, .inl x :: r) := R_iload_n rfl rfl
theorem s_L_tryAhead_3 {b : Nat} {V : Nat → Nat → Int32} {o : Int64} {ls : sm_L} {r : List sm_V} {k0 i0 : Nat} {a1 : Int32} {a2 : Int32} (h : r.length ≤ 4) (hb : 1 ≤ b) : sm_R T_L_tryAhead (b, 3, (V, o), ls, .inl a2 :: .inl a1 :: .inr (.inr (9, k0, i0)) :: r) = sm_k2 (F_X9_ahead (V, o) [.inr (.inr (9, k0, i0)), .inl a1, .inl a2]) (fun M1 v => sm_R T_L_tryAhead ((b - 1), 6, M1, ls, v.toList ++ r)) (fun M1 e => if e = 1 then (sm_g (sm_lk ls 3 = true) (sm_R T_L_tryAhead ((b - 1), 8, M1, ls.set 3 none, []))) else none) := by
  have h9 := R_callH (T := T_L_tryAhead) (b := b) (pc := 3) (V := V) (o := o) (ls := ls) (r := r) (x := 86) (as := [.inr (.inr (9, k0, i0)), .inl a1, .inl a2]) rfl rfl rfl h hb ⟨rfl, rfl⟩ (by decide)
  refine h9.trans (congrArg (sm_k2 _ _) ?_)
  funext M1 e
  by_cases h1 : e = 1
  · subst h1; rfl
  rw [if_neg h1]
  have hn9 : sm_hnd T_L_tryAhead 3 e = none := by
    cases hq : sm_hnd T_L_tryAhead 3 e with
    | none => rfl
    | some q =>
      have h8 : ((3, e), q) ∈ ([((3, 1), (8, 3))] : List ((Nat × Nat) × (Nat × Nat))) := sm_look2 hq
      simp [h1] at h8
  rw [hn9]
theorem s_L_tryAhead_6 {b : Nat} {V : Nat → Nat → Int32} {o : Int64} {ls : sm_L} {x : Int32} : sm_R T_L_tryAhead (b, 6, (V, o), ls, [.inl x]) = some ((V, o), .ok (some (.inl x))) := R_ireturn rfl (Or.inr rfl)
theorem s_L_tryAhead_8 {b : Nat} {V : Nat → Nat → Int32} {o : Int64} {ls : sm_L} {r : List sm_V} : sm_R T_L_tryAhead (b, 8, (V, o), ls, r) = sm_R T_L_tryAhead (b, 10, (V, o), ls, .inl (-99002) :: r) := R_ldc rfl rfl
theorem s_L_tryAhead_10 {b : Nat} {V : Nat → Nat → Int32} {o : Int64} {ls : sm_L} {x : Int32} : sm_R T_L_tryAhead (b, 10, (V, o), ls, [.inl x]) = some ((V, o), .ok (some (.inl x))) := R_ireturn rfl (Or.inr rfl)
theorem s_L_tryReadyAfter_0 {b : Nat} {V : Nat → Nat → Int32} {o : Int64} {tl : sm_L} {x : sm_N} {r : List sm_V} : sm_R T_L_tryReadyAfter (b, 0, (V, o), some (.inr (.inr x)) :: tl, r) = sm_R T_L_tryReadyAfter (b, 1, (V, o), some (.inr (.inr x)) :: tl, .inr (.inr x) :: r) := R_aload_n rfl rfl
theorem s_L_tryReadyAfter_1 {b : Nat} {V : Nat → Nat → Int32} {o : Int64} {l0 : Option sm_V} {tl : sm_L} {x : Int32} {r : List sm_V} : sm_R T_L_tryReadyAfter (b, 1, (V, o), l0 :: some (.inl x) :: tl, r) = sm_R T_L_tryReadyAfter (b, 2, (V, o), l0 :: some (.inl x) :: tl, .inl x :: r) := R_iload_n rfl rfl
theorem s_L_tryReadyAfter_2 {b : Nat} {V : Nat → Nat → Int32} {o : Int64} {ls : sm_L} {r : List sm_V} {k0 i0 : Nat} {a1 : Int32} (h : r.length ≤ 4) (hb : 1 ≤ b) : sm_R T_L_tryReadyAfter (b, 2, (V, o), ls, .inl a1 :: .inr (.inr (9, k0, i0)) :: r) = sm_k2 (F_X9_readyAfter (V, o) [.inr (.inr (9, k0, i0)), .inl a1]) (fun M1 v => sm_R T_L_tryReadyAfter ((b - 1), 5, M1, ls, v.toList ++ r)) (fun M1 e => if e = 3 then (sm_g (sm_lk ls 2 = true) (sm_R T_L_tryReadyAfter ((b - 1), 7, M1, ls.set 2 none, []))) else none) := by
  have h9 := R_callH (T := T_L_tryReadyAfter) (b := b) (pc := 2) (V := V) (o := o) (ls := ls) (r := r) (x := 89) (as := [.inr (.inr (9, k0, i0)), .inl a1]) rfl rfl rfl h hb ⟨rfl, rfl⟩ (by decide)
  refine h9.trans (congrArg (sm_k2 _ _) ?_)
  funext M1 e
  by_cases h3 : e = 3
  · subst h3; rfl
  rw [if_neg h3]
  have hn9 : sm_hnd T_L_tryReadyAfter 2 e = none := by
    cases hq : sm_hnd T_L_tryReadyAfter 2 e with
    | none => rfl
    | some q =>
      have h8 : ((2, e), q) ∈ ([((2, 3), (7, 2))] : List ((Nat × Nat) × (Nat × Nat))) := sm_look2 hq
      simp [h3] at h8
  rw [hn9]
theorem s_L_tryReadyAfter_5 {b : Nat} {V : Nat → Nat → Int32} {o : Int64} {ls : sm_L} {x : Int32} : sm_R T_L_tryReadyAfter (b, 5, (V, o), ls, [.inl x]) = some ((V, o), .ok (some (.inl x))) := R_ireturn rfl (Or.inr rfl)
theorem s_L_tryReadyAfter_7 {b : Nat} {V : Nat → Nat → Int32} {o : Int64} {ls : sm_L} {r : List sm_V} : sm_R T_L_tryReadyAfter (b, 7, (V, o), ls, r) = sm_R T_L_tryReadyAfter (b, 9, (V, o), ls, .inl (-99001) :: r) := R_ldc rfl rfl
theorem s_L_tryReadyAfter_9 {b : Nat} {V : Nat → Nat → Int32} {o : Int64} {ls : sm_L} {x : Int32} : sm_R T_L_tryReadyAfter (b, 9, (V, o), ls, [.inl x]) = some ((V, o), .ok (some (.inl x))) := R_ireturn rfl (Or.inr rfl)
theorem s_L_tryBestPlace_0 {b : Nat} {V : Nat → Nat → Int32} {o : Int64} {tl : sm_L} {x : sm_N} {r : List sm_V} : sm_R T_L_tryBestPlace (b, 0, (V, o), some (.inr (.inr x)) :: tl, r) = sm_R T_L_tryBestPlace (b, 1, (V, o), some (.inr (.inr x)) :: tl, .inr (.inr x) :: r) := R_aload_n rfl rfl
theorem s_L_tryBestPlace_1 {b : Nat} {V : Nat → Nat → Int32} {o : Int64} {l0 : Option sm_V} {tl : sm_L} {x : Int32} {r : List sm_V} : sm_R T_L_tryBestPlace (b, 1, (V, o), l0 :: some (.inl x) :: tl, r) = sm_R T_L_tryBestPlace (b, 2, (V, o), l0 :: some (.inl x) :: tl, .inl x :: r) := R_iload_n rfl rfl
theorem s_L_tryBestPlace_2 {b : Nat} {V : Nat → Nat → Int32} {o : Int64} {l0 l1 : Option sm_V} {tl : sm_L} {x : Int32} {r : List sm_V} : sm_R T_L_tryBestPlace (b, 2, (V, o), l0 :: l1 :: some (.inl x) :: tl, r) = sm_R T_L_tryBestPlace (b, 3, (V, o), l0 :: l1 :: some (.inl x) :: tl, .inl x :: r) := R_iload_n rfl rfl
theorem s_L_tryBestPlace_3 {b : Nat} {V : Nat → Nat → Int32} {o : Int64} {ls : sm_L} {r : List sm_V} {k0 i0 : Nat} {a1 : Int32} {a2 : Int32} (h : r.length ≤ 4) (hb : 2 ≤ b) : sm_R T_L_tryBestPlace (b, 3, (V, o), ls, .inl a2 :: .inl a1 :: .inr (.inr (9, k0, i0)) :: r) = sm_k2 (F_X9_bestPlace (V, o) [.inr (.inr (9, k0, i0)), .inl a1, .inl a2]) (fun M1 v => sm_R T_L_tryBestPlace ((b - 2), 6, M1, ls, v.toList ++ r)) (fun M1 e => if e = 1 then (sm_g (sm_lk ls 3 = true) (sm_R T_L_tryBestPlace ((b - 2), 8, M1, ls.set 3 none, []))) else none) := by
  have h9 := R_callH (T := T_L_tryBestPlace) (b := b) (pc := 3) (V := V) (o := o) (ls := ls) (r := r) (x := 92) (as := [.inr (.inr (9, k0, i0)), .inl a1, .inl a2]) rfl rfl rfl h hb ⟨rfl, rfl⟩ (by decide)
  refine h9.trans (congrArg (sm_k2 _ _) ?_)
  funext M1 e
  by_cases h1 : e = 1
  · subst h1; rfl
  rw [if_neg h1]
  have hn9 : sm_hnd T_L_tryBestPlace 3 e = none := by
    cases hq : sm_hnd T_L_tryBestPlace 3 e with
    | none => rfl
    | some q =>
      have h8 : ((3, e), q) ∈ ([((3, 1), (8, 3))] : List ((Nat × Nat) × (Nat × Nat))) := sm_look2 hq
      simp [h1] at h8
  rw [hn9]
theorem s_L_tryBestPlace_6 {b : Nat} {V : Nat → Nat → Int32} {o : Int64} {ls : sm_L} {x : Int32} : sm_R T_L_tryBestPlace (b, 6, (V, o), ls, [.inl x]) = some ((V, o), .ok (some (.inl x))) := R_ireturn rfl (Or.inr rfl)
theorem s_L_tryBestPlace_8 {b : Nat} {V : Nat → Nat → Int32} {o : Int64} {ls : sm_L} {r : List sm_V} : sm_R T_L_tryBestPlace (b, 8, (V, o), ls, r) = sm_R T_L_tryBestPlace (b, 10, (V, o), ls, .inl (-99002) :: r) := R_ldc rfl rfl
theorem s_L_tryBestPlace_10 {b : Nat} {V : Nat → Nat → Int32} {o : Int64} {ls : sm_L} {x : Int32} : sm_R T_L_tryBestPlace (b, 10, (V, o), ls, [.inl x]) = some ((V, o), .ok (some (.inl x))) := R_ireturn rfl (Or.inr rfl)
theorem s_L_tryMissing_0 {b : Nat} {V : Nat → Nat → Int32} {o : Int64} {tl : sm_L} {x : sm_N} {r : List sm_V} : sm_R T_L_tryMissing (b, 0, (V, o), some (.inr (.inr x)) :: tl, r) = sm_R T_L_tryMissing (b, 1, (V, o), some (.inr (.inr x)) :: tl, .inr (.inr x) :: r) := R_aload_n rfl rfl
theorem s_L_tryMissing_1 {b : Nat} {V : Nat → Nat → Int32} {o : Int64} {l0 : Option sm_V} {tl : sm_L} {x : Int32} {r : List sm_V} : sm_R T_L_tryMissing (b, 1, (V, o), l0 :: some (.inl x) :: tl, r) = sm_R T_L_tryMissing (b, 2, (V, o), l0 :: some (.inl x) :: tl, .inl x :: r) := R_iload_n rfl rfl
theorem s_L_tryMissing_2 {b : Nat} {V : Nat → Nat → Int32} {o : Int64} {ls : sm_L} {r : List sm_V} {k0 i0 : Nat} {a1 : Int32} (h : r.length ≤ 4) (hb : 1 ≤ b) : sm_R T_L_tryMissing (b, 2, (V, o), ls, .inl a1 :: .inr (.inr (9, k0, i0)) :: r) = sm_k2 (F_X9_missing (V, o) [.inr (.inr (9, k0, i0)), .inl a1]) (fun M1 v => sm_R T_L_tryMissing ((b - 1), 5, M1, ls, v.toList ++ r)) (fun M1 e => if e = 1 then (sm_g (sm_lk ls 2 = true) (sm_R T_L_tryMissing ((b - 1), 7, M1, ls.set 2 none, []))) else none) := by
  have h9 := R_callH (T := T_L_tryMissing) (b := b) (pc := 2) (V := V) (o := o) (ls := ls) (r := r) (x := 95) (as := [.inr (.inr (9, k0, i0)), .inl a1]) rfl rfl rfl h hb ⟨rfl, rfl⟩ (by decide)
  refine h9.trans (congrArg (sm_k2 _ _) ?_)
  funext M1 e
  by_cases h1 : e = 1
  · subst h1; rfl
  rw [if_neg h1]
  have hn9 : sm_hnd T_L_tryMissing 2 e = none := by
    cases hq : sm_hnd T_L_tryMissing 2 e with
    | none => rfl
    | some q =>
      have h8 : ((2, e), q) ∈ ([((2, 1), (7, 2))] : List ((Nat × Nat) × (Nat × Nat))) := sm_look2 hq
      simp [h1] at h8
  rw [hn9]
theorem s_L_tryMissing_5 {b : Nat} {V : Nat → Nat → Int32} {o : Int64} {ls : sm_L} {x : Int32} : sm_R T_L_tryMissing (b, 5, (V, o), ls, [.inl x]) = some ((V, o), .ok (some (.inl x))) := R_ireturn rfl (Or.inr rfl)
theorem s_L_tryMissing_7 {b : Nat} {V : Nat → Nat → Int32} {o : Int64} {ls : sm_L} {r : List sm_V} : sm_R T_L_tryMissing (b, 7, (V, o), ls, r) = sm_R T_L_tryMissing (b, 9, (V, o), ls, .inl (-99002) :: r) := R_ldc rfl rfl
theorem s_L_tryMissing_9 {b : Nat} {V : Nat → Nat → Int32} {o : Int64} {ls : sm_L} {x : Int32} : sm_R T_L_tryMissing (b, 9, (V, o), ls, [.inl x]) = some ((V, o), .ok (some (.inl x))) := R_ireturn rfl (Or.inr rfl)
theorem s_L_tryColdest_0 {b : Nat} {V : Nat → Nat → Int32} {o : Int64} {tl : sm_L} {x : sm_N} {r : List sm_V} : sm_R T_L_tryColdest (b, 0, (V, o), some (.inr (.inr x)) :: tl, r) = sm_R T_L_tryColdest (b, 1, (V, o), some (.inr (.inr x)) :: tl, .inr (.inr x) :: r) := R_aload_n rfl rfl
theorem s_L_tryColdest_1 {b : Nat} {V : Nat → Nat → Int32} {o : Int64} {l0 : Option sm_V} {tl : sm_L} {x : Int32} {r : List sm_V} : sm_R T_L_tryColdest (b, 1, (V, o), l0 :: some (.inl x) :: tl, r) = sm_R T_L_tryColdest (b, 2, (V, o), l0 :: some (.inl x) :: tl, .inl x :: r) := R_iload_n rfl rfl
theorem s_L_tryColdest_2 {b : Nat} {V : Nat → Nat → Int32} {o : Int64} {ls : sm_L} {r : List sm_V} {k0 i0 : Nat} {a1 : Int32} (h : r.length ≤ 4) (hb : 1 ≤ b) : sm_R T_L_tryColdest (b, 2, (V, o), ls, .inl a1 :: .inr (.inr (9, k0, i0)) :: r) = sm_k2 (F_X9_coldest (V, o) [.inr (.inr (9, k0, i0)), .inl a1]) (fun M1 v => sm_R T_L_tryColdest ((b - 1), 5, M1, ls, v.toList ++ r)) (fun M1 e => if e = 1 then (sm_g (sm_lk ls 2 = true) (sm_R T_L_tryColdest ((b - 1), 7, M1, ls.set 2 none, []))) else none) := by
  have h9 := R_callH (T := T_L_tryColdest) (b := b) (pc := 2) (V := V) (o := o) (ls := ls) (r := r) (x := 98) (as := [.inr (.inr (9, k0, i0)), .inl a1]) rfl rfl rfl h hb ⟨rfl, rfl⟩ (by decide)
  refine h9.trans (congrArg (sm_k2 _ _) ?_)
  funext M1 e
  by_cases h1 : e = 1
  · subst h1; rfl
  rw [if_neg h1]
  have hn9 : sm_hnd T_L_tryColdest 2 e = none := by
    cases hq : sm_hnd T_L_tryColdest 2 e with
    | none => rfl
    | some q =>
      have h8 : ((2, e), q) ∈ ([((2, 1), (7, 2))] : List ((Nat × Nat) × (Nat × Nat))) := sm_look2 hq
      simp [h1] at h8
  rw [hn9]
theorem s_L_tryColdest_5 {b : Nat} {V : Nat → Nat → Int32} {o : Int64} {ls : sm_L} {x : Int32} : sm_R T_L_tryColdest (b, 5, (V, o), ls, [.inl x]) = some ((V, o), .ok (some (.inl x))) := R_ireturn rfl (Or.inr rfl)
theorem s_L_tryColdest_7 {b : Nat} {V : Nat → Nat → Int32} {o : Int64} {ls : sm_L} {r : List sm_V} : sm_R T_L_tryColdest (b, 7, (V, o), ls, r) = sm_R T_L_tryColdest (b, 9, (V, o), ls, .inl (-99002) :: r) := R_ldc rfl rfl
theorem s_L_tryColdest_9 {b : Nat} {V : Nat → Nat → Int32} {o : Int64} {ls : sm_L} {x : Int32} : sm_R T_L_tryColdest (b, 9, (V, o), ls, [.inl x]) = some ((V, o), .ok (some (.inl x))) := R_ireturn rfl (Or.inr rfl)
theorem s_L_tryScript_0 {b : Nat} {V : Nat → Nat → Int32} {o : Int64} {tl : sm_L} {x : sm_N} {r : List sm_V} : sm_R T_L_tryScript (b, 0, (V, o), some (.inr (.inr x)) :: tl, r) = sm_R T_L_tryScript (b, 1, (V, o), some (.inr (.inr x)) :: tl, .inr (.inr x) :: r) := R_aload_n rfl rfl
theorem s_L_tryScript_1 {b : Nat} {V : Nat → Nat → Int32} {o : Int64} {l0 : Option sm_V} {tl : sm_L} {x : Int32} {r : List sm_V} : sm_R T_L_tryScript (b, 1, (V, o), l0 :: some (.inl x) :: tl, r) = sm_R T_L_tryScript (b, 2, (V, o), l0 :: some (.inl x) :: tl, .inl x :: r) := R_iload_n rfl rfl
theorem s_L_tryScript_2 {b : Nat} {V : Nat → Nat → Int32} {o : Int64} {l0 l1 : Option sm_V} {tl : sm_L} {x : Int64} {r : List sm_V} : sm_R T_L_tryScript (b, 2, (V, o), l0 :: l1 :: some (.inr (.inl x)) :: tl, r) = sm_R T_L_tryScript (b, 3, (V, o), l0 :: l1 :: some (.inr (.inl x)) :: tl, .inr (.inl x) :: r) := R_lload_n rfl rfl
theorem s_L_tryScript_3 {b : Nat} {V : Nat → Nat → Int32} {o : Int64} {ls : sm_L} {r : List sm_V} {k0 i0 : Nat} {a1 : Int32} {a2 : Int64} (h : r.length ≤ 4) (hb : 1 ≤ b) : sm_R T_L_tryScript (b, 3, (V, o), ls, .inr (.inl a2) :: .inl a1 :: .inr (.inr (9, k0, i0)) :: r) = sm_k2 (F_X9_runScript (V, o) [.inr (.inr (9, k0, i0)), .inl a1, .inr (.inl a2)]) (fun M1 v => sm_R T_L_tryScript ((b - 1), 6, M1, ls, v.toList ++ r)) (fun M1 e => if e = 1 then (sm_g (sm_lk ls 4 = true) (sm_R T_L_tryScript ((b - 1), 9, M1, ls.set 4 none, []))) else none) := by
  have h9 := R_callH (T := T_L_tryScript) (b := b) (pc := 3) (V := V) (o := o) (ls := ls) (r := r) (x := 101) (as := [.inr (.inr (9, k0, i0)), .inl a1, .inr (.inl a2)]) rfl rfl rfl h hb ⟨rfl, rfl⟩ (by decide)
  refine h9.trans (congrArg (sm_k2 _ _) ?_)
  funext M1 e
  by_cases h1 : e = 1
  · subst h1; rfl
  rw [if_neg h1]
  have hn9 : sm_hnd T_L_tryScript 3 e = none := by
    cases hq : sm_hnd T_L_tryScript 3 e with
    | none => rfl
    | some q =>
      have h8 : ((3, e), q) ∈ ([((3, 1), (9, 4))] : List ((Nat × Nat) × (Nat × Nat))) := sm_look2 hq
      simp [h1] at h8
  rw [hn9]
theorem s_L_tryScript_6 {b : Nat} {V : Nat → Nat → Int32} {o : Int64} {ls : sm_L} {x : Int32} : sm_R T_L_tryScript (b, 6, (V, o), ls, [.inl x]) = some ((V, o), .ok (some (.inl x))) := R_ireturn rfl (Or.inr rfl)
theorem s_L_tryScript_9 {b : Nat} {V : Nat → Nat → Int32} {o : Int64} {ls : sm_L} {r : List sm_V} : sm_R T_L_tryScript (b, 9, (V, o), ls, r) = sm_R T_L_tryScript (b, 11, (V, o), ls, .inl (-99002) :: r) := R_ldc rfl rfl
theorem s_L_tryScript_11 {b : Nat} {V : Nat → Nat → Int32} {o : Int64} {ls : sm_L} {x : Int32} : sm_R T_L_tryScript (b, 11, (V, o), ls, [.inl x]) = some ((V, o), .ok (some (.inl x))) := R_ireturn rfl (Or.inr rfl)
theorem s_L_trySimulate_0 {b : Nat} {V : Nat → Nat → Int32} {o : Int64} {tl : sm_L} {x : sm_N} {r : List sm_V} : sm_R T_L_trySimulate (b, 0, (V, o), some (.inr (.inr x)) :: tl, r) = sm_R T_L_trySimulate (b, 1, (V, o), some (.inr (.inr x)) :: tl, .inr (.inr x) :: r) := R_aload_n rfl rfl
theorem s_L_trySimulate_1 {b : Nat} {V : Nat → Nat → Int32} {o : Int64} {l0 : Option sm_V} {tl : sm_L} {x : Int64} {r : List sm_V} : sm_R T_L_trySimulate (b, 1, (V, o), l0 :: some (.inr (.inl x)) :: tl, r) = sm_R T_L_trySimulate (b, 2, (V, o), l0 :: some (.inr (.inl x)) :: tl, .inr (.inl x) :: r) := R_lload_n rfl rfl
theorem s_L_trySimulate_2 {b : Nat} {V : Nat → Nat → Int32} {o : Int64} {l0 l1 l2 : Option sm_V} {tl : sm_L} {x : Int32} {r : List sm_V} : sm_R T_L_trySimulate (b, 2, (V, o), l0 :: l1 :: l2 :: some (.inl x) :: tl, r) = sm_R T_L_trySimulate (b, 3, (V, o), l0 :: l1 :: l2 :: some (.inl x) :: tl, .inl x :: r) := R_iload_n rfl rfl
theorem s_L_trySimulate_3 {b : Nat} {V : Nat → Nat → Int32} {o : Int64} {ls : sm_L} {r : List sm_V} {k0 i0 : Nat} {a1 : Int64} {a2 : Int32} (h : r.length ≤ 4) (hb : 1 ≤ b) : sm_R T_L_trySimulate (b, 3, (V, o), ls, .inl a2 :: .inr (.inl a1) :: .inr (.inr (9, k0, i0)) :: r) = sm_k2 (F_X9_simulate (V, o) [.inr (.inr (9, k0, i0)), .inr (.inl a1), .inl a2]) (fun M1 v => sm_R T_L_trySimulate ((b - 1), 6, M1, ls, v.toList ++ r)) (fun M1 e => if e = 1 then (sm_g (sm_lk ls 4 = true) (sm_R T_L_trySimulate ((b - 1), 9, M1, ls.set 4 none, []))) else none) := by
  have h9 := R_callH (T := T_L_trySimulate) (b := b) (pc := 3) (V := V) (o := o) (ls := ls) (r := r) (x := 105) (as := [.inr (.inr (9, k0, i0)), .inr (.inl a1), .inl a2]) rfl rfl rfl h hb ⟨rfl, rfl⟩ (by decide)
  refine h9.trans (congrArg (sm_k2 _ _) ?_)
  funext M1 e
  by_cases h1 : e = 1
  · subst h1; rfl
  rw [if_neg h1]
  have hn9 : sm_hnd T_L_trySimulate 3 e = none := by
    cases hq : sm_hnd T_L_trySimulate 3 e with
    | none => rfl
    | some q =>
      have h8 : ((3, e), q) ∈ ([((3, 1), (9, 4))] : List ((Nat × Nat) × (Nat × Nat))) := sm_look2 hq
      simp [h1] at h8
  rw [hn9]
theorem s_L_trySimulate_6 {b : Nat} {V : Nat → Nat → Int32} {o : Int64} {ls : sm_L} {x : Int32} : sm_R T_L_trySimulate (b, 6, (V, o), ls, [.inl x]) = some ((V, o), .ok (some (.inl x))) := R_ireturn rfl (Or.inr rfl)
theorem s_L_trySimulate_9 {b : Nat} {V : Nat → Nat → Int32} {o : Int64} {ls : sm_L} {r : List sm_V} : sm_R T_L_trySimulate (b, 9, (V, o), ls, r) = sm_R T_L_trySimulate (b, 11, (V, o), ls, .inl (-99002) :: r) := R_ldc rfl rfl
theorem s_L_trySimulate_11 {b : Nat} {V : Nat → Nat → Int32} {o : Int64} {ls : sm_L} {x : Int32} : sm_R T_L_trySimulate (b, 11, (V, o), ls, [.inl x]) = some ((V, o), .ok (some (.inl x))) := R_ireturn rfl (Or.inr rfl)
theorem s_L_trySave_0 {b : Nat} {V : Nat → Nat → Int32} {o : Int64} {tl : sm_L} {x : sm_N} {r : List sm_V} : sm_R T_L_trySave (b, 0, (V, o), some (.inr (.inr x)) :: tl, r) = sm_R T_L_trySave (b, 1, (V, o), some (.inr (.inr x)) :: tl, .inr (.inr x) :: r) := R_aload_n rfl rfl
theorem s_L_trySave_1 {b : Nat} {V : Nat → Nat → Int32} {o : Int64} {l0 : Option sm_V} {tl : sm_L} {x : Int32} {r : List sm_V} : sm_R T_L_trySave (b, 1, (V, o), l0 :: some (.inl x) :: tl, r) = sm_R T_L_trySave (b, 2, (V, o), l0 :: some (.inl x) :: tl, .inl x :: r) := R_iload_n rfl rfl
theorem s_L_trySave_2 {b : Nat} {V : Nat → Nat → Int32} {o : Int64} {ls : sm_L} {r : List sm_V} {k0 i0 : Nat} {a1 : Int32} (h : r.length ≤ 4) (hb : 1 ≤ b) : sm_R T_L_trySave (b, 2, (V, o), ls, .inl a1 :: .inr (.inr (9, k0, i0)) :: r) = sm_k2 (F_X9_save (V, o) [.inr (.inr (9, k0, i0)), .inl a1]) (fun M1 v => sm_R T_L_trySave ((b - 1), 5, M1, ls, v.toList ++ r)) (fun M1 e => if e = 3 then (sm_g (sm_lk ls 2 = true) (sm_R T_L_trySave ((b - 1), 7, M1, ls.set 2 none, []))) else none) := by
  have h9 := R_callH (T := T_L_trySave) (b := b) (pc := 2) (V := V) (o := o) (ls := ls) (r := r) (x := 109) (as := [.inr (.inr (9, k0, i0)), .inl a1]) rfl rfl rfl h hb ⟨rfl, rfl⟩ (by decide)
  refine h9.trans (congrArg (sm_k2 _ _) ?_)
  funext M1 e
  by_cases h3 : e = 3
  · subst h3; rfl
  rw [if_neg h3]
  have hn9 : sm_hnd T_L_trySave 2 e = none := by
    cases hq : sm_hnd T_L_trySave 2 e with
    | none => rfl
    | some q =>
      have h8 : ((2, e), q) ∈ ([((2, 3), (7, 2))] : List ((Nat × Nat) × (Nat × Nat))) := sm_look2 hq
      simp [h3] at h8
  rw [hn9]
theorem s_L_trySave_5 {b : Nat} {V : Nat → Nat → Int32} {o : Int64} {ls : sm_L} {x : Int32} : sm_R T_L_trySave (b, 5, (V, o), ls, [.inl x]) = some ((V, o), .ok (some (.inl x))) := R_ireturn rfl (Or.inr rfl)
theorem s_L_trySave_7 {b : Nat} {V : Nat → Nat → Int32} {o : Int64} {ls : sm_L} {r : List sm_V} : sm_R T_L_trySave (b, 7, (V, o), ls, r) = sm_R T_L_trySave (b, 9, (V, o), ls, .inl (-99001) :: r) := R_ldc rfl rfl
theorem s_L_trySave_9 {b : Nat} {V : Nat → Nat → Int32} {o : Int64} {ls : sm_L} {x : Int32} : sm_R T_L_trySave (b, 9, (V, o), ls, [.inl x]) = some ((V, o), .ok (some (.inl x))) := R_ireturn rfl (Or.inr rfl)
theorem s_L_tryRestore_0 {b : Nat} {V : Nat → Nat → Int32} {o : Int64} {tl : sm_L} {x : sm_N} {r : List sm_V} : sm_R T_L_tryRestore (b, 0, (V, o), some (.inr (.inr x)) :: tl, r) = sm_R T_L_tryRestore (b, 1, (V, o), some (.inr (.inr x)) :: tl, .inr (.inr x) :: r) := R_aload_n rfl rfl
theorem s_L_tryRestore_1 {b : Nat} {V : Nat → Nat → Int32} {o : Int64} {l0 : Option sm_V} {tl : sm_L} {x : Int32} {r : List sm_V} : sm_R T_L_tryRestore (b, 1, (V, o), l0 :: some (.inl x) :: tl, r) = sm_R T_L_tryRestore (b, 2, (V, o), l0 :: some (.inl x) :: tl, .inl x :: r) := R_iload_n rfl rfl
theorem s_L_tryRestore_2 {b : Nat} {V : Nat → Nat → Int32} {o : Int64} {ls : sm_L} {r : List sm_V} {k0 i0 : Nat} {a1 : Int32} (h : r.length ≤ 4) (hb : 2 ≤ b) : sm_R T_L_tryRestore (b, 2, (V, o), ls, .inl a1 :: .inr (.inr (9, k0, i0)) :: r) = sm_k2 (F_X9_restore (V, o) [.inr (.inr (9, k0, i0)), .inl a1]) (fun M1 v => sm_R T_L_tryRestore ((b - 2), 5, M1, ls, v.toList ++ r)) (fun M1 e => if e = 3 then (sm_g (sm_lk ls 2 = true) (sm_R T_L_tryRestore ((b - 2), 7, M1, ls.set 2 none, []))) else if e = 2 then (sm_g (sm_lk ls 2 = true) (sm_R T_L_tryRestore ((b - 2), 11, M1, ls.set 2 none, []))) else none) := by
  have h9 := R_callH (T := T_L_tryRestore) (b := b) (pc := 2) (V := V) (o := o) (ls := ls) (r := r) (x := 112) (as := [.inr (.inr (9, k0, i0)), .inl a1]) rfl rfl rfl h hb ⟨rfl, rfl⟩ (by decide)
  refine h9.trans (congrArg (sm_k2 _ _) ?_)
  funext M1 e
  by_cases h3 : e = 3
  · subst h3; rfl
  rw [if_neg h3]
  by_cases h2 : e = 2
  · subst h2; rfl
  rw [if_neg h2]
  have hn9 : sm_hnd T_L_tryRestore 2 e = none := by
    cases hq : sm_hnd T_L_tryRestore 2 e with
    | none => rfl
    | some q =>
      have h8 : ((2, e), q) ∈ ([((2, 3), (7, 2)), ((2, 2), (11, 2))] : List ((Nat × Nat) × (Nat × Nat))) := sm_look2 hq
      simp [h3, h2] at h8
  rw [hn9]
theorem s_L_tryRestore_5 {b : Nat} {V : Nat → Nat → Int32} {o : Int64} {ls : sm_L} {x : Int32} : sm_R T_L_tryRestore (b, 5, (V, o), ls, [.inl x]) = some ((V, o), .ok (some (.inl x))) := R_ireturn rfl (Or.inr rfl)
theorem s_L_tryRestore_7 {b : Nat} {V : Nat → Nat → Int32} {o : Int64} {ls : sm_L} {r : List sm_V} : sm_R T_L_tryRestore (b, 7, (V, o), ls, r) = sm_R T_L_tryRestore (b, 9, (V, o), ls, .inl (-99001) :: r) := R_ldc rfl rfl
theorem s_L_tryRestore_9 {b : Nat} {V : Nat → Nat → Int32} {o : Int64} {ls : sm_L} {x : Int32} : sm_R T_L_tryRestore (b, 9, (V, o), ls, [.inl x]) = some ((V, o), .ok (some (.inl x))) := R_ireturn rfl (Or.inr rfl)
theorem s_L_tryRestore_11 {b : Nat} {V : Nat → Nat → Int32} {o : Int64} {ls : sm_L} {r : List sm_V} : sm_R T_L_tryRestore (b, 11, (V, o), ls, r) = sm_R T_L_tryRestore (b, 13, (V, o), ls, .inl (-99003) :: r) := R_ldc rfl rfl
theorem s_L_tryRestore_13 {b : Nat} {V : Nat → Nat → Int32} {o : Int64} {ls : sm_L} {x : Int32} : sm_R T_L_tryRestore (b, 13, (V, o), ls, [.inl x]) = some ((V, o), .ok (some (.inl x))) := R_ireturn rfl (Or.inr rfl)
theorem s_L_number_0 {b : Nat} {V : Nat → Nat → Int32} {o : Int64} {sc : Nat × (Nat → Int32)} {l0 : Option sm_V} {tl : sm_L} {x : Int32} {r : List sm_V} : sm_R (T_L_number sc) (b, 0, (V, o), l0 :: some (.inl x) :: tl, r) = sm_R (T_L_number sc) (b, 1, (V, o), l0 :: some (.inl x) :: tl, .inl x :: r) := R_iload_n rfl rfl
theorem s_L_number_1 {b : Nat} {V : Nat → Nat → Int32} {o : Int64} {sc : Nat × (Nat → Int32)} {tl : sm_L} {x : sm_N} {r : List sm_V} : sm_R (T_L_number sc) (b, 1, (V, o), some (.inr (.inr x)) :: tl, r) = sm_R (T_L_number sc) (b, 2, (V, o), some (.inr (.inr x)) :: tl, .inr (.inr x) :: r) := R_aload_n rfl rfl
theorem s_L_number_2 {b : Nat} {V : Nat → Nat → Int32} {o : Int64} {sc : Nat × (Nat → Int32)} {ls : sm_L} {r : List sm_V} : sm_R (T_L_number sc) (b, 2, (V, o), ls, .inr (.inr (61, 0, 0)) :: r) = sm_R (T_L_number sc) (b, 3, (V, o), ls, .inl (Int32.ofNat sc.1) :: r) := R_alen rfl rfl rfl
theorem s_L_number_3 {b : Nat} {V : Nat → Nat → Int32} {o : Int64} {sc : Nat × (Nat → Int32)} {ls : sm_L} {r : List sm_V} {x y : Int32} : sm_R (T_L_number sc) (b, 3, (V, o), ls, .inl y :: .inl x :: r) = if y ≤ x then sm_R (T_L_number sc) (b, 12, (V, o), ls, r) else sm_R (T_L_number sc) (b, 6, (V, o), ls, r) := R_icmp_ge (tgt := 12) rfl (by decide)
theorem s_L_number_6 {b : Nat} {V : Nat → Nat → Int32} {o : Int64} {sc : Nat × (Nat → Int32)} {tl : sm_L} {x : sm_N} {r : List sm_V} : sm_R (T_L_number sc) (b, 6, (V, o), some (.inr (.inr x)) :: tl, r) = sm_R (T_L_number sc) (b, 7, (V, o), some (.inr (.inr x)) :: tl, .inr (.inr x) :: r) := R_aload_n rfl rfl
theorem s_L_number_7 {b : Nat} {V : Nat → Nat → Int32} {o : Int64} {sc : Nat × (Nat → Int32)} {l0 : Option sm_V} {tl : sm_L} {x : Int32} {r : List sm_V} : sm_R (T_L_number sc) (b, 7, (V, o), l0 :: some (.inl x) :: tl, r) = sm_R (T_L_number sc) (b, 8, (V, o), l0 :: some (.inl x) :: tl, .inl x :: r) := R_iload_n rfl rfl
theorem s_L_number_8 {b : Nat} {V : Nat → Nat → Int32} {o : Int64} {sc : Nat × (Nat → Int32)} {ls : sm_L} {r : List sm_V} {j : Int32} (h : vp_in j sc.1) : sm_R (T_L_number sc) (b, 8, (V, o), ls, .inl j :: .inr (.inr (61, 0, 0)) :: r) = sm_R (T_L_number sc) (b, 9, (V, o), ls, .inl (sc.2 j.toNatClampNeg) :: r) := R_roload rfl rfl rfl h
theorem s_L_number_9 {b : Nat} {V : Nat → Nat → Int32} {o : Int64} {sc : Nat × (Nat → Int32)} {ls : sm_L} {r : List sm_V} : sm_R (T_L_number sc) (b, 9, (V, o), ls, r) = sm_R (T_L_number sc) (b, 22, (V, o), ls, r) := R_goto (tgt := 22) rfl (by decide)
theorem s_L_number_12 {b : Nat} {V : Nat → Nat → Int32} {o : Int64} {sc : Nat × (Nat → Int32)} {ls : sm_L} {r : List sm_V} : sm_R (T_L_number sc) (b, 12, (V, o), ls, r) = sm_R (T_L_number sc) (b, 14, (V, o), ls, .inl 15516947 :: r) := R_ldc rfl rfl
theorem s_L_number_14 {b : Nat} {V : Nat → Nat → Int32} {o : Int64} {sc : Nat × (Nat → Int32)} {l0 : Option sm_V} {tl : sm_L} {x : Int32} {r : List sm_V} : sm_R (T_L_number sc) (b, 14, (V, o), l0 :: some (.inl x) :: tl, r) = sm_R (T_L_number sc) (b, 15, (V, o), l0 :: some (.inl x) :: tl, .inl x :: r) := R_iload_n rfl rfl
theorem s_L_number_15 {b : Nat} {V : Nat → Nat → Int32} {o : Int64} {sc : Nat × (Nat → Int32)} {ls : sm_L} {r : List sm_V} : sm_R (T_L_number sc) (b, 15, (V, o), ls, r) = sm_R (T_L_number sc) (b, 16, (V, o), ls, .inl 5 :: r) := R_iconst rfl (by decide)
theorem s_L_number_16 {b : Nat} {V : Nat → Nat → Int32} {o : Int64} {sc : Nat × (Nat → Int32)} {ls : sm_L} {r : List sm_V} {x y : Int32} : sm_R (T_L_number sc) (b, 16, (V, o), ls, .inl y :: .inl x :: r) = sm_R (T_L_number sc) (b, 17, (V, o), ls, .inl (x + y) :: r) := R_iadd rfl
theorem s_L_number_17 {b : Nat} {V : Nat → Nat → Int32} {o : Int64} {sc : Nat × (Nat → Int32)} {ls : sm_L} {r : List sm_V} {x y : Int32} : sm_R (T_L_number sc) (b, 17, (V, o), ls, .inl y :: .inl x :: r) = sm_R (T_L_number sc) (b, 18, (V, o), ls, .inl (x * y) :: r) := R_imul rfl
theorem s_L_number_18 {b : Nat} {V : Nat → Nat → Int32} {o : Int64} {sc : Nat × (Nat → Int32)} {ls : sm_L} {r : List sm_V} : sm_R (T_L_number sc) (b, 18, (V, o), ls, r) = sm_R (T_L_number sc) (b, 21, (V, o), ls, .inl 10111 :: r) := R_sipush rfl (by decide)
theorem s_L_number_21 {b : Nat} {V : Nat → Nat → Int32} {o : Int64} {sc : Nat × (Nat → Int32)} {ls : sm_L} {r : List sm_V} {x y : Int32} : sm_R (T_L_number sc) (b, 21, (V, o), ls, .inl y :: .inl x :: r) = sm_R (T_L_number sc) (b, 22, (V, o), ls, .inl (x + y) :: r) := R_iadd rfl
theorem s_L_number_22 {b : Nat} {V : Nat → Nat → Int32} {o : Int64} {sc : Nat × (Nat → Int32)} {ls : sm_L} {r : List sm_V} : sm_R (T_L_number sc) (b, 22, (V, o), ls, r) = sm_R (T_L_number sc) (b, 24, (V, o), ls, .inl 2147483647 :: r) := R_ldc rfl rfl
theorem s_L_number_24 {b : Nat} {V : Nat → Nat → Int32} {o : Int64} {sc : Nat × (Nat → Int32)} {ls : sm_L} {r : List sm_V} {x y : Int32} : sm_R (T_L_number sc) (b, 24, (V, o), ls, .inl y :: .inl x :: r) = sm_R (T_L_number sc) (b, 25, (V, o), ls, .inl (x &&& y) :: r) := R_iand rfl
theorem s_L_number_25 {b : Nat} {V : Nat → Nat → Int32} {o : Int64} {sc : Nat × (Nat → Int32)} {ls : sm_L} {x : Int32} : sm_R (T_L_number sc) (b, 25, (V, o), ls, [.inl x]) = some ((V, o), .ok (some (.inl x))) := R_ireturn rfl (Or.inl rfl)
theorem s_L_put_0 {b : Nat} {V : Nat → Nat → Int32} {o : Int64} {tl : sm_L} {x : sm_N} {r : List sm_V} : sm_R T_L_put (b, 0, (V, o), some (.inr (.inr x)) :: tl, r) = sm_R T_L_put (b, 1, (V, o), some (.inr (.inr x)) :: tl, .inr (.inr x) :: r) := R_aload_n rfl rfl
theorem s_L_put_1 {b : Nat} {V : Nat → Nat → Int32} {o : Int64} {l0 l1 : Option sm_V} {tl : sm_L} {x : Int32} {r : List sm_V} : sm_R T_L_put (b, 1, (V, o), l0 :: l1 :: some (.inl x) :: tl, r) = sm_R T_L_put (b, 2, (V, o), l0 :: l1 :: some (.inl x) :: tl, .inl x :: r) := R_iload_n rfl rfl
theorem s_L_put_2 {b : Nat} {V : Nat → Nat → Int32} {o : Int64} {ls : sm_L} {r : List sm_V} {a0 : sm_N} {a1 : Int32} (h : r.length ≤ 4) (hb : 1 ≤ b) : sm_R T_L_put (b, 2, (V, o), ls, .inl a1 :: .inr (.inr a0) :: r) = sm_k1 (sm_du F_L_tryAppend (V, o) [.inr (.inr a0), .inl a1]) (fun M1 v => sm_R T_L_put ((b - 1), 5, M1, ls, v.toList ++ r)) := R_call (T := T_L_put) (x := 117) (virt := false) (as := [.inr (.inr a0), .inl a1]) rfl rfl rfl h hb (fun q => by cases q) (fun _ => ⟨by decide, rfl⟩) (fun _ => rfl) (by decide)
theorem s_L_put_5 {b : Nat} {V : Nat → Nat → Int32} {o : Int64} {ls : sm_L} {r : List sm_V} {x : Int32} : sm_R T_L_put (b, 5, (V, o), ls, .inl x :: r) = if x ≤ 0 then sm_R T_L_put (b, 20, (V, o), ls, r) else sm_R T_L_put (b, 8, (V, o), ls, r) := R_if_le (tgt := 20) rfl (by decide)
theorem s_L_put_8 {b : Nat} {V : Nat → Nat → Int32} {o : Int64} {l0 : Option sm_V} {tl : sm_L} {x : sm_N} {r : List sm_V} : sm_R T_L_put (b, 8, (V, o), l0 :: some (.inr (.inr x)) :: tl, r) = sm_R T_L_put (b, 9, (V, o), l0 :: some (.inr (.inr x)) :: tl, .inr (.inr x) :: r) := R_aload_n rfl rfl
theorem s_L_put_9 {b : Nat} {V : Nat → Nat → Int32} {o : Int64} {l0 l1 : Option sm_V} {tl : sm_L} {x : Int32} {r : List sm_V} : sm_R T_L_put (b, 9, (V, o), l0 :: l1 :: some (.inl x) :: tl, r) = sm_R T_L_put (b, 10, (V, o), l0 :: l1 :: some (.inl x) :: tl, .inl x :: r) := R_iload_n rfl rfl
theorem s_L_put_10 {b : Nat} {V : Nat → Nat → Int32} {o : Int64} {ls : sm_L} {r : List sm_V} {a0 : sm_N} {a1 : Int32} (h : r.length ≤ 4) (hb : 1 ≤ b) : sm_R T_L_put (b, 10, (V, o), ls, .inl a1 :: .inr (.inr a0) :: r) = sm_k1 (sm_du F_L_tryAppend (V, o) [.inr (.inr a0), .inl a1]) (fun M1 v => sm_R T_L_put ((b - 1), 13, M1, ls, v.toList ++ r)) := R_call (T := T_L_put) (x := 117) (virt := false) (as := [.inr (.inr a0), .inl a1]) rfl rfl rfl h hb (fun q => by cases q) (fun _ => ⟨by decide, rfl⟩) (fun _ => rfl) (by decide)
theorem s_L_put_13 {b : Nat} {V : Nat → Nat → Int32} {o : Int64} {ls : sm_L} {r : List sm_V} {x : Int32} : sm_R T_L_put (b, 13, (V, o), ls, .inl x :: r) = if x ≤ 0 then sm_R T_L_put (b, 20, (V, o), ls, r) else sm_R T_L_put (b, 16, (V, o), ls, r) := R_if_le (tgt := 20) rfl (by decide)
theorem s_L_put_16 {b : Nat} {V : Nat → Nat → Int32} {o : Int64} {ls : sm_L} {r : List sm_V} : sm_R T_L_put (b, 16, (V, o), ls, r) = sm_R T_L_put (b, 17, (V, o), ls, .inl 1 :: r) := R_iconst rfl (by decide)
theorem s_L_put_17 {b : Nat} {V : Nat → Nat → Int32} {o : Int64} {ls : sm_L} {r : List sm_V} : sm_R T_L_put (b, 17, (V, o), ls, r) = sm_R T_L_put (b, 21, (V, o), ls, r) := R_goto (tgt := 21) rfl (by decide)
theorem s_L_put_20 {b : Nat} {V : Nat → Nat → Int32} {o : Int64} {ls : sm_L} {r : List sm_V} : sm_R T_L_put (b, 20, (V, o), ls, r) = sm_R T_L_put (b, 21, (V, o), ls, .inl 0 :: r) := R_iconst rfl (by decide)
theorem s_L_put_21 {b : Nat} {V : Nat → Nat → Int32} {o : Int64} {ls : sm_L} {x : Int32} (hz : x = 0 ∨ x = 1) : sm_R T_L_put (b, 21, (V, o), ls, [.inl x]) = some ((V, o), .ok (some (.inl x))) := R_zreturn rfl rfl hz
theorem s_L_two_0 {b : Nat} {V : Nat → Nat → Int32} {o : Int64} {tl : sm_L} {x : sm_N} {r : List sm_V} : sm_R T_L_two (b, 0, (V, o), some (.inr (.inr x)) :: tl, r) = sm_R T_L_two (b, 1, (V, o), some (.inr (.inr x)) :: tl, .inr (.inr x) :: r) := R_aload_n rfl rfl
theorem s_L_two_1 {b : Nat} {V : Nat → Nat → Int32} {o : Int64} {l0 : Option sm_V} {tl : sm_L} {x : sm_N} {r : List sm_V} : sm_R T_L_two (b, 1, (V, o), l0 :: some (.inr (.inr x)) :: tl, r) = sm_R T_L_two (b, 2, (V, o), l0 :: some (.inr (.inr x)) :: tl, .inr (.inr x) :: r) := R_aload_n rfl rfl
theorem s_L_two_2 {b : Nat} {V : Nat → Nat → Int32} {o : Int64} {ls : sm_L} {r : List sm_V} : sm_R T_L_two (b, 2, (V, o), ls, r) = sm_R T_L_two (b, 4, (V, o), ls, .inl 48 :: r) := R_bipush rfl (by decide)
theorem s_L_two_4 {b : Nat} {V : Nat → Nat → Int32} {o : Int64} {l0 l1 : Option sm_V} {tl : sm_L} {x : Int32} {r : List sm_V} : sm_R T_L_two (b, 4, (V, o), l0 :: l1 :: some (.inl x) :: tl, r) = sm_R T_L_two (b, 5, (V, o), l0 :: l1 :: some (.inl x) :: tl, .inl x :: r) := R_iload_n rfl rfl
theorem s_L_two_5 {b : Nat} {V : Nat → Nat → Int32} {o : Int64} {ls : sm_L} {r : List sm_V} : sm_R T_L_two (b, 5, (V, o), ls, r) = sm_R T_L_two (b, 7, (V, o), ls, .inl 10 :: r) := R_bipush rfl (by decide)
theorem s_L_two_7 {b : Nat} {V : Nat → Nat → Int32} {o : Int64} {ls : sm_L} {r : List sm_V} {x y : Int32} (hn : ¬ y = 0) : sm_R T_L_two (b, 7, (V, o), ls, .inl y :: .inl x :: r) = sm_R T_L_two (b, 8, (V, o), ls, .inl (x / y) :: r) := R_idiv rfl hn
theorem s_L_two_8 {b : Nat} {V : Nat → Nat → Int32} {o : Int64} {ls : sm_L} {r : List sm_V} {x y : Int32} : sm_R T_L_two (b, 8, (V, o), ls, .inl y :: .inl x :: r) = sm_R T_L_two (b, 9, (V, o), ls, .inl (x + y) :: r) := R_iadd rfl
theorem s_L_two_9 {b : Nat} {V : Nat → Nat → Int32} {o : Int64} {ls : sm_L} {r : List sm_V} {a0 : sm_N} {a1 : sm_N} {a2 : Int32} (h : r.length ≤ 4) (hb : 2 ≤ b) : sm_R T_L_two (b, 9, (V, o), ls, .inl a2 :: .inr (.inr a1) :: .inr (.inr a0) :: r) = sm_k1 (F_L_put (V, o) [.inr (.inr a0), .inr (.inr a1), .inl a2]) (fun M1 v => sm_R T_L_two ((b - 2), 12, M1, ls, v.toList ++ r)) := R_call (T := T_L_two) (x := 123) (virt := false) (as := [.inr (.inr a0), .inr (.inr a1), .inl a2]) rfl rfl rfl h hb (fun q => by cases q) (fun _ => ⟨by decide, rfl⟩) (fun _ => rfl) (by decide)
theorem s_L_two_12 {b : Nat} {V : Nat → Nat → Int32} {o : Int64} {ls : sm_L} {r : List sm_V} {x : Int32} : sm_R T_L_two (b, 12, (V, o), ls, .inl x :: r) = if x = 0 then sm_R T_L_two (b, 34, (V, o), ls, r) else sm_R T_L_two (b, 15, (V, o), ls, r) := R_if_eq (tgt := 34) rfl (by decide)
theorem s_L_two_15 {b : Nat} {V : Nat → Nat → Int32} {o : Int64} {tl : sm_L} {x : sm_N} {r : List sm_V} : sm_R T_L_two (b, 15, (V, o), some (.inr (.inr x)) :: tl, r) = sm_R T_L_two (b, 16, (V, o), some (.inr (.inr x)) :: tl, .inr (.inr x) :: r) := R_aload_n rfl rfl
theorem s_L_two_16 {b : Nat} {V : Nat → Nat → Int32} {o : Int64} {l0 : Option sm_V} {tl : sm_L} {x : sm_N} {r : List sm_V} : sm_R T_L_two (b, 16, (V, o), l0 :: some (.inr (.inr x)) :: tl, r) = sm_R T_L_two (b, 17, (V, o), l0 :: some (.inr (.inr x)) :: tl, .inr (.inr x) :: r) := R_aload_n rfl rfl
theorem s_L_two_17 {b : Nat} {V : Nat → Nat → Int32} {o : Int64} {ls : sm_L} {r : List sm_V} : sm_R T_L_two (b, 17, (V, o), ls, r) = sm_R T_L_two (b, 19, (V, o), ls, .inl 48 :: r) := R_bipush rfl (by decide)
theorem s_L_two_19 {b : Nat} {V : Nat → Nat → Int32} {o : Int64} {l0 l1 : Option sm_V} {tl : sm_L} {x : Int32} {r : List sm_V} : sm_R T_L_two (b, 19, (V, o), l0 :: l1 :: some (.inl x) :: tl, r) = sm_R T_L_two (b, 20, (V, o), l0 :: l1 :: some (.inl x) :: tl, .inl x :: r) := R_iload_n rfl rfl
theorem s_L_two_20 {b : Nat} {V : Nat → Nat → Int32} {o : Int64} {ls : sm_L} {r : List sm_V} : sm_R T_L_two (b, 20, (V, o), ls, r) = sm_R T_L_two (b, 22, (V, o), ls, .inl 10 :: r) := R_bipush rfl (by decide)
theorem s_L_two_22 {b : Nat} {V : Nat → Nat → Int32} {o : Int64} {ls : sm_L} {r : List sm_V} {x y : Int32} (hn : ¬ y = 0) : sm_R T_L_two (b, 22, (V, o), ls, .inl y :: .inl x :: r) = sm_R T_L_two (b, 23, (V, o), ls, .inl (x - x / y * y) :: r) := R_irem rfl hn
theorem s_L_two_23 {b : Nat} {V : Nat → Nat → Int32} {o : Int64} {ls : sm_L} {r : List sm_V} {x y : Int32} : sm_R T_L_two (b, 23, (V, o), ls, .inl y :: .inl x :: r) = sm_R T_L_two (b, 24, (V, o), ls, .inl (x + y) :: r) := R_iadd rfl
theorem s_L_two_24 {b : Nat} {V : Nat → Nat → Int32} {o : Int64} {ls : sm_L} {r : List sm_V} {a0 : sm_N} {a1 : sm_N} {a2 : Int32} (h : r.length ≤ 4) (hb : 2 ≤ b) : sm_R T_L_two (b, 24, (V, o), ls, .inl a2 :: .inr (.inr a1) :: .inr (.inr a0) :: r) = sm_k1 (F_L_put (V, o) [.inr (.inr a0), .inr (.inr a1), .inl a2]) (fun M1 v => sm_R T_L_two ((b - 2), 27, M1, ls, v.toList ++ r)) := R_call (T := T_L_two) (x := 123) (virt := false) (as := [.inr (.inr a0), .inr (.inr a1), .inl a2]) rfl rfl rfl h hb (fun q => by cases q) (fun _ => ⟨by decide, rfl⟩) (fun _ => rfl) (by decide)
theorem s_L_two_27 {b : Nat} {V : Nat → Nat → Int32} {o : Int64} {ls : sm_L} {r : List sm_V} {x : Int32} : sm_R T_L_two (b, 27, (V, o), ls, .inl x :: r) = if x = 0 then sm_R T_L_two (b, 34, (V, o), ls, r) else sm_R T_L_two (b, 30, (V, o), ls, r) := R_if_eq (tgt := 34) rfl (by decide)
theorem s_L_two_30 {b : Nat} {V : Nat → Nat → Int32} {o : Int64} {ls : sm_L} {r : List sm_V} : sm_R T_L_two (b, 30, (V, o), ls, r) = sm_R T_L_two (b, 31, (V, o), ls, .inl 1 :: r) := R_iconst rfl (by decide)
theorem s_L_two_31 {b : Nat} {V : Nat → Nat → Int32} {o : Int64} {ls : sm_L} {r : List sm_V} : sm_R T_L_two (b, 31, (V, o), ls, r) = sm_R T_L_two (b, 35, (V, o), ls, r) := R_goto (tgt := 35) rfl (by decide)
theorem s_L_two_34 {b : Nat} {V : Nat → Nat → Int32} {o : Int64} {ls : sm_L} {r : List sm_V} : sm_R T_L_two (b, 34, (V, o), ls, r) = sm_R T_L_two (b, 35, (V, o), ls, .inl 0 :: r) := R_iconst rfl (by decide)
theorem s_L_two_35 {b : Nat} {V : Nat → Nat → Int32} {o : Int64} {ls : sm_L} {x : Int32} (hz : x = 0 ∨ x = 1) : sm_R T_L_two (b, 35, (V, o), ls, [.inl x]) = some ((V, o), .ok (some (.inl x))) := R_zreturn rfl rfl hz
theorem s_L_isWritten_0 {b : Nat} {V : Nat → Nat → Int32} {o : Int64} {ls : sm_L} {r : List sm_V} : sm_R T_L_isWritten (b, 0, (V, o), ls, r) = sm_R T_L_isWritten (b, 1, (V, o), ls, .inl 0 :: r) := R_iconst rfl (by decide)
theorem s_L_isWritten_1 {b : Nat} {V : Nat → Nat → Int32} {o : Int64} {l0 l1 l2 l3 : Option sm_V} {tl : sm_L} {x : Int32} {r : List sm_V} (h : sm_nl l2 = true) : sm_R T_L_isWritten (b, 1, (V, o), l0 :: l1 :: l2 :: l3 :: tl, .inl x :: r) = sm_R T_L_isWritten (b, 2, (V, o), l0 :: l1 :: l2 :: some (.inl x) :: tl, r) := R_istore_n rfl (by unfold sm_s1; rw [sm_gt ⟨by simp only [List.length_cons]; first | omega | (show 3 + 1 < _; omega), h⟩]; rfl)
theorem s_L_isWritten_2 {b : Nat} {V : Nat → Nat → Int32} {o : Int64} {ls : sm_L} {r : List sm_V} : sm_R T_L_isWritten (b, 2, (V, o), ls, r) = sm_R T_L_isWritten (b, 3, (V, o), ls, .inl 0 :: r) := R_iconst rfl (by decide)
theorem s_L_isWritten_3 {b : Nat} {V : Nat → Nat → Int32} {o : Int64} {l0 l1 l2 l3 l4 : Option sm_V} {tl : sm_L} {x : Int32} {r : List sm_V} (h : sm_nl l3 = true) : sm_R T_L_isWritten (b, 3, (V, o), l0 :: l1 :: l2 :: l3 :: l4 :: tl, .inl x :: r) = sm_R T_L_isWritten (b, 5, (V, o), l0 :: l1 :: l2 :: l3 :: some (.inl x) :: tl, r) := R_istore rfl (by unfold sm_s1; rw [sm_gt ⟨by simp only [List.length_cons]; first | omega | (show 4 + 1 < _; omega), h⟩]; rfl)
theorem s_L_isWritten_5 {b : Nat} {V : Nat → Nat → Int32} {o : Int64} {l0 l1 l2 l3 : Option sm_V} {tl : sm_L} {x : Int32} {r : List sm_V} : sm_R T_L_isWritten (b, 5, (V, o), l0 :: l1 :: l2 :: l3 :: some (.inl x) :: tl, r) = sm_R T_L_isWritten (b, 7, (V, o), l0 :: l1 :: l2 :: l3 :: some (.inl x) :: tl, .inl x :: r) := R_iload rfl rfl
theorem s_L_isWritten_7 {b : Nat} {V : Nat → Nat → Int32} {o : Int64} {ls : sm_L} {r : List sm_V} : sm_R T_L_isWritten (b, 7, (V, o), ls, r) = sm_R T_L_isWritten (b, 9, (V, o), ls, .inl 20 :: r) := R_bipush rfl (by decide)
theorem s_L_isWritten_9 {b : Nat} {V : Nat → Nat → Int32} {o : Int64} {ls : sm_L} {r : List sm_V} {x y : Int32} : sm_R T_L_isWritten (b, 9, (V, o), ls, .inl y :: .inl x :: r) = if y ≤ x then sm_R T_L_isWritten (b, 48, (V, o), ls, r) else sm_R T_L_isWritten (b, 12, (V, o), ls, r) := R_icmp_ge (tgt := 48) rfl (by decide)
theorem s_L_isWritten_12 {b : Nat} {V : Nat → Nat → Int32} {o : Int64} {l0 l1 l2 : Option sm_V} {tl : sm_L} {x : Int32} {r : List sm_V} : sm_R T_L_isWritten (b, 12, (V, o), l0 :: l1 :: l2 :: some (.inl x) :: tl, r) = sm_R T_L_isWritten (b, 13, (V, o), l0 :: l1 :: l2 :: some (.inl x) :: tl, .inl x :: r) := R_iload_n rfl rfl
theorem s_L_isWritten_13 {b : Nat} {V : Nat → Nat → Int32} {o : Int64} {tl : sm_L} {x : sm_N} {r : List sm_V} : sm_R T_L_isWritten (b, 13, (V, o), some (.inr (.inr x)) :: tl, r) = sm_R T_L_isWritten (b, 14, (V, o), some (.inr (.inr x)) :: tl, .inr (.inr x) :: r) := R_aload_n rfl rfl
theorem s_L_isWritten_14 {b : Nat} {V : Nat → Nat → Int32} {o : Int64} {l0 l1 l2 l3 : Option sm_V} {tl : sm_L} {x : Int32} {r : List sm_V} : sm_R T_L_isWritten (b, 14, (V, o), l0 :: l1 :: l2 :: l3 :: some (.inl x) :: tl, r) = sm_R T_L_isWritten (b, 16, (V, o), l0 :: l1 :: l2 :: l3 :: some (.inl x) :: tl, .inl x :: r) := R_iload rfl rfl
theorem s_L_isWritten_16 {b : Nat} {V : Nat → Nat → Int32} {o : Int64} {ls : sm_L} {r : List sm_V} : sm_R T_L_isWritten (b, 16, (V, o), ls, r) = sm_R T_L_isWritten (b, 17, (V, o), ls, .inl 0 :: r) := R_iconst rfl (by decide)
theorem s_L_isWritten_17 {b : Nat} {V : Nat → Nat → Int32} {o : Int64} {ls : sm_L} {r : List sm_V} {a0 : sm_N} {a1 : Int32} {a2 : Int32} (h : r.length ≤ 4) (hb : 1 ≤ b) : sm_R T_L_isWritten (b, 17, (V, o), ls, .inl a2 :: .inl a1 :: .inr (.inr a0) :: r) = sm_k1 (F_L_tryBook (V, o) [.inr (.inr a0), .inl a1, .inl a2]) (fun M1 v => sm_R T_L_isWritten ((b - 1), 20, M1, ls, v.toList ++ r)) := R_call (T := T_L_isWritten) (x := 163) (virt := false) (as := [.inr (.inr a0), .inl a1, .inl a2]) rfl rfl rfl h hb (fun q => by cases q) (fun _ => ⟨by decide, rfl⟩) (fun _ => rfl) (by decide)
theorem s_L_isWritten_20 {b : Nat} {V : Nat → Nat → Int32} {o : Int64} {l0 : Option sm_V} {tl : sm_L} {x : Int32} {r : List sm_V} : sm_R T_L_isWritten (b, 20, (V, o), l0 :: some (.inl x) :: tl, r) = sm_R T_L_isWritten (b, 21, (V, o), l0 :: some (.inl x) :: tl, .inl x :: r) := R_iload_n rfl rfl
theorem s_L_isWritten_21 {b : Nat} {V : Nat → Nat → Int32} {o : Int64} {ls : sm_L} {r : List sm_V} {x y : Int32} : sm_R T_L_isWritten (b, 21, (V, o), ls, .inl y :: .inl x :: r) = if ¬ x = y then sm_R T_L_isWritten (b, 39, (V, o), ls, r) else sm_R T_L_isWritten (b, 24, (V, o), ls, r) := R_icmp_ne (tgt := 39) rfl (by decide)
theorem s_L_isWritten_24 {b : Nat} {V : Nat → Nat → Int32} {o : Int64} {tl : sm_L} {x : sm_N} {r : List sm_V} : sm_R T_L_isWritten (b, 24, (V, o), some (.inr (.inr x)) :: tl, r) = sm_R T_L_isWritten (b, 25, (V, o), some (.inr (.inr x)) :: tl, .inr (.inr x) :: r) := R_aload_n rfl rfl
theorem s_L_isWritten_25 {b : Nat} {V : Nat → Nat → Int32} {o : Int64} {l0 l1 l2 l3 : Option sm_V} {tl : sm_L} {x : Int32} {r : List sm_V} : sm_R T_L_isWritten (b, 25, (V, o), l0 :: l1 :: l2 :: l3 :: some (.inl x) :: tl, r) = sm_R T_L_isWritten (b, 27, (V, o), l0 :: l1 :: l2 :: l3 :: some (.inl x) :: tl, .inl x :: r) := R_iload rfl rfl
theorem s_L_isWritten_27 {b : Nat} {V : Nat → Nat → Int32} {o : Int64} {ls : sm_L} {r : List sm_V} : sm_R T_L_isWritten (b, 27, (V, o), ls, r) = sm_R T_L_isWritten (b, 28, (V, o), ls, .inl 1 :: r) := R_iconst rfl (by decide)
theorem s_L_isWritten_28 {b : Nat} {V : Nat → Nat → Int32} {o : Int64} {ls : sm_L} {r : List sm_V} {a0 : sm_N} {a1 : Int32} {a2 : Int32} (h : r.length ≤ 4) (hb : 1 ≤ b) : sm_R T_L_isWritten (b, 28, (V, o), ls, .inl a2 :: .inl a1 :: .inr (.inr a0) :: r) = sm_k1 (F_L_tryBook (V, o) [.inr (.inr a0), .inl a1, .inl a2]) (fun M1 v => sm_R T_L_isWritten ((b - 1), 31, M1, ls, v.toList ++ r)) := R_call (T := T_L_isWritten) (x := 163) (virt := false) (as := [.inr (.inr a0), .inl a1, .inl a2]) rfl rfl rfl h hb (fun q => by cases q) (fun _ => ⟨by decide, rfl⟩) (fun _ => rfl) (by decide)
theorem s_L_isWritten_31 {b : Nat} {V : Nat → Nat → Int32} {o : Int64} {l0 l1 : Option sm_V} {tl : sm_L} {x : Int32} {r : List sm_V} : sm_R T_L_isWritten (b, 31, (V, o), l0 :: l1 :: some (.inl x) :: tl, r) = sm_R T_L_isWritten (b, 32, (V, o), l0 :: l1 :: some (.inl x) :: tl, .inl x :: r) := R_iload_n rfl rfl
theorem s_L_isWritten_32 {b : Nat} {V : Nat → Nat → Int32} {o : Int64} {ls : sm_L} {r : List sm_V} {x y : Int32} : sm_R T_L_isWritten (b, 32, (V, o), ls, .inl y :: .inl x :: r) = if ¬ x = y then sm_R T_L_isWritten (b, 39, (V, o), ls, r) else sm_R T_L_isWritten (b, 35, (V, o), ls, r) := R_icmp_ne (tgt := 39) rfl (by decide)
theorem s_L_isWritten_35 {b : Nat} {V : Nat → Nat → Int32} {o : Int64} {ls : sm_L} {r : List sm_V} : sm_R T_L_isWritten (b, 35, (V, o), ls, r) = sm_R T_L_isWritten (b, 36, (V, o), ls, .inl 1 :: r) := R_iconst rfl (by decide)
theorem s_L_isWritten_36 {b : Nat} {V : Nat → Nat → Int32} {o : Int64} {ls : sm_L} {r : List sm_V} : sm_R T_L_isWritten (b, 36, (V, o), ls, r) = sm_R T_L_isWritten (b, 40, (V, o), ls, r) := R_goto (tgt := 40) rfl (by decide)
theorem s_L_isWritten_39 {b : Nat} {V : Nat → Nat → Int32} {o : Int64} {ls : sm_L} {r : List sm_V} : sm_R T_L_isWritten (b, 39, (V, o), ls, r) = sm_R T_L_isWritten (b, 40, (V, o), ls, .inl 0 :: r) := R_iconst rfl (by decide)
theorem s_L_isWritten_40 {b : Nat} {V : Nat → Nat → Int32} {o : Int64} {ls : sm_L} {r : List sm_V} {x y : Int32} : sm_R T_L_isWritten (b, 40, (V, o), ls, .inl y :: .inl x :: r) = sm_R T_L_isWritten (b, 41, (V, o), ls, .inl (x ||| y) :: r) := R_ior rfl
theorem s_L_isWritten_41 {b : Nat} {V : Nat → Nat → Int32} {o : Int64} {l0 l1 l2 l3 : Option sm_V} {tl : sm_L} {x : Int32} {r : List sm_V} (h : sm_nl l2 = true) : sm_R T_L_isWritten (b, 41, (V, o), l0 :: l1 :: l2 :: l3 :: tl, .inl x :: r) = sm_R T_L_isWritten (b, 42, (V, o), l0 :: l1 :: l2 :: some (.inl x) :: tl, r) := R_istore_n rfl (by unfold sm_s1; rw [sm_gt ⟨by simp only [List.length_cons]; first | omega | (show 3 + 1 < _; omega), h⟩]; rfl)
theorem s_L_isWritten_42 {b : Nat} {V : Nat → Nat → Int32} {o : Int64} {l0 l1 l2 l3 : Option sm_V} {tl : sm_L} {x : Int32} {r : List sm_V} (h : sm_nl l3 = true) : sm_R T_L_isWritten (b, 42, (V, o), l0 :: l1 :: l2 :: l3 :: some (.inl x) :: tl, r) = sm_R T_L_isWritten (b, 45, (V, o), l0 :: l1 :: l2 :: l3 :: some (.inl (x + 1)) :: tl, r) := R_iinc (v := 1) rfl rfl (by decide) (by unfold sm_s1; rw [sm_gt ⟨by simp only [List.length_cons]; omega, h⟩]; rfl)
theorem s_L_isWritten_45 {b : Nat} {V : Nat → Nat → Int32} {o : Int64} {ls : sm_L} {r : List sm_V} : sm_R T_L_isWritten (b, 45, (V, o), ls, r) = sm_R T_L_isWritten (b, 5, (V, o), ls, r) := R_goto (tgt := 5) rfl (by decide)
theorem s_L_isWritten_48 {b : Nat} {V : Nat → Nat → Int32} {o : Int64} {l0 l1 l2 : Option sm_V} {tl : sm_L} {x : Int32} {r : List sm_V} : sm_R T_L_isWritten (b, 48, (V, o), l0 :: l1 :: l2 :: some (.inl x) :: tl, r) = sm_R T_L_isWritten (b, 49, (V, o), l0 :: l1 :: l2 :: some (.inl x) :: tl, .inl x :: r) := R_iload_n rfl rfl
theorem s_L_isWritten_49 {b : Nat} {V : Nat → Nat → Int32} {o : Int64} {ls : sm_L} {x : Int32} (hz : x = 0 ∨ x = 1) : sm_R T_L_isWritten (b, 49, (V, o), ls, [.inl x]) = some ((V, o), .ok (some (.inl x))) := R_zreturn rfl rfl hz
theorem s_L_colds_0 {b : Nat} {V : Nat → Nat → Int32} {o : Int64} {ls : sm_L} {r : List sm_V} : sm_R T_L_colds (b, 0, (V, o), ls, r) = sm_R T_L_colds (b, 1, (V, o), ls, .inl 0 :: r) := R_iconst rfl (by decide)
theorem s_L_colds_1 {b : Nat} {V : Nat → Nat → Int32} {o : Int64} {l0 l1 l2 l3 : Option sm_V} {tl : sm_L} {x : Int32} {r : List sm_V} (h : sm_nl l2 = true) : sm_R T_L_colds (b, 1, (V, o), l0 :: l1 :: l2 :: l3 :: tl, .inl x :: r) = sm_R T_L_colds (b, 2, (V, o), l0 :: l1 :: l2 :: some (.inl x) :: tl, r) := R_istore_n rfl (by unfold sm_s1; rw [sm_gt ⟨by simp only [List.length_cons]; first | omega | (show 3 + 1 < _; omega), h⟩]; rfl)
theorem s_L_colds_2 {b : Nat} {V : Nat → Nat → Int32} {o : Int64} {ls : sm_L} {r : List sm_V} : sm_R T_L_colds (b, 2, (V, o), ls, r) = sm_R T_L_colds (b, 3, (V, o), ls, .inl 0 :: r) := R_iconst rfl (by decide)
theorem s_L_colds_3 {b : Nat} {V : Nat → Nat → Int32} {o : Int64} {l0 l1 l2 l3 l4 : Option sm_V} {tl : sm_L} {x : Int32} {r : List sm_V} (h : sm_nl l3 = true) : sm_R T_L_colds (b, 3, (V, o), l0 :: l1 :: l2 :: l3 :: l4 :: tl, .inl x :: r) = sm_R T_L_colds (b, 5, (V, o), l0 :: l1 :: l2 :: l3 :: some (.inl x) :: tl, r) := R_istore rfl (by unfold sm_s1; rw [sm_gt ⟨by simp only [List.length_cons]; first | omega | (show 4 + 1 < _; omega), h⟩]; rfl)
theorem s_L_colds_5 {b : Nat} {V : Nat → Nat → Int32} {o : Int64} {l0 l1 l2 l3 : Option sm_V} {tl : sm_L} {x : Int32} {r : List sm_V} : sm_R T_L_colds (b, 5, (V, o), l0 :: l1 :: l2 :: l3 :: some (.inl x) :: tl, r) = sm_R T_L_colds (b, 7, (V, o), l0 :: l1 :: l2 :: l3 :: some (.inl x) :: tl, .inl x :: r) := R_iload rfl rfl
theorem s_L_colds_7 {b : Nat} {V : Nat → Nat → Int32} {o : Int64} {l0 l1 : Option sm_V} {tl : sm_L} {x : Int32} {r : List sm_V} : sm_R T_L_colds (b, 7, (V, o), l0 :: l1 :: some (.inl x) :: tl, r) = sm_R T_L_colds (b, 8, (V, o), l0 :: l1 :: some (.inl x) :: tl, .inl x :: r) := R_iload_n rfl rfl
theorem s_L_colds_8 {b : Nat} {V : Nat → Nat → Int32} {o : Int64} {ls : sm_L} {r : List sm_V} {x y : Int32} : sm_R T_L_colds (b, 8, (V, o), ls, .inl y :: .inl x :: r) = if y ≤ x then sm_R T_L_colds (b, 75, (V, o), ls, r) else sm_R T_L_colds (b, 11, (V, o), ls, r) := R_icmp_ge (tgt := 75) rfl (by decide)
theorem s_L_colds_11 {b : Nat} {V : Nat → Nat → Int32} {o : Int64} {tl : sm_L} {x : sm_N} {r : List sm_V} : sm_R T_L_colds (b, 11, (V, o), some (.inr (.inr x)) :: tl, r) = sm_R T_L_colds (b, 12, (V, o), some (.inr (.inr x)) :: tl, .inr (.inr x) :: r) := R_aload_n rfl rfl
theorem s_L_colds_12 {b : Nat} {V : Nat → Nat → Int32} {o : Int64} {tl : sm_L} {x : sm_N} {r : List sm_V} : sm_R T_L_colds (b, 12, (V, o), some (.inr (.inr x)) :: tl, r) = sm_R T_L_colds (b, 13, (V, o), some (.inr (.inr x)) :: tl, .inr (.inr x) :: r) := R_aload_n rfl rfl
theorem s_L_colds_13 {b : Nat} {V : Nat → Nat → Int32} {o : Int64} {ls : sm_L} {r : List sm_V} : sm_R T_L_colds (b, 13, (V, o), ls, r) = sm_R T_L_colds (b, 15, (V, o), ls, .inl 8 :: r) := R_bipush rfl (by decide)
theorem s_L_colds_15 {b : Nat} {V : Nat → Nat → Int32} {o : Int64} {ls : sm_L} {r : List sm_V} {a0 : sm_N} {a1 : Int32} (h : r.length ≤ 4) (hb : 1 ≤ b) : sm_R T_L_colds (b, 15, (V, o), ls, .inl a1 :: .inr (.inr a0) :: r) = sm_k1 (F_L_tryAbout (V, o) [.inr (.inr a0), .inl a1]) (fun M1 v => sm_R T_L_colds ((b - 1), 18, M1, ls, v.toList ++ r)) := R_call (T := T_L_colds) (x := 144) (virt := false) (as := [.inr (.inr a0), .inl a1]) rfl rfl rfl h hb (fun q => by cases q) (fun _ => ⟨by decide, rfl⟩) (fun _ => rfl) (by decide)
theorem s_L_colds_18 {b : Nat} {V : Nat → Nat → Int32} {o : Int64} {l0 : Option sm_V} {tl : sm_L} {x : Int32} {r : List sm_V} : sm_R T_L_colds (b, 18, (V, o), l0 :: some (.inl x) :: tl, r) = sm_R T_L_colds (b, 19, (V, o), l0 :: some (.inl x) :: tl, .inl x :: r) := R_iload_n rfl rfl
theorem s_L_colds_19 {b : Nat} {V : Nat → Nat → Int32} {o : Int64} {ls : sm_L} {r : List sm_V} {x y : Int32} : sm_R T_L_colds (b, 19, (V, o), ls, .inl y :: .inl x :: r) = sm_R T_L_colds (b, 20, (V, o), ls, .inl (x + y) :: r) := R_iadd rfl
theorem s_L_colds_20 {b : Nat} {V : Nat → Nat → Int32} {o : Int64} {l0 l1 l2 l3 : Option sm_V} {tl : sm_L} {x : Int32} {r : List sm_V} : sm_R T_L_colds (b, 20, (V, o), l0 :: l1 :: l2 :: l3 :: some (.inl x) :: tl, r) = sm_R T_L_colds (b, 22, (V, o), l0 :: l1 :: l2 :: l3 :: some (.inl x) :: tl, .inl x :: r) := R_iload rfl rfl
theorem s_L_colds_22 {b : Nat} {V : Nat → Nat → Int32} {o : Int64} {ls : sm_L} {r : List sm_V} {x y : Int32} : sm_R T_L_colds (b, 22, (V, o), ls, .inl y :: .inl x :: r) = sm_R T_L_colds (b, 23, (V, o), ls, .inl (x + y) :: r) := R_iadd rfl
theorem s_L_colds_23 {b : Nat} {V : Nat → Nat → Int32} {o : Int64} {ls : sm_L} {r : List sm_V} : sm_R T_L_colds (b, 23, (V, o), ls, r) = sm_R T_L_colds (b, 26, (V, o), ls, .inl 9996 :: r) := R_sipush rfl (by decide)
theorem s_L_colds_26 {b : Nat} {V : Nat → Nat → Int32} {o : Int64} {ls : sm_L} {r : List sm_V} {x y : Int32} (hn : ¬ y = 0) : sm_R T_L_colds (b, 26, (V, o), ls, .inl y :: .inl x :: r) = sm_R T_L_colds (b, 27, (V, o), ls, .inl (x - x / y * y) :: r) := R_irem rfl hn
theorem s_L_colds_27 {b : Nat} {V : Nat → Nat → Int32} {o : Int64} {ls : sm_L} {r : List sm_V} {a0 : sm_N} {a1 : Int32} (h : r.length ≤ 4) (hb : 1 ≤ b) : sm_R T_L_colds (b, 27, (V, o), ls, .inl a1 :: .inr (.inr a0) :: r) = sm_k1 (F_L_tryWet (V, o) [.inr (.inr a0), .inl a1]) (fun M1 v => sm_R T_L_colds ((b - 1), 30, M1, ls, v.toList ++ r)) := R_call (T := T_L_colds) (x := 166) (virt := false) (as := [.inr (.inr a0), .inl a1]) rfl rfl rfl h hb (fun q => by cases q) (fun _ => ⟨by decide, rfl⟩) (fun _ => rfl) (by decide)
theorem s_L_colds_30 {b : Nat} {V : Nat → Nat → Int32} {o : Int64} {l0 l1 l2 l3 l4 l5 : Option sm_V} {tl : sm_L} {x : Int32} {r : List sm_V} (h : sm_nl l4 = true) : sm_R T_L_colds (b, 30, (V, o), l0 :: l1 :: l2 :: l3 :: l4 :: l5 :: tl, .inl x :: r) = sm_R T_L_colds (b, 32, (V, o), l0 :: l1 :: l2 :: l3 :: l4 :: some (.inl x) :: tl, r) := R_istore rfl (by unfold sm_s1; rw [sm_gt ⟨by simp only [List.length_cons]; first | omega | (show 5 + 1 < _; omega), h⟩]; rfl)
theorem s_L_colds_32 {b : Nat} {V : Nat → Nat → Int32} {o : Int64} {l0 l1 l2 : Option sm_V} {tl : sm_L} {x : Int32} {r : List sm_V} : sm_R T_L_colds (b, 32, (V, o), l0 :: l1 :: l2 :: some (.inl x) :: tl, r) = sm_R T_L_colds (b, 33, (V, o), l0 :: l1 :: l2 :: some (.inl x) :: tl, .inl x :: r) := R_iload_n rfl rfl
theorem s_L_colds_33 {b : Nat} {V : Nat → Nat → Int32} {o : Int64} {l0 l1 l2 l3 l4 : Option sm_V} {tl : sm_L} {x : Int32} {r : List sm_V} : sm_R T_L_colds (b, 33, (V, o), l0 :: l1 :: l2 :: l3 :: l4 :: some (.inl x) :: tl, r) = sm_R T_L_colds (b, 35, (V, o), l0 :: l1 :: l2 :: l3 :: l4 :: some (.inl x) :: tl, .inl x :: r) := R_iload rfl rfl
theorem s_L_colds_35 {b : Nat} {V : Nat → Nat → Int32} {o : Int64} {ls : sm_L} {r : List sm_V} : sm_R T_L_colds (b, 35, (V, o), ls, r) = sm_R T_L_colds (b, 37, (V, o), ls, .inl (-2) :: r) := R_bipush rfl (by decide)
theorem s_L_colds_37 {b : Nat} {V : Nat → Nat → Int32} {o : Int64} {ls : sm_L} {r : List sm_V} {x y : Int32} : sm_R T_L_colds (b, 37, (V, o), ls, .inl y :: .inl x :: r) = if x ≤ y then sm_R T_L_colds (b, 44, (V, o), ls, r) else sm_R T_L_colds (b, 40, (V, o), ls, r) := R_icmp_le (tgt := 44) rfl (by decide)
theorem s_L_colds_40 {b : Nat} {V : Nat → Nat → Int32} {o : Int64} {ls : sm_L} {r : List sm_V} : sm_R T_L_colds (b, 40, (V, o), ls, r) = sm_R T_L_colds (b, 41, (V, o), ls, .inl 0 :: r) := R_iconst rfl (by decide)
theorem s_L_colds_41 {b : Nat} {V : Nat → Nat → Int32} {o : Int64} {ls : sm_L} {r : List sm_V} : sm_R T_L_colds (b, 41, (V, o), ls, r) = sm_R T_L_colds (b, 67, (V, o), ls, r) := R_goto (tgt := 67) rfl (by decide)
theorem s_L_colds_44 {b : Nat} {V : Nat → Nat → Int32} {o : Int64} {l0 l1 l2 l3 l4 : Option sm_V} {tl : sm_L} {x : Int32} {r : List sm_V} : sm_R T_L_colds (b, 44, (V, o), l0 :: l1 :: l2 :: l3 :: l4 :: some (.inl x) :: tl, r) = sm_R T_L_colds (b, 46, (V, o), l0 :: l1 :: l2 :: l3 :: l4 :: some (.inl x) :: tl, .inl x :: r) := R_iload rfl rfl
theorem s_L_colds_46 {b : Nat} {V : Nat → Nat → Int32} {o : Int64} {ls : sm_L} {r : List sm_V} : sm_R T_L_colds (b, 46, (V, o), ls, r) = sm_R T_L_colds (b, 48, (V, o), ls, .inl (-5) :: r) := R_bipush rfl (by decide)
theorem s_L_colds_48 {b : Nat} {V : Nat → Nat → Int32} {o : Int64} {ls : sm_L} {r : List sm_V} {x y : Int32} : sm_R T_L_colds (b, 48, (V, o), ls, .inl y :: .inl x :: r) = if x ≤ y then sm_R T_L_colds (b, 55, (V, o), ls, r) else sm_R T_L_colds (b, 51, (V, o), ls, r) := R_icmp_le (tgt := 55) rfl (by decide)
theorem s_L_colds_51 {b : Nat} {V : Nat → Nat → Int32} {o : Int64} {ls : sm_L} {r : List sm_V} : sm_R T_L_colds (b, 51, (V, o), ls, r) = sm_R T_L_colds (b, 52, (V, o), ls, .inl 1 :: r) := R_iconst rfl (by decide)
theorem s_L_colds_52 {b : Nat} {V : Nat → Nat → Int32} {o : Int64} {ls : sm_L} {r : List sm_V} : sm_R T_L_colds (b, 52, (V, o), ls, r) = sm_R T_L_colds (b, 67, (V, o), ls, r) := R_goto (tgt := 67) rfl (by decide)
theorem s_L_colds_55 {b : Nat} {V : Nat → Nat → Int32} {o : Int64} {l0 l1 l2 l3 l4 : Option sm_V} {tl : sm_L} {x : Int32} {r : List sm_V} : sm_R T_L_colds (b, 55, (V, o), l0 :: l1 :: l2 :: l3 :: l4 :: some (.inl x) :: tl, r) = sm_R T_L_colds (b, 57, (V, o), l0 :: l1 :: l2 :: l3 :: l4 :: some (.inl x) :: tl, .inl x :: r) := R_iload rfl rfl
theorem s_L_colds_57 {b : Nat} {V : Nat → Nat → Int32} {o : Int64} {ls : sm_L} {r : List sm_V} : sm_R T_L_colds (b, 57, (V, o), ls, r) = sm_R T_L_colds (b, 59, (V, o), ls, .inl (-8) :: r) := R_bipush rfl (by decide)
theorem s_L_colds_59 {b : Nat} {V : Nat → Nat → Int32} {o : Int64} {ls : sm_L} {r : List sm_V} {x y : Int32} : sm_R T_L_colds (b, 59, (V, o), ls, .inl y :: .inl x :: r) = if x ≤ y then sm_R T_L_colds (b, 66, (V, o), ls, r) else sm_R T_L_colds (b, 62, (V, o), ls, r) := R_icmp_le (tgt := 66) rfl (by decide)
theorem s_L_colds_62 {b : Nat} {V : Nat → Nat → Int32} {o : Int64} {ls : sm_L} {r : List sm_V} : sm_R T_L_colds (b, 62, (V, o), ls, r) = sm_R T_L_colds (b, 63, (V, o), ls, .inl 2 :: r) := R_iconst rfl (by decide)
theorem s_L_colds_63 {b : Nat} {V : Nat → Nat → Int32} {o : Int64} {ls : sm_L} {r : List sm_V} : sm_R T_L_colds (b, 63, (V, o), ls, r) = sm_R T_L_colds (b, 67, (V, o), ls, r) := R_goto (tgt := 67) rfl (by decide)
theorem s_L_colds_66 {b : Nat} {V : Nat → Nat → Int32} {o : Int64} {ls : sm_L} {r : List sm_V} : sm_R T_L_colds (b, 66, (V, o), ls, r) = sm_R T_L_colds (b, 67, (V, o), ls, .inl 3 :: r) := R_iconst rfl (by decide)
theorem s_L_colds_67 {b : Nat} {V : Nat → Nat → Int32} {o : Int64} {ls : sm_L} {r : List sm_V} {x y : Int32} : sm_R T_L_colds (b, 67, (V, o), ls, .inl y :: .inl x :: r) = sm_R T_L_colds (b, 68, (V, o), ls, .inl (x + y) :: r) := R_iadd rfl
theorem s_L_colds_68 {b : Nat} {V : Nat → Nat → Int32} {o : Int64} {l0 l1 l2 l3 : Option sm_V} {tl : sm_L} {x : Int32} {r : List sm_V} (h : sm_nl l2 = true) : sm_R T_L_colds (b, 68, (V, o), l0 :: l1 :: l2 :: l3 :: tl, .inl x :: r) = sm_R T_L_colds (b, 69, (V, o), l0 :: l1 :: l2 :: some (.inl x) :: tl, r) := R_istore_n rfl (by unfold sm_s1; rw [sm_gt ⟨by simp only [List.length_cons]; first | omega | (show 3 + 1 < _; omega), h⟩]; rfl)
theorem s_L_colds_69 {b : Nat} {V : Nat → Nat → Int32} {o : Int64} {l0 l1 l2 l3 : Option sm_V} {tl : sm_L} {x : Int32} {r : List sm_V} (h : sm_nl l3 = true) : sm_R T_L_colds (b, 69, (V, o), l0 :: l1 :: l2 :: l3 :: some (.inl x) :: tl, r) = sm_R T_L_colds (b, 72, (V, o), l0 :: l1 :: l2 :: l3 :: some (.inl (x + 1)) :: tl, r) := R_iinc (v := 1) rfl rfl (by decide) (by unfold sm_s1; rw [sm_gt ⟨by simp only [List.length_cons]; omega, h⟩]; rfl)
theorem s_L_colds_72 {b : Nat} {V : Nat → Nat → Int32} {o : Int64} {ls : sm_L} {r : List sm_V} : sm_R T_L_colds (b, 72, (V, o), ls, r) = sm_R T_L_colds (b, 5, (V, o), ls, r) := R_goto (tgt := 5) rfl (by decide)
theorem s_L_colds_75 {b : Nat} {V : Nat → Nat → Int32} {o : Int64} {l0 l1 l2 : Option sm_V} {tl : sm_L} {x : Int32} {r : List sm_V} : sm_R T_L_colds (b, 75, (V, o), l0 :: l1 :: l2 :: some (.inl x) :: tl, r) = sm_R T_L_colds (b, 76, (V, o), l0 :: l1 :: l2 :: some (.inl x) :: tl, .inl x :: r) := R_iload_n rfl rfl
theorem s_L_colds_76 {b : Nat} {V : Nat → Nat → Int32} {o : Int64} {ls : sm_L} {x : Int32} : sm_R T_L_colds (b, 76, (V, o), ls, [.inl x]) = some ((V, o), .ok (some (.inl x))) := R_ireturn rfl (Or.inl rfl)
theorem s_L_readyWith_0 {b : Nat} {V : Nat → Nat → Int32} {o : Int64} {l0 : Option sm_V} {tl : sm_L} {x : Int32} {r : List sm_V} : sm_R T_L_readyWith (b, 0, (V, o), l0 :: some (.inl x) :: tl, r) = sm_R T_L_readyWith (b, 1, (V, o), l0 :: some (.inl x) :: tl, .inl x :: r) := R_iload_n rfl rfl
theorem s_L_readyWith_1 {b : Nat} {V : Nat → Nat → Int32} {o : Int64} {ls : sm_L} {r : List sm_V} {x : Int32} : sm_R T_L_readyWith (b, 1, (V, o), ls, .inl x :: r) = if ¬ x = 0 then sm_R T_L_readyWith (b, 8, (V, o), ls, r) else sm_R T_L_readyWith (b, 4, (V, o), ls, r) := R_if_ne (tgt := 8) rfl (by decide)
theorem s_L_readyWith_4 {b : Nat} {V : Nat → Nat → Int32} {o : Int64} {ls : sm_L} {r : List sm_V} : sm_R T_L_readyWith (b, 4, (V, o), ls, r) = sm_R T_L_readyWith (b, 5, (V, o), ls, .inl 0 :: r) := R_iconst rfl (by decide)
theorem s_L_readyWith_5 {b : Nat} {V : Nat → Nat → Int32} {o : Int64} {ls : sm_L} {r : List sm_V} : sm_R T_L_readyWith (b, 5, (V, o), ls, r) = sm_R T_L_readyWith (b, 13, (V, o), ls, r) := R_goto (tgt := 13) rfl (by decide)
theorem s_L_readyWith_8 {b : Nat} {V : Nat → Nat → Int32} {o : Int64} {tl : sm_L} {x : sm_N} {r : List sm_V} : sm_R T_L_readyWith (b, 8, (V, o), some (.inr (.inr x)) :: tl, r) = sm_R T_L_readyWith (b, 9, (V, o), some (.inr (.inr x)) :: tl, .inr (.inr x) :: r) := R_aload_n rfl rfl
theorem s_L_readyWith_9 {b : Nat} {V : Nat → Nat → Int32} {o : Int64} {l0 : Option sm_V} {tl : sm_L} {x : Int32} {r : List sm_V} : sm_R T_L_readyWith (b, 9, (V, o), l0 :: some (.inl x) :: tl, r) = sm_R T_L_readyWith (b, 10, (V, o), l0 :: some (.inl x) :: tl, .inl x :: r) := R_iload_n rfl rfl
theorem s_L_readyWith_10 {b : Nat} {V : Nat → Nat → Int32} {o : Int64} {ls : sm_L} {r : List sm_V} {a0 : sm_N} {a1 : Int32} (h : r.length ≤ 4) (hb : 1 ≤ b) : sm_R T_L_readyWith (b, 10, (V, o), ls, .inl a1 :: .inr (.inr a0) :: r) = sm_k1 (F_L_tryFill (V, o) [.inr (.inr a0), .inl a1]) (fun M1 v => sm_R T_L_readyWith ((b - 1), 13, M1, ls, v.toList ++ r)) := R_call (T := T_L_readyWith) (x := 185) (virt := false) (as := [.inr (.inr a0), .inl a1]) rfl rfl rfl h hb (fun q => by cases q) (fun _ => ⟨by decide, rfl⟩) (fun _ => rfl) (by decide)
theorem s_L_readyWith_13 {b : Nat} {V : Nat → Nat → Int32} {o : Int64} {l0 l1 l2 l3 l4 : Option sm_V} {tl : sm_L} {x : Int32} {r : List sm_V} (h : sm_nl l3 = true) : sm_R T_L_readyWith (b, 13, (V, o), l0 :: l1 :: l2 :: l3 :: l4 :: tl, .inl x :: r) = sm_R T_L_readyWith (b, 15, (V, o), l0 :: l1 :: l2 :: l3 :: some (.inl x) :: tl, r) := R_istore rfl (by unfold sm_s1; rw [sm_gt ⟨by simp only [List.length_cons]; first | omega | (show 4 + 1 < _; omega), h⟩]; rfl)
theorem s_L_readyWith_15 {b : Nat} {V : Nat → Nat → Int32} {o : Int64} {tl : sm_L} {x : sm_N} {r : List sm_V} : sm_R T_L_readyWith (b, 15, (V, o), some (.inr (.inr x)) :: tl, r) = sm_R T_L_readyWith (b, 16, (V, o), some (.inr (.inr x)) :: tl, .inr (.inr x) :: r) := R_aload_n rfl rfl
theorem s_L_readyWith_16 {b : Nat} {V : Nat → Nat → Int32} {o : Int64} {l0 l1 : Option sm_V} {tl : sm_L} {x : Int32} {r : List sm_V} : sm_R T_L_readyWith (b, 16, (V, o), l0 :: l1 :: some (.inl x) :: tl, r) = sm_R T_L_readyWith (b, 17, (V, o), l0 :: l1 :: some (.inl x) :: tl, .inl x :: r) := R_iload_n rfl rfl
theorem s_L_readyWith_17 {b : Nat} {V : Nat → Nat → Int32} {o : Int64} {ls : sm_L} {r : List sm_V} : sm_R T_L_readyWith (b, 17, (V, o), ls, r) = sm_R T_L_readyWith (b, 18, (V, o), ls, .inl 2 :: r) := R_iconst rfl (by decide)
theorem s_L_readyWith_18 {b : Nat} {V : Nat → Nat → Int32} {o : Int64} {ls : sm_L} {r : List sm_V} {a0 : sm_N} {a1 : Int32} {a2 : Int32} (h : r.length ≤ 4) (hb : 1 ≤ b) : sm_R T_L_readyWith (b, 18, (V, o), ls, .inl a2 :: .inl a1 :: .inr (.inr a0) :: r) = sm_k1 (F_L_tryAhead (V, o) [.inr (.inr a0), .inl a1, .inl a2]) (fun M1 v => sm_R T_L_readyWith ((b - 1), 21, M1, ls, v.toList ++ r)) := R_call (T := T_L_readyWith) (x := 207) (virt := false) (as := [.inr (.inr a0), .inl a1, .inl a2]) rfl rfl rfl h hb (fun q => by cases q) (fun _ => ⟨by decide, rfl⟩) (fun _ => rfl) (by decide)
theorem s_L_readyWith_21 {b : Nat} {V : Nat → Nat → Int32} {o : Int64} {l0 l1 l2 l3 l4 l5 : Option sm_V} {tl : sm_L} {x : Int32} {r : List sm_V} (h : sm_nl l4 = true) : sm_R T_L_readyWith (b, 21, (V, o), l0 :: l1 :: l2 :: l3 :: l4 :: l5 :: tl, .inl x :: r) = sm_R T_L_readyWith (b, 23, (V, o), l0 :: l1 :: l2 :: l3 :: l4 :: some (.inl x) :: tl, r) := R_istore rfl (by unfold sm_s1; rw [sm_gt ⟨by simp only [List.length_cons]; first | omega | (show 5 + 1 < _; omega), h⟩]; rfl)
theorem s_L_readyWith_23 {b : Nat} {V : Nat → Nat → Int32} {o : Int64} {l0 l1 l2 l3 : Option sm_V} {tl : sm_L} {x : Int32} {r : List sm_V} : sm_R T_L_readyWith (b, 23, (V, o), l0 :: l1 :: l2 :: l3 :: some (.inl x) :: tl, r) = sm_R T_L_readyWith (b, 25, (V, o), l0 :: l1 :: l2 :: l3 :: some (.inl x) :: tl, .inl x :: r) := R_iload rfl rfl
theorem s_L_readyWith_25 {b : Nat} {V : Nat → Nat → Int32} {o : Int64} {ls : sm_L} {r : List sm_V} {x : Int32} : sm_R T_L_readyWith (b, 25, (V, o), ls, .inl x :: r) = if x < 0 then sm_R T_L_readyWith (b, 42, (V, o), ls, r) else sm_R T_L_readyWith (b, 28, (V, o), ls, r) := R_if_lt (tgt := 42) rfl (by decide)
theorem s_L_readyWith_28 {b : Nat} {V : Nat → Nat → Int32} {o : Int64} {tl : sm_L} {x : sm_N} {r : List sm_V} : sm_R T_L_readyWith (b, 28, (V, o), some (.inr (.inr x)) :: tl, r) = sm_R T_L_readyWith (b, 29, (V, o), some (.inr (.inr x)) :: tl, .inr (.inr x) :: r) := R_aload_n rfl rfl
theorem s_L_readyWith_29 {b : Nat} {V : Nat → Nat → Int32} {o : Int64} {ls : sm_L} {r : List sm_V} : sm_R T_L_readyWith (b, 29, (V, o), ls, r) = sm_R T_L_readyWith (b, 30, (V, o), ls, .inl 0 :: r) := R_iconst rfl (by decide)
theorem s_L_readyWith_30 {b : Nat} {V : Nat → Nat → Int32} {o : Int64} {ls : sm_L} {r : List sm_V} {a0 : sm_N} {a1 : Int32} (h : r.length ≤ 4) (hb : 2 ≤ b) : sm_R T_L_readyWith (b, 30, (V, o), ls, .inl a1 :: .inr (.inr a0) :: r) = sm_k1 (F_L_tryRestore (V, o) [.inr (.inr a0), .inl a1]) (fun M1 v => sm_R T_L_readyWith ((b - 2), 33, M1, ls, v.toList ++ r)) := R_call (T := T_L_readyWith) (x := 153) (virt := false) (as := [.inr (.inr a0), .inl a1]) rfl rfl rfl h hb (fun q => by cases q) (fun _ => ⟨by decide, rfl⟩) (fun _ => rfl) (by decide)
theorem s_L_readyWith_33 {b : Nat} {V : Nat → Nat → Int32} {o : Int64} {l0 l1 l2 : Option sm_V} {tl : sm_L} {x : Int32} {r : List sm_V} : sm_R T_L_readyWith (b, 33, (V, o), l0 :: l1 :: l2 :: some (.inl x) :: tl, r) = sm_R T_L_readyWith (b, 34, (V, o), l0 :: l1 :: l2 :: some (.inl x) :: tl, .inl x :: r) := R_iload_n rfl rfl
theorem s_L_readyWith_34 {b : Nat} {V : Nat → Nat → Int32} {o : Int64} {ls : sm_L} {r : List sm_V} {x y : Int32} : sm_R T_L_readyWith (b, 34, (V, o), ls, .inl y :: .inl x :: r) = if ¬ x = y then sm_R T_L_readyWith (b, 42, (V, o), ls, r) else sm_R T_L_readyWith (b, 37, (V, o), ls, r) := R_icmp_ne (tgt := 42) rfl (by decide)
theorem s_L_readyWith_37 {b : Nat} {V : Nat → Nat → Int32} {o : Int64} {l0 l1 l2 l3 l4 : Option sm_V} {tl : sm_L} {x : Int32} {r : List sm_V} : sm_R T_L_readyWith (b, 37, (V, o), l0 :: l1 :: l2 :: l3 :: l4 :: some (.inl x) :: tl, r) = sm_R T_L_readyWith (b, 39, (V, o), l0 :: l1 :: l2 :: l3 :: l4 :: some (.inl x) :: tl, .inl x :: r) := R_iload rfl rfl
theorem s_L_readyWith_39 {b : Nat} {V : Nat → Nat → Int32} {o : Int64} {ls : sm_L} {r : List sm_V} : sm_R T_L_readyWith (b, 39, (V, o), ls, r) = sm_R T_L_readyWith (b, 43, (V, o), ls, r) := R_goto (tgt := 43) rfl (by decide)
theorem s_L_readyWith_42 {b : Nat} {V : Nat → Nat → Int32} {o : Int64} {ls : sm_L} {r : List sm_V} : sm_R T_L_readyWith (b, 42, (V, o), ls, r) = sm_R T_L_readyWith (b, 43, (V, o), ls, .inl (-1) :: r) := R_iconst rfl (by decide)
theorem s_L_readyWith_43 {b : Nat} {V : Nat → Nat → Int32} {o : Int64} {ls : sm_L} {x : Int32} : sm_R T_L_readyWith (b, 43, (V, o), ls, [.inl x]) = some ((V, o), .ok (some (.inl x))) := R_ireturn rfl (Or.inl rfl)
theorem s_L_comes_0 {b : Nat} {V : Nat → Nat → Int32} {o : Int64} {ls : sm_L} {r : List sm_V} : sm_R T_L_comes (b, 0, (V, o), ls, r) = sm_R T_L_comes (b, 1, (V, o), ls, .inl 1 :: r) := R_iconst rfl (by decide)
theorem s_L_comes_1 {b : Nat} {V : Nat → Nat → Int32} {o : Int64} {l0 l1 l2 l3 l4 : Option sm_V} {tl : sm_L} {x : Int32} {r : List sm_V} (h : sm_nl l3 = true) : sm_R T_L_comes (b, 1, (V, o), l0 :: l1 :: l2 :: l3 :: l4 :: tl, .inl x :: r) = sm_R T_L_comes (b, 3, (V, o), l0 :: l1 :: l2 :: l3 :: some (.inl x) :: tl, r) := R_istore rfl (by unfold sm_s1; rw [sm_gt ⟨by simp only [List.length_cons]; first | omega | (show 4 + 1 < _; omega), h⟩]; rfl)
theorem s_L_comes_3 {b : Nat} {V : Nat → Nat → Int32} {o : Int64} {ls : sm_L} {r : List sm_V} : sm_R T_L_comes (b, 3, (V, o), ls, r) = sm_R T_L_comes (b, 4, (V, o), ls, .inl 1 :: r) := R_iconst rfl (by decide)
theorem s_L_comes_4 {b : Nat} {V : Nat → Nat → Int32} {o : Int64} {l0 l1 l2 l3 l4 l5 : Option sm_V} {tl : sm_L} {x : Int32} {r : List sm_V} (h : sm_nl l4 = true) : sm_R T_L_comes (b, 4, (V, o), l0 :: l1 :: l2 :: l3 :: l4 :: l5 :: tl, .inl x :: r) = sm_R T_L_comes (b, 6, (V, o), l0 :: l1 :: l2 :: l3 :: l4 :: some (.inl x) :: tl, r) := R_istore rfl (by unfold sm_s1; rw [sm_gt ⟨by simp only [List.length_cons]; first | omega | (show 5 + 1 < _; omega), h⟩]; rfl)
theorem s_L_comes_6 {b : Nat} {V : Nat → Nat → Int32} {o : Int64} {l0 l1 l2 l3 l4 : Option sm_V} {tl : sm_L} {x : Int32} {r : List sm_V} : sm_R T_L_comes (b, 6, (V, o), l0 :: l1 :: l2 :: l3 :: l4 :: some (.inl x) :: tl, r) = sm_R T_L_comes (b, 8, (V, o), l0 :: l1 :: l2 :: l3 :: l4 :: some (.inl x) :: tl, .inl x :: r) := R_iload rfl rfl
theorem s_L_comes_8 {b : Nat} {V : Nat → Nat → Int32} {o : Int64} {l0 l1 : Option sm_V} {tl : sm_L} {x : Int32} {r : List sm_V} : sm_R T_L_comes (b, 8, (V, o), l0 :: l1 :: some (.inl x) :: tl, r) = sm_R T_L_comes (b, 9, (V, o), l0 :: l1 :: some (.inl x) :: tl, .inl x :: r) := R_iload_n rfl rfl
theorem s_L_comes_9 {b : Nat} {V : Nat → Nat → Int32} {o : Int64} {ls : sm_L} {r : List sm_V} {x y : Int32} : sm_R T_L_comes (b, 9, (V, o), ls, .inl y :: .inl x :: r) = if y < x then sm_R T_L_comes (b, 47, (V, o), ls, r) else sm_R T_L_comes (b, 12, (V, o), ls, r) := R_icmp_gt (tgt := 47) rfl (by decide)
theorem s_L_comes_12 {b : Nat} {V : Nat → Nat → Int32} {o : Int64} {l0 l1 l2 l3 : Option sm_V} {tl : sm_L} {x : Int32} {r : List sm_V} : sm_R T_L_comes (b, 12, (V, o), l0 :: l1 :: l2 :: l3 :: some (.inl x) :: tl, r) = sm_R T_L_comes (b, 14, (V, o), l0 :: l1 :: l2 :: l3 :: some (.inl x) :: tl, .inl x :: r) := R_iload rfl rfl
theorem s_L_comes_14 {b : Nat} {V : Nat → Nat → Int32} {o : Int64} {ls : sm_L} {r : List sm_V} {x : Int32} : sm_R T_L_comes (b, 14, (V, o), ls, .inl x :: r) = if x = 0 then sm_R T_L_comes (b, 47, (V, o), ls, r) else sm_R T_L_comes (b, 17, (V, o), ls, r) := R_if_eq (tgt := 47) rfl (by decide)
theorem s_L_comes_17 {b : Nat} {V : Nat → Nat → Int32} {o : Int64} {tl : sm_L} {x : sm_N} {r : List sm_V} : sm_R T_L_comes (b, 17, (V, o), some (.inr (.inr x)) :: tl, r) = sm_R T_L_comes (b, 18, (V, o), some (.inr (.inr x)) :: tl, .inr (.inr x) :: r) := R_aload_n rfl rfl
theorem s_L_comes_18 {b : Nat} {V : Nat → Nat → Int32} {o : Int64} {l0 : Option sm_V} {tl : sm_L} {x : Int32} {r : List sm_V} : sm_R T_L_comes (b, 18, (V, o), l0 :: some (.inl x) :: tl, r) = sm_R T_L_comes (b, 19, (V, o), l0 :: some (.inl x) :: tl, .inl x :: r) := R_iload_n rfl rfl
theorem s_L_comes_19 {b : Nat} {V : Nat → Nat → Int32} {o : Int64} {ls : sm_L} {r : List sm_V} : sm_R T_L_comes (b, 19, (V, o), ls, r) = sm_R T_L_comes (b, 20, (V, o), ls, .inl 5 :: r) := R_iconst rfl (by decide)
theorem s_L_comes_20 {b : Nat} {V : Nat → Nat → Int32} {o : Int64} {ls : sm_L} {r : List sm_V} {a0 : sm_N} {a1 : Int32} {a2 : Int32} (h : r.length ≤ 4) (hb : 2 ≤ b) : sm_R T_L_comes (b, 20, (V, o), ls, .inl a2 :: .inl a1 :: .inr (.inr a0) :: r) = sm_k1 (F_L_trySlope (V, o) [.inr (.inr a0), .inl a1, .inl a2]) (fun M1 v => sm_R T_L_comes ((b - 2), 23, M1, ls, v.toList ++ r)) := R_call (T := T_L_comes) (x := 156) (virt := false) (as := [.inr (.inr a0), .inl a1, .inl a2]) rfl rfl rfl h hb (fun q => by cases q) (fun _ => ⟨by decide, rfl⟩) (fun _ => rfl) (by decide)
theorem s_L_comes_23 {b : Nat} {V : Nat → Nat → Int32} {o : Int64} {ls : sm_L} {r : List sm_V} {x : Int32} : sm_R T_L_comes (b, 23, (V, o), ls, .inl x :: r) = if ¬ x = 0 then sm_R T_L_comes (b, 38, (V, o), ls, r) else sm_R T_L_comes (b, 26, (V, o), ls, r) := R_if_ne (tgt := 38) rfl (by decide)
theorem s_L_comes_26 {b : Nat} {V : Nat → Nat → Int32} {o : Int64} {tl : sm_L} {x : sm_N} {r : List sm_V} : sm_R T_L_comes (b, 26, (V, o), some (.inr (.inr x)) :: tl, r) = sm_R T_L_comes (b, 27, (V, o), some (.inr (.inr x)) :: tl, .inr (.inr x) :: r) := R_aload_n rfl rfl
theorem s_L_comes_27 {b : Nat} {V : Nat → Nat → Int32} {o : Int64} {ls : sm_L} {r : List sm_V} : sm_R T_L_comes (b, 27, (V, o), ls, r) = sm_R T_L_comes (b, 28, (V, o), ls, .inl 1 :: r) := R_iconst rfl (by decide)
theorem s_L_comes_28 {b : Nat} {V : Nat → Nat → Int32} {o : Int64} {ls : sm_L} {r : List sm_V} {a0 : sm_N} {a1 : Int32} (h : r.length ≤ 4) (hb : 1 ≤ b) : sm_R T_L_comes (b, 28, (V, o), ls, .inl a1 :: .inr (.inr a0) :: r) = sm_k1 (F_L_tryPass (V, o) [.inr (.inr a0), .inl a1]) (fun M1 v => sm_R T_L_comes ((b - 1), 31, M1, ls, v.toList ++ r)) := R_call (T := T_L_comes) (x := 179) (virt := false) (as := [.inr (.inr a0), .inl a1]) rfl rfl rfl h hb (fun q => by cases q) (fun _ => ⟨by decide, rfl⟩) (fun _ => rfl) (by decide)
theorem s_L_comes_31 {b : Nat} {V : Nat → Nat → Int32} {o : Int64} {ls : sm_L} {r : List sm_V} {x : Int32} : sm_R T_L_comes (b, 31, (V, o), ls, .inl x :: r) = if x < 0 then sm_R T_L_comes (b, 38, (V, o), ls, r) else sm_R T_L_comes (b, 34, (V, o), ls, r) := R_if_lt (tgt := 38) rfl (by decide)
theorem s_L_comes_34 {b : Nat} {V : Nat → Nat → Int32} {o : Int64} {ls : sm_L} {r : List sm_V} : sm_R T_L_comes (b, 34, (V, o), ls, r) = sm_R T_L_comes (b, 35, (V, o), ls, .inl 1 :: r) := R_iconst rfl (by decide)
theorem s_L_comes_35 {b : Nat} {V : Nat → Nat → Int32} {o : Int64} {ls : sm_L} {r : List sm_V} : sm_R T_L_comes (b, 35, (V, o), ls, r) = sm_R T_L_comes (b, 39, (V, o), ls, r) := R_goto (tgt := 39) rfl (by decide)
theorem s_L_comes_38 {b : Nat} {V : Nat → Nat → Int32} {o : Int64} {ls : sm_L} {r : List sm_V} : sm_R T_L_comes (b, 38, (V, o), ls, r) = sm_R T_L_comes (b, 39, (V, o), ls, .inl 0 :: r) := R_iconst rfl (by decide)
theorem s_L_comes_39 {b : Nat} {V : Nat → Nat → Int32} {o : Int64} {l0 l1 l2 l3 l4 : Option sm_V} {tl : sm_L} {x : Int32} {r : List sm_V} (h : sm_nl l3 = true) : sm_R T_L_comes (b, 39, (V, o), l0 :: l1 :: l2 :: l3 :: l4 :: tl, .inl x :: r) = sm_R T_L_comes (b, 41, (V, o), l0 :: l1 :: l2 :: l3 :: some (.inl x) :: tl, r) := R_istore rfl (by unfold sm_s1; rw [sm_gt ⟨by simp only [List.length_cons]; first | omega | (show 4 + 1 < _; omega), h⟩]; rfl)
theorem s_L_comes_41 {b : Nat} {V : Nat → Nat → Int32} {o : Int64} {l0 l1 l2 l3 l4 : Option sm_V} {tl : sm_L} {x : Int32} {r : List sm_V} (h : sm_nl l4 = true) : sm_R T_L_comes (b, 41, (V, o), l0 :: l1 :: l2 :: l3 :: l4 :: some (.inl x) :: tl, r) = sm_R T_L_comes (b, 44, (V, o), l0 :: l1 :: l2 :: l3 :: l4 :: some (.inl (x + 1)) :: tl, r) := R_iinc (v := 1) rfl rfl (by decide) (by unfold sm_s1; rw [sm_gt ⟨by simp only [List.length_cons]; omega, h⟩]; rfl)
theorem s_L_comes_44 {b : Nat} {V : Nat → Nat → Int32} {o : Int64} {ls : sm_L} {r : List sm_V} : sm_R T_L_comes (b, 44, (V, o), ls, r) = sm_R T_L_comes (b, 6, (V, o), ls, r) := R_goto (tgt := 6) rfl (by decide)
theorem s_L_comes_47 {b : Nat} {V : Nat → Nat → Int32} {o : Int64} {l0 l1 l2 l3 : Option sm_V} {tl : sm_L} {x : Int32} {r : List sm_V} : sm_R T_L_comes (b, 47, (V, o), l0 :: l1 :: l2 :: l3 :: some (.inl x) :: tl, r) = sm_R T_L_comes (b, 49, (V, o), l0 :: l1 :: l2 :: l3 :: some (.inl x) :: tl, .inl x :: r) := R_iload rfl rfl
theorem s_L_comes_49 {b : Nat} {V : Nat → Nat → Int32} {o : Int64} {ls : sm_L} {r : List sm_V} {x : Int32} : sm_R T_L_comes (b, 49, (V, o), ls, .inl x :: r) = if x = 0 then sm_R T_L_comes (b, 75, (V, o), ls, r) else sm_R T_L_comes (b, 52, (V, o), ls, r) := R_if_eq (tgt := 75) rfl (by decide)
theorem s_L_comes_52 {b : Nat} {V : Nat → Nat → Int32} {o : Int64} {tl : sm_L} {x : sm_N} {r : List sm_V} : sm_R T_L_comes (b, 52, (V, o), some (.inr (.inr x)) :: tl, r) = sm_R T_L_comes (b, 53, (V, o), some (.inr (.inr x)) :: tl, .inr (.inr x) :: r) := R_aload_n rfl rfl
theorem s_L_comes_53 {b : Nat} {V : Nat → Nat → Int32} {o : Int64} {l0 : Option sm_V} {tl : sm_L} {x : Int32} {r : List sm_V} : sm_R T_L_comes (b, 53, (V, o), l0 :: some (.inl x) :: tl, r) = sm_R T_L_comes (b, 54, (V, o), l0 :: some (.inl x) :: tl, .inl x :: r) := R_iload_n rfl rfl
theorem s_L_comes_54 {b : Nat} {V : Nat → Nat → Int32} {o : Int64} {ls : sm_L} {r : List sm_V} : sm_R T_L_comes (b, 54, (V, o), ls, r) = sm_R T_L_comes (b, 55, (V, o), ls, .inl 5 :: r) := R_iconst rfl (by decide)
theorem s_L_comes_55 {b : Nat} {V : Nat → Nat → Int32} {o : Int64} {ls : sm_L} {r : List sm_V} {a0 : sm_N} {a1 : Int32} {a2 : Int32} (h : r.length ≤ 4) (hb : 2 ≤ b) : sm_R T_L_comes (b, 55, (V, o), ls, .inl a2 :: .inl a1 :: .inr (.inr a0) :: r) = sm_k1 (F_L_trySlope (V, o) [.inr (.inr a0), .inl a1, .inl a2]) (fun M1 v => sm_R T_L_comes ((b - 2), 58, M1, ls, v.toList ++ r)) := R_call (T := T_L_comes) (x := 156) (virt := false) (as := [.inr (.inr a0), .inl a1, .inl a2]) rfl rfl rfl h hb (fun q => by cases q) (fun _ => ⟨by decide, rfl⟩) (fun _ => rfl) (by decide)
theorem s_L_comes_58 {b : Nat} {V : Nat → Nat → Int32} {o : Int64} {ls : sm_L} {r : List sm_V} : sm_R T_L_comes (b, 58, (V, o), ls, r) = sm_R T_L_comes (b, 59, (V, o), ls, .inl 1 :: r) := R_iconst rfl (by decide)
theorem s_L_comes_59 {b : Nat} {V : Nat → Nat → Int32} {o : Int64} {ls : sm_L} {r : List sm_V} {x y : Int32} : sm_R T_L_comes (b, 59, (V, o), ls, .inl y :: .inl x :: r) = if ¬ x = y then sm_R T_L_comes (b, 75, (V, o), ls, r) else sm_R T_L_comes (b, 62, (V, o), ls, r) := R_icmp_ne (tgt := 75) rfl (by decide)
theorem s_L_comes_62 {b : Nat} {V : Nat → Nat → Int32} {o : Int64} {tl : sm_L} {x : sm_N} {r : List sm_V} : sm_R T_L_comes (b, 62, (V, o), some (.inr (.inr x)) :: tl, r) = sm_R T_L_comes (b, 63, (V, o), some (.inr (.inr x)) :: tl, .inr (.inr x) :: r) := R_aload_n rfl rfl
theorem s_L_comes_63 {b : Nat} {V : Nat → Nat → Int32} {o : Int64} {ls : sm_L} {r : List sm_V} : sm_R T_L_comes (b, 63, (V, o), ls, r) = sm_R T_L_comes (b, 64, (V, o), ls, .inl 0 :: r) := R_iconst rfl (by decide)
theorem s_L_comes_64 {b : Nat} {V : Nat → Nat → Int32} {o : Int64} {ls : sm_L} {r : List sm_V} {a0 : sm_N} {a1 : Int32} (h : r.length ≤ 4) (hb : 2 ≤ b) : sm_R T_L_comes (b, 64, (V, o), ls, .inl a1 :: .inr (.inr a0) :: r) = sm_k1 (F_L_tryRestore (V, o) [.inr (.inr a0), .inl a1]) (fun M1 v => sm_R T_L_comes ((b - 2), 67, M1, ls, v.toList ++ r)) := R_call (T := T_L_comes) (x := 153) (virt := false) (as := [.inr (.inr a0), .inl a1]) rfl rfl rfl h hb (fun q => by cases q) (fun _ => ⟨by decide, rfl⟩) (fun _ => rfl) (by decide)
theorem s_L_comes_67 {b : Nat} {V : Nat → Nat → Int32} {o : Int64} {l0 l1 l2 : Option sm_V} {tl : sm_L} {x : Int32} {r : List sm_V} : sm_R T_L_comes (b, 67, (V, o), l0 :: l1 :: l2 :: some (.inl x) :: tl, r) = sm_R T_L_comes (b, 68, (V, o), l0 :: l1 :: l2 :: some (.inl x) :: tl, .inl x :: r) := R_iload_n rfl rfl
theorem s_L_comes_68 {b : Nat} {V : Nat → Nat → Int32} {o : Int64} {ls : sm_L} {r : List sm_V} {x y : Int32} : sm_R T_L_comes (b, 68, (V, o), ls, .inl y :: .inl x :: r) = if ¬ x = y then sm_R T_L_comes (b, 75, (V, o), ls, r) else sm_R T_L_comes (b, 71, (V, o), ls, r) := R_icmp_ne (tgt := 75) rfl (by decide)
theorem s_L_comes_71 {b : Nat} {V : Nat → Nat → Int32} {o : Int64} {ls : sm_L} {r : List sm_V} : sm_R T_L_comes (b, 71, (V, o), ls, r) = sm_R T_L_comes (b, 72, (V, o), ls, .inl 1 :: r) := R_iconst rfl (by decide)
theorem s_L_comes_72 {b : Nat} {V : Nat → Nat → Int32} {o : Int64} {ls : sm_L} {r : List sm_V} : sm_R T_L_comes (b, 72, (V, o), ls, r) = sm_R T_L_comes (b, 76, (V, o), ls, r) := R_goto (tgt := 76) rfl (by decide)
theorem s_L_comes_75 {b : Nat} {V : Nat → Nat → Int32} {o : Int64} {ls : sm_L} {r : List sm_V} : sm_R T_L_comes (b, 75, (V, o), ls, r) = sm_R T_L_comes (b, 76, (V, o), ls, .inl 0 :: r) := R_iconst rfl (by decide)
theorem s_L_comes_76 {b : Nat} {V : Nat → Nat → Int32} {o : Int64} {ls : sm_L} {x : Int32} (hz : x = 0 ∨ x = 1) : sm_R T_L_comes (b, 76, (V, o), ls, [.inl x]) = some ((V, o), .ok (some (.inl x))) := R_zreturn rfl rfl hz
theorem s_L_with_0 {b : Nat} {V : Nat → Nat → Int32} {o : Int64} {tl : sm_L} {x : sm_N} {r : List sm_V} : sm_R T_L_with (b, 0, (V, o), some (.inr (.inr x)) :: tl, r) = sm_R T_L_with (b, 1, (V, o), some (.inr (.inr x)) :: tl, .inr (.inr x) :: r) := R_aload_n rfl rfl
theorem s_L_with_1 {b : Nat} {V : Nat → Nat → Int32} {o : Int64} {l0 : Option sm_V} {tl : sm_L} {x : Int32} {r : List sm_V} : sm_R T_L_with (b, 1, (V, o), l0 :: some (.inl x) :: tl, r) = sm_R T_L_with (b, 2, (V, o), l0 :: some (.inl x) :: tl, .inl x :: r) := R_iload_n rfl rfl
theorem s_L_with_2 {b : Nat} {V : Nat → Nat → Int32} {o : Int64} {l0 l1 : Option sm_V} {tl : sm_L} {x : Int32} {r : List sm_V} : sm_R T_L_with (b, 2, (V, o), l0 :: l1 :: some (.inl x) :: tl, r) = sm_R T_L_with (b, 3, (V, o), l0 :: l1 :: some (.inl x) :: tl, .inl x :: r) := R_iload_n rfl rfl
theorem s_L_with_3 {b : Nat} {V : Nat → Nat → Int32} {o : Int64} {ls : sm_L} {r : List sm_V} {a0 : sm_N} {a1 : Int32} {a2 : Int32} (h : r.length ≤ 4) (hb : 3 ≤ b) : sm_R T_L_with (b, 3, (V, o), ls, .inl a2 :: .inl a1 :: .inr (.inr a0) :: r) = sm_k1 (F_L_tryAddGun (V, o) [.inr (.inr a0), .inl a1, .inl a2]) (fun M1 v => sm_R T_L_with ((b - 3), 6, M1, ls, v.toList ++ r)) := R_call (T := T_L_with) (x := 194) (virt := false) (as := [.inr (.inr a0), .inl a1, .inl a2]) rfl rfl rfl h hb (fun q => by cases q) (fun _ => ⟨by decide, rfl⟩) (fun _ => rfl) (by decide)
theorem s_L_with_6 {b : Nat} {V : Nat → Nat → Int32} {o : Int64} {l0 l1 l2 l3 l4 l5 : Option sm_V} {tl : sm_L} {x : Int32} {r : List sm_V} (h : sm_nl l4 = true) : sm_R T_L_with (b, 6, (V, o), l0 :: l1 :: l2 :: l3 :: l4 :: l5 :: tl, .inl x :: r) = sm_R T_L_with (b, 8, (V, o), l0 :: l1 :: l2 :: l3 :: l4 :: some (.inl x) :: tl, r) := R_istore rfl (by unfold sm_s1; rw [sm_gt ⟨by simp only [List.length_cons]; first | omega | (show 5 + 1 < _; omega), h⟩]; rfl)
theorem s_L_with_8 {b : Nat} {V : Nat → Nat → Int32} {o : Int64} {ls : sm_L} {r : List sm_V} : sm_R T_L_with (b, 8, (V, o), ls, r) = sm_R T_L_with (b, 11, (V, o), ls, .inl 100000 :: r) := R_ldcw rfl rfl
theorem s_L_with_11 {b : Nat} {V : Nat → Nat → Int32} {o : Int64} {tl : sm_L} {x : sm_N} {r : List sm_V} : sm_R T_L_with (b, 11, (V, o), some (.inr (.inr x)) :: tl, r) = sm_R T_L_with (b, 12, (V, o), some (.inr (.inr x)) :: tl, .inr (.inr x) :: r) := R_aload_n rfl rfl
theorem s_L_with_12 {b : Nat} {V : Nat → Nat → Int32} {o : Int64} {l0 l1 l2 : Option sm_V} {tl : sm_L} {x : Int32} {r : List sm_V} : sm_R T_L_with (b, 12, (V, o), l0 :: l1 :: l2 :: some (.inl x) :: tl, r) = sm_R T_L_with (b, 13, (V, o), l0 :: l1 :: l2 :: some (.inl x) :: tl, .inl x :: r) := R_iload_n rfl rfl
theorem s_L_with_13 {b : Nat} {V : Nat → Nat → Int32} {o : Int64} {ls : sm_L} {r : List sm_V} : sm_R T_L_with (b, 13, (V, o), ls, r) = sm_R T_L_with (b, 14, (V, o), ls, .inl 2 :: r) := R_iconst rfl (by decide)
theorem s_L_with_14 {b : Nat} {V : Nat → Nat → Int32} {o : Int64} {ls : sm_L} {r : List sm_V} {a0 : sm_N} {a1 : Int32} {a2 : Int32} (h : r.length ≤ 4) (hb : 1 ≤ b) : sm_R T_L_with (b, 14, (V, o), ls, .inl a2 :: .inl a1 :: .inr (.inr a0) :: r) = sm_k1 (F_L_tryAhead (V, o) [.inr (.inr a0), .inl a1, .inl a2]) (fun M1 v => sm_R T_L_with ((b - 1), 17, M1, ls, v.toList ++ r)) := R_call (T := T_L_with) (x := 207) (virt := false) (as := [.inr (.inr a0), .inl a1, .inl a2]) rfl rfl rfl h hb (fun q => by cases q) (fun _ => ⟨by decide, rfl⟩) (fun _ => rfl) (by decide)
theorem s_L_with_17 {b : Nat} {V : Nat → Nat → Int32} {o : Int64} {ls : sm_L} {r : List sm_V} {x y : Int32} : sm_R T_L_with (b, 17, (V, o), ls, .inl y :: .inl x :: r) = sm_R T_L_with (b, 18, (V, o), ls, .inl (x * y) :: r) := R_imul rfl
theorem s_L_with_18 {b : Nat} {V : Nat → Nat → Int32} {o : Int64} {tl : sm_L} {x : sm_N} {r : List sm_V} : sm_R T_L_with (b, 18, (V, o), some (.inr (.inr x)) :: tl, r) = sm_R T_L_with (b, 19, (V, o), some (.inr (.inr x)) :: tl, .inr (.inr x) :: r) := R_aload_n rfl rfl
theorem s_L_with_19 {b : Nat} {V : Nat → Nat → Int32} {o : Int64} {l0 l1 l2 : Option sm_V} {tl : sm_L} {x : Int32} {r : List sm_V} : sm_R T_L_with (b, 19, (V, o), l0 :: l1 :: l2 :: some (.inl x) :: tl, r) = sm_R T_L_with (b, 20, (V, o), l0 :: l1 :: l2 :: some (.inl x) :: tl, .inl x :: r) := R_iload_n rfl rfl
theorem s_L_with_20 {b : Nat} {V : Nat → Nat → Int32} {o : Int64} {ls : sm_L} {r : List sm_V} : sm_R T_L_with (b, 20, (V, o), ls, r) = sm_R T_L_with (b, 21, (V, o), ls, .inl 0 :: r) := R_iconst rfl (by decide)
theorem s_L_with_21 {b : Nat} {V : Nat → Nat → Int32} {o : Int64} {ls : sm_L} {r : List sm_V} {a0 : sm_N} {a1 : Int32} {a2 : Int32} (h : r.length ≤ 4) (hb : 1 ≤ b) : sm_R T_L_with (b, 21, (V, o), ls, .inl a2 :: .inl a1 :: .inr (.inr a0) :: r) = sm_k1 (F_L_tryAhead (V, o) [.inr (.inr a0), .inl a1, .inl a2]) (fun M1 v => sm_R T_L_with ((b - 1), 24, M1, ls, v.toList ++ r)) := R_call (T := T_L_with) (x := 207) (virt := false) (as := [.inr (.inr a0), .inl a1, .inl a2]) rfl rfl rfl h hb (fun q => by cases q) (fun _ => ⟨by decide, rfl⟩) (fun _ => rfl) (by decide)
theorem s_L_with_24 {b : Nat} {V : Nat → Nat → Int32} {o : Int64} {ls : sm_L} {r : List sm_V} {x y : Int32} : sm_R T_L_with (b, 24, (V, o), ls, .inl y :: .inl x :: r) = sm_R T_L_with (b, 25, (V, o), ls, .inl (x + y) :: r) := R_iadd rfl
theorem s_L_with_25 {b : Nat} {V : Nat → Nat → Int32} {o : Int64} {l0 l1 l2 l3 l4 l5 l6 : Option sm_V} {tl : sm_L} {x : Int32} {r : List sm_V} (h : sm_nl l5 = true) : sm_R T_L_with (b, 25, (V, o), l0 :: l1 :: l2 :: l3 :: l4 :: l5 :: l6 :: tl, .inl x :: r) = sm_R T_L_with (b, 27, (V, o), l0 :: l1 :: l2 :: l3 :: l4 :: l5 :: some (.inl x) :: tl, r) := R_istore rfl (by unfold sm_s1; rw [sm_gt ⟨by simp only [List.length_cons]; first | omega | (show 6 + 1 < _; omega), h⟩]; rfl)
theorem s_L_with_27 {b : Nat} {V : Nat → Nat → Int32} {o : Int64} {l0 l1 l2 l3 l4 : Option sm_V} {tl : sm_L} {x : Int32} {r : List sm_V} : sm_R T_L_with (b, 27, (V, o), l0 :: l1 :: l2 :: l3 :: l4 :: some (.inl x) :: tl, r) = sm_R T_L_with (b, 29, (V, o), l0 :: l1 :: l2 :: l3 :: l4 :: some (.inl x) :: tl, .inl x :: r) := R_iload rfl rfl
theorem s_L_with_29 {b : Nat} {V : Nat → Nat → Int32} {o : Int64} {ls : sm_L} {r : List sm_V} {x : Int32} : sm_R T_L_with (b, 29, (V, o), ls, .inl x :: r) = if x < 0 then sm_R T_L_with (b, 47, (V, o), ls, r) else sm_R T_L_with (b, 32, (V, o), ls, r) := R_if_lt (tgt := 47) rfl (by decide)
theorem s_L_with_32 {b : Nat} {V : Nat → Nat → Int32} {o : Int64} {tl : sm_L} {x : sm_N} {r : List sm_V} : sm_R T_L_with (b, 32, (V, o), some (.inr (.inr x)) :: tl, r) = sm_R T_L_with (b, 33, (V, o), some (.inr (.inr x)) :: tl, .inr (.inr x) :: r) := R_aload_n rfl rfl
theorem s_L_with_33 {b : Nat} {V : Nat → Nat → Int32} {o : Int64} {ls : sm_L} {r : List sm_V} : sm_R T_L_with (b, 33, (V, o), ls, r) = sm_R T_L_with (b, 34, (V, o), ls, .inl 0 :: r) := R_iconst rfl (by decide)
theorem s_L_with_34 {b : Nat} {V : Nat → Nat → Int32} {o : Int64} {ls : sm_L} {r : List sm_V} {a0 : sm_N} {a1 : Int32} (h : r.length ≤ 4) (hb : 2 ≤ b) : sm_R T_L_with (b, 34, (V, o), ls, .inl a1 :: .inr (.inr a0) :: r) = sm_k1 (F_L_tryRestore (V, o) [.inr (.inr a0), .inl a1]) (fun M1 v => sm_R T_L_with ((b - 2), 37, M1, ls, v.toList ++ r)) := R_call (T := T_L_with) (x := 153) (virt := false) (as := [.inr (.inr a0), .inl a1]) rfl rfl rfl h hb (fun q => by cases q) (fun _ => ⟨by decide, rfl⟩) (fun _ => rfl) (by decide)
theorem s_L_with_37 {b : Nat} {V : Nat → Nat → Int32} {o : Int64} {l0 l1 l2 l3 : Option sm_V} {tl : sm_L} {x : Int32} {r : List sm_V} : sm_R T_L_with (b, 37, (V, o), l0 :: l1 :: l2 :: l3 :: some (.inl x) :: tl, r) = sm_R T_L_with (b, 39, (V, o), l0 :: l1 :: l2 :: l3 :: some (.inl x) :: tl, .inl x :: r) := R_iload rfl rfl
theorem s_L_with_39 {b : Nat} {V : Nat → Nat → Int32} {o : Int64} {ls : sm_L} {r : List sm_V} {x y : Int32} : sm_R T_L_with (b, 39, (V, o), ls, .inl y :: .inl x :: r) = if ¬ x = y then sm_R T_L_with (b, 47, (V, o), ls, r) else sm_R T_L_with (b, 42, (V, o), ls, r) := R_icmp_ne (tgt := 47) rfl (by decide)
theorem s_L_with_42 {b : Nat} {V : Nat → Nat → Int32} {o : Int64} {l0 l1 l2 l3 l4 l5 : Option sm_V} {tl : sm_L} {x : Int32} {r : List sm_V} : sm_R T_L_with (b, 42, (V, o), l0 :: l1 :: l2 :: l3 :: l4 :: l5 :: some (.inl x) :: tl, r) = sm_R T_L_with (b, 44, (V, o), l0 :: l1 :: l2 :: l3 :: l4 :: l5 :: some (.inl x) :: tl, .inl x :: r) := R_iload rfl rfl
theorem s_L_with_44 {b : Nat} {V : Nat → Nat → Int32} {o : Int64} {ls : sm_L} {r : List sm_V} : sm_R T_L_with (b, 44, (V, o), ls, r) = sm_R T_L_with (b, 48, (V, o), ls, r) := R_goto (tgt := 48) rfl (by decide)
theorem s_L_with_47 {b : Nat} {V : Nat → Nat → Int32} {o : Int64} {ls : sm_L} {r : List sm_V} : sm_R T_L_with (b, 47, (V, o), ls, r) = sm_R T_L_with (b, 48, (V, o), ls, .inl (-1) :: r) := R_iconst rfl (by decide)
theorem s_L_with_48 {b : Nat} {V : Nat → Nat → Int32} {o : Int64} {ls : sm_L} {x : Int32} : sm_R T_L_with (b, 48, (V, o), ls, [.inl x]) = some ((V, o), .ok (some (.inl x))) := R_ireturn rfl (Or.inl rfl)
theorem s_L_act_0 {b : Nat} {V : Nat → Nat → Int32} {o : Int64} {tl : sm_L} {x : sm_N} {r : List sm_V} : sm_R T_L_act (b, 0, (V, o), some (.inr (.inr x)) :: tl, r) = sm_R T_L_act (b, 1, (V, o), some (.inr (.inr x)) :: tl, .inr (.inr x) :: r) := R_aload_n rfl rfl
theorem s_L_act_1 {b : Nat} {V : Nat → Nat → Int32} {o : Int64} {ls : sm_L} {r : List sm_V} : sm_R T_L_act (b, 1, (V, o), ls, r) = sm_R T_L_act (b, 2, (V, o), ls, .inl 4 :: r) := R_iconst rfl (by decide)
theorem s_L_act_2 {b : Nat} {V : Nat → Nat → Int32} {o : Int64} {ls : sm_L} {r : List sm_V} {a0 : sm_N} {a1 : Int32} (h : r.length ≤ 4) (hb : 1 ≤ b) : sm_R T_L_act (b, 2, (V, o), ls, .inl a1 :: .inr (.inr a0) :: r) = sm_k1 (F_L_tryAbout (V, o) [.inr (.inr a0), .inl a1]) (fun M1 v => sm_R T_L_act ((b - 1), 5, M1, ls, v.toList ++ r)) := R_call (T := T_L_act) (x := 144) (virt := false) (as := [.inr (.inr a0), .inl a1]) rfl rfl rfl h hb (fun q => by cases q) (fun _ => ⟨by decide, rfl⟩) (fun _ => rfl) (by decide)
theorem s_L_act_5 {b : Nat} {V : Nat → Nat → Int32} {o : Int64} {l0 l1 l2 l3 : Option sm_V} {tl : sm_L} {x : Int32} {r : List sm_V} (h : sm_nl l2 = true) : sm_R T_L_act (b, 5, (V, o), l0 :: l1 :: l2 :: l3 :: tl, .inl x :: r) = sm_R T_L_act (b, 6, (V, o), l0 :: l1 :: l2 :: some (.inl x) :: tl, r) := R_istore_n rfl (by unfold sm_s1; rw [sm_gt ⟨by simp only [List.length_cons]; first | omega | (show 3 + 1 < _; omega), h⟩]; rfl)
theorem s_L_act_6 {b : Nat} {V : Nat → Nat → Int32} {o : Int64} {tl : sm_L} {x : sm_N} {r : List sm_V} : sm_R T_L_act (b, 6, (V, o), some (.inr (.inr x)) :: tl, r) = sm_R T_L_act (b, 7, (V, o), some (.inr (.inr x)) :: tl, .inr (.inr x) :: r) := R_aload_n rfl rfl
theorem s_L_act_7 {b : Nat} {V : Nat → Nat → Int32} {o : Int64} {ls : sm_L} {r : List sm_V} : sm_R T_L_act (b, 7, (V, o), ls, r) = sm_R T_L_act (b, 8, (V, o), ls, .inl 5 :: r) := R_iconst rfl (by decide)
theorem s_L_act_8 {b : Nat} {V : Nat → Nat → Int32} {o : Int64} {ls : sm_L} {r : List sm_V} {a0 : sm_N} {a1 : Int32} (h : r.length ≤ 4) (hb : 1 ≤ b) : sm_R T_L_act (b, 8, (V, o), ls, .inl a1 :: .inr (.inr a0) :: r) = sm_k1 (F_L_tryAbout (V, o) [.inr (.inr a0), .inl a1]) (fun M1 v => sm_R T_L_act ((b - 1), 11, M1, ls, v.toList ++ r)) := R_call (T := T_L_act) (x := 144) (virt := false) (as := [.inr (.inr a0), .inl a1]) rfl rfl rfl h hb (fun q => by cases q) (fun _ => ⟨by decide, rfl⟩) (fun _ => rfl) (by decide)
theorem s_L_act_11 {b : Nat} {V : Nat → Nat → Int32} {o : Int64} {l0 l1 l2 l3 l4 : Option sm_V} {tl : sm_L} {x : Int32} {r : List sm_V} (h : sm_nl l3 = true) : sm_R T_L_act (b, 11, (V, o), l0 :: l1 :: l2 :: l3 :: l4 :: tl, .inl x :: r) = sm_R T_L_act (b, 13, (V, o), l0 :: l1 :: l2 :: l3 :: some (.inl x) :: tl, r) := R_istore rfl (by unfold sm_s1; rw [sm_gt ⟨by simp only [List.length_cons]; first | omega | (show 4 + 1 < _; omega), h⟩]; rfl)
theorem s_L_act_13 {b : Nat} {V : Nat → Nat → Int32} {o : Int64} {l0 l1 l2 : Option sm_V} {tl : sm_L} {x : Int32} {r : List sm_V} : sm_R T_L_act (b, 13, (V, o), l0 :: l1 :: l2 :: some (.inl x) :: tl, r) = sm_R T_L_act (b, 14, (V, o), l0 :: l1 :: l2 :: some (.inl x) :: tl, .inl x :: r) := R_iload_n rfl rfl
theorem s_L_act_14 {b : Nat} {V : Nat → Nat → Int32} {o : Int64} {ls : sm_L} {r : List sm_V} {x : Int32} : sm_R T_L_act (b, 14, (V, o), ls, .inl x :: r) = if ¬ x = 0 then sm_R T_L_act (b, 21, (V, o), ls, r) else sm_R T_L_act (b, 17, (V, o), ls, r) := R_if_ne (tgt := 21) rfl (by decide)
theorem s_L_act_17 {b : Nat} {V : Nat → Nat → Int32} {o : Int64} {ls : sm_L} {r : List sm_V} : sm_R T_L_act (b, 17, (V, o), ls, r) = sm_R T_L_act (b, 18, (V, o), ls, .inl 0 :: r) := R_iconst rfl (by decide)
theorem s_L_act_18 {b : Nat} {V : Nat → Nat → Int32} {o : Int64} {ls : sm_L} {r : List sm_V} : sm_R T_L_act (b, 18, (V, o), ls, r) = sm_R T_L_act (b, 24, (V, o), ls, r) := R_goto (tgt := 24) rfl (by decide)
theorem s_L_act_21 {b : Nat} {V : Nat → Nat → Int32} {o : Int64} {l0 l1 : Option sm_V} {tl : sm_L} {x : Int32} {r : List sm_V} : sm_R T_L_act (b, 21, (V, o), l0 :: l1 :: some (.inl x) :: tl, r) = sm_R T_L_act (b, 22, (V, o), l0 :: l1 :: some (.inl x) :: tl, .inl x :: r) := R_iload_n rfl rfl
theorem s_L_act_22 {b : Nat} {V : Nat → Nat → Int32} {o : Int64} {l0 l1 l2 : Option sm_V} {tl : sm_L} {x : Int32} {r : List sm_V} : sm_R T_L_act (b, 22, (V, o), l0 :: l1 :: l2 :: some (.inl x) :: tl, r) = sm_R T_L_act (b, 23, (V, o), l0 :: l1 :: l2 :: some (.inl x) :: tl, .inl x :: r) := R_iload_n rfl rfl
theorem s_L_act_23 {b : Nat} {V : Nat → Nat → Int32} {o : Int64} {ls : sm_L} {r : List sm_V} {x y : Int32} (hn : ¬ y = 0) : sm_R T_L_act (b, 23, (V, o), ls, .inl y :: .inl x :: r) = sm_R T_L_act (b, 24, (V, o), ls, .inl (x - x / y * y) :: r) := R_irem rfl hn
theorem s_L_act_24 {b : Nat} {V : Nat → Nat → Int32} {o : Int64} {l0 l1 l2 l3 l4 l5 : Option sm_V} {tl : sm_L} {x : Int32} {r : List sm_V} (h : sm_nl l4 = true) : sm_R T_L_act (b, 24, (V, o), l0 :: l1 :: l2 :: l3 :: l4 :: l5 :: tl, .inl x :: r) = sm_R T_L_act (b, 26, (V, o), l0 :: l1 :: l2 :: l3 :: l4 :: some (.inl x) :: tl, r) := R_istore rfl (by unfold sm_s1; rw [sm_gt ⟨by simp only [List.length_cons]; first | omega | (show 5 + 1 < _; omega), h⟩]; rfl)
theorem s_L_act_26 {b : Nat} {V : Nat → Nat → Int32} {o : Int64} {l0 l1 l2 l3 : Option sm_V} {tl : sm_L} {x : Int32} {r : List sm_V} : sm_R T_L_act (b, 26, (V, o), l0 :: l1 :: l2 :: l3 :: some (.inl x) :: tl, r) = sm_R T_L_act (b, 28, (V, o), l0 :: l1 :: l2 :: l3 :: some (.inl x) :: tl, .inl x :: r) := R_iload rfl rfl
theorem s_L_act_28 {b : Nat} {V : Nat → Nat → Int32} {o : Int64} {ls : sm_L} {r : List sm_V} {x : Int32} : sm_R T_L_act (b, 28, (V, o), ls, .inl x :: r) = if ¬ x = 0 then sm_R T_L_act (b, 35, (V, o), ls, r) else sm_R T_L_act (b, 31, (V, o), ls, r) := R_if_ne (tgt := 35) rfl (by decide)
theorem s_L_act_31 {b : Nat} {V : Nat → Nat → Int32} {o : Int64} {ls : sm_L} {r : List sm_V} : sm_R T_L_act (b, 31, (V, o), ls, r) = sm_R T_L_act (b, 32, (V, o), ls, .inl 0 :: r) := R_iconst rfl (by decide)
theorem s_L_act_32 {b : Nat} {V : Nat → Nat → Int32} {o : Int64} {ls : sm_L} {r : List sm_V} : sm_R T_L_act (b, 32, (V, o), ls, r) = sm_R T_L_act (b, 42, (V, o), ls, r) := R_goto (tgt := 42) rfl (by decide)
theorem s_L_act_35 {b : Nat} {V : Nat → Nat → Int32} {o : Int64} {l0 l1 : Option sm_V} {tl : sm_L} {x : Int32} {r : List sm_V} : sm_R T_L_act (b, 35, (V, o), l0 :: l1 :: some (.inl x) :: tl, r) = sm_R T_L_act (b, 36, (V, o), l0 :: l1 :: some (.inl x) :: tl, .inl x :: r) := R_iload_n rfl rfl
theorem s_L_act_36 {b : Nat} {V : Nat → Nat → Int32} {o : Int64} {ls : sm_L} {r : List sm_V} : sm_R T_L_act (b, 36, (V, o), ls, r) = sm_R T_L_act (b, 38, (V, o), ls, .inl 8 :: r) := R_bipush rfl (by decide)
theorem s_L_act_38 {b : Nat} {V : Nat → Nat → Int32} {o : Int64} {ls : sm_L} {r : List sm_V} {x y : Int32} (hn : ¬ y = 0) : sm_R T_L_act (b, 38, (V, o), ls, .inl y :: .inl x :: r) = sm_R T_L_act (b, 39, (V, o), ls, .inl (x / y) :: r) := R_idiv rfl hn
theorem s_L_act_39 {b : Nat} {V : Nat → Nat → Int32} {o : Int64} {l0 l1 l2 l3 : Option sm_V} {tl : sm_L} {x : Int32} {r : List sm_V} : sm_R T_L_act (b, 39, (V, o), l0 :: l1 :: l2 :: l3 :: some (.inl x) :: tl, r) = sm_R T_L_act (b, 41, (V, o), l0 :: l1 :: l2 :: l3 :: some (.inl x) :: tl, .inl x :: r) := R_iload rfl rfl
theorem s_L_act_41 {b : Nat} {V : Nat → Nat → Int32} {o : Int64} {ls : sm_L} {r : List sm_V} {x y : Int32} (hn : ¬ y = 0) : sm_R T_L_act (b, 41, (V, o), ls, .inl y :: .inl x :: r) = sm_R T_L_act (b, 42, (V, o), ls, .inl (x - x / y * y) :: r) := R_irem rfl hn
theorem s_L_act_42 {b : Nat} {V : Nat → Nat → Int32} {o : Int64} {l0 l1 l2 l3 l4 l5 l6 : Option sm_V} {tl : sm_L} {x : Int32} {r : List sm_V} (h : sm_nl l5 = true) : sm_R T_L_act (b, 42, (V, o), l0 :: l1 :: l2 :: l3 :: l4 :: l5 :: l6 :: tl, .inl x :: r) = sm_R T_L_act (b, 44, (V, o), l0 :: l1 :: l2 :: l3 :: l4 :: l5 :: some (.inl x) :: tl, r) := R_istore rfl (by unfold sm_s1; rw [sm_gt ⟨by simp only [List.length_cons]; first | omega | (show 6 + 1 < _; omega), h⟩]; rfl)
theorem s_L_act_44 {b : Nat} {V : Nat → Nat → Int32} {o : Int64} {l0 : Option sm_V} {tl : sm_L} {x : Int32} {r : List sm_V} : sm_R T_L_act (b, 44, (V, o), l0 :: some (.inl x) :: tl, r) = sm_R T_L_act (b, 45, (V, o), l0 :: some (.inl x) :: tl, .inl x :: r) := R_iload_n rfl rfl
theorem s_L_act_45 {b : Nat} {V : Nat → Nat → Int32} {o : Int64} {ls : sm_L} {r : List sm_V} : sm_R T_L_act (b, 45, (V, o), ls, r) = sm_R T_L_act (b, 47, (V, o), ls, .inl 16 :: r) := R_bipush rfl (by decide)
theorem s_L_act_47 {b : Nat} {V : Nat → Nat → Int32} {o : Int64} {ls : sm_L} {r : List sm_V} {x y : Int32} (hn : ¬ y = 0) : sm_R T_L_act (b, 47, (V, o), ls, .inl y :: .inl x :: r) = sm_R T_L_act (b, 48, (V, o), ls, .inl (x - x / y * y) :: r) := R_irem rfl hn
theorem s_L_act_48 {b : Nat} {V : Nat → Nat → Int32} {o : Int64} {ls : sm_L} {r : List sm_V} {x : Int32} : sm_R T_L_act (b, 48, (V, o), ls, .inl x :: r) = if x = 0 then sm_R T_L_act (b, 124, (V, o), ls, r) else (if x = 1 then sm_R T_L_act (b, 124, (V, o), ls, r) else (if x = 2 then sm_R T_L_act (b, 124, (V, o), ls, r) else (if x = 3 then sm_R T_L_act (b, 124, (V, o), ls, r) else (if x = 4 then sm_R T_L_act (b, 124, (V, o), ls, r) else (if x = 5 then sm_R T_L_act (b, 135, (V, o), ls, r) else (if x = 6 then sm_R T_L_act (b, 168, (V, o), ls, r) else (if x = 7 then sm_R T_L_act (b, 180, (V, o), ls, r) else (if x = 8 then sm_R T_L_act (b, 199, (V, o), ls, r) else (if x = 9 then sm_R T_L_act (b, 237, (V, o), ls, r) else (if x = 10 then sm_R T_L_act (b, 263, (V, o), ls, r) else (if x = 11 then sm_R T_L_act (b, 270, (V, o), ls, r) else (if x = 12 then sm_R T_L_act (b, 283, (V, o), ls, r) else (if x = 13 then sm_R T_L_act (b, 292, (V, o), ls, r) else (if x = 14 then sm_R T_L_act (b, 313, (V, o), ls, r) else (sm_R T_L_act (b, 318, (V, o), ls, r)))))))))))))))) := by
  by_cases h0 : x = 0
  · subst h0; rw [if_pos rfl]; exact R_switch (tgt := 124) rfl rfl (by decide)
  rw [if_neg h0]
  replace h0 : x.toInt ≠ 0 := fun q => h0 (Int32.toInt_inj.mp q)
  by_cases h1 : x = 1
  · subst h1; rw [if_pos rfl]; exact R_switch (tgt := 124) rfl rfl (by decide)
  rw [if_neg h1]
  replace h1 : x.toInt ≠ 1 := fun q => h1 (Int32.toInt_inj.mp q)
  by_cases h2 : x = 2
  · subst h2; rw [if_pos rfl]; exact R_switch (tgt := 124) rfl rfl (by decide)
  rw [if_neg h2]
  replace h2 : x.toInt ≠ 2 := fun q => h2 (Int32.toInt_inj.mp q)
  by_cases h3 : x = 3
  · subst h3; rw [if_pos rfl]; exact R_switch (tgt := 124) rfl rfl (by decide)
  rw [if_neg h3]
  replace h3 : x.toInt ≠ 3 := fun q => h3 (Int32.toInt_inj.mp q)
  by_cases h4 : x = 4
  · subst h4; rw [if_pos rfl]; exact R_switch (tgt := 124) rfl rfl (by decide)
  rw [if_neg h4]
  replace h4 : x.toInt ≠ 4 := fun q => h4 (Int32.toInt_inj.mp q)
  by_cases h5 : x = 5
  · subst h5; rw [if_pos rfl]; exact R_switch (tgt := 135) rfl rfl (by decide)
  rw [if_neg h5]
  replace h5 : x.toInt ≠ 5 := fun q => h5 (Int32.toInt_inj.mp q)
  by_cases h6 : x = 6
  · subst h6; rw [if_pos rfl]; exact R_switch (tgt := 168) rfl rfl (by decide)
  rw [if_neg h6]
  replace h6 : x.toInt ≠ 6 := fun q => h6 (Int32.toInt_inj.mp q)
  by_cases h7 : x = 7
  · subst h7; rw [if_pos rfl]; exact R_switch (tgt := 180) rfl rfl (by decide)
  rw [if_neg h7]
  replace h7 : x.toInt ≠ 7 := fun q => h7 (Int32.toInt_inj.mp q)
  by_cases h8 : x = 8
  · subst h8; rw [if_pos rfl]; exact R_switch (tgt := 199) rfl rfl (by decide)
  rw [if_neg h8]
  replace h8 : x.toInt ≠ 8 := fun q => h8 (Int32.toInt_inj.mp q)
  by_cases h9 : x = 9
  · subst h9; rw [if_pos rfl]; exact R_switch (tgt := 237) rfl rfl (by decide)
  rw [if_neg h9]
  replace h9 : x.toInt ≠ 9 := fun q => h9 (Int32.toInt_inj.mp q)
  by_cases h10 : x = 10
  · subst h10; rw [if_pos rfl]; exact R_switch (tgt := 263) rfl rfl (by decide)
  rw [if_neg h10]
  replace h10 : x.toInt ≠ 10 := fun q => h10 (Int32.toInt_inj.mp q)
  by_cases h11 : x = 11
  · subst h11; rw [if_pos rfl]; exact R_switch (tgt := 270) rfl rfl (by decide)
  rw [if_neg h11]
  replace h11 : x.toInt ≠ 11 := fun q => h11 (Int32.toInt_inj.mp q)
  by_cases h12 : x = 12
  · subst h12; rw [if_pos rfl]; exact R_switch (tgt := 283) rfl rfl (by decide)
  rw [if_neg h12]
  replace h12 : x.toInt ≠ 12 := fun q => h12 (Int32.toInt_inj.mp q)
  by_cases h13 : x = 13
  · subst h13; rw [if_pos rfl]; exact R_switch (tgt := 292) rfl rfl (by decide)
  rw [if_neg h13]
  replace h13 : x.toInt ≠ 13 := fun q => h13 (Int32.toInt_inj.mp q)
  by_cases h14 : x = 14
  · subst h14; rw [if_pos rfl]; exact R_switch (tgt := 313) rfl rfl (by decide)
  rw [if_neg h14]
  replace h14 : x.toInt ≠ 14 := fun q => h14 (Int32.toInt_inj.mp q)
  exact R_switch (tgt := 318) rfl (sm_sw_out (by omega)) (by decide)
theorem s_L_act_124 {b : Nat} {V : Nat → Nat → Int32} {o : Int64} {tl : sm_L} {x : sm_N} {r : List sm_V} : sm_R T_L_act (b, 124, (V, o), some (.inr (.inr x)) :: tl, r) = sm_R T_L_act (b, 125, (V, o), some (.inr (.inr x)) :: tl, .inr (.inr x) :: r) := R_aload_n rfl rfl
theorem s_L_act_125 {b : Nat} {V : Nat → Nat → Int32} {o : Int64} {ls : sm_L} {r : List sm_V} : sm_R T_L_act (b, 125, (V, o), ls, r) = sm_R T_L_act (b, 126, (V, o), ls, .inl 1 :: r) := R_iconst rfl (by decide)
theorem s_L_act_126 {b : Nat} {V : Nat → Nat → Int32} {o : Int64} {l0 l1 : Option sm_V} {tl : sm_L} {x : Int32} {r : List sm_V} : sm_R T_L_act (b, 126, (V, o), l0 :: l1 :: some (.inl x) :: tl, r) = sm_R T_L_act (b, 127, (V, o), l0 :: l1 :: some (.inl x) :: tl, .inl x :: r) := R_iload_n rfl rfl
theorem s_L_act_127 {b : Nat} {V : Nat → Nat → Int32} {o : Int64} {ls : sm_L} {r : List sm_V} : sm_R T_L_act (b, 127, (V, o), ls, r) = sm_R T_L_act (b, 129, (V, o), ls, .inl 20 :: r) := R_bipush rfl (by decide)
theorem s_L_act_129 {b : Nat} {V : Nat → Nat → Int32} {o : Int64} {ls : sm_L} {r : List sm_V} {x y : Int32} (hn : ¬ y = 0) : sm_R T_L_act (b, 129, (V, o), ls, .inl y :: .inl x :: r) = sm_R T_L_act (b, 130, (V, o), ls, .inl (x - x / y * y) :: r) := R_irem rfl hn
theorem s_L_act_130 {b : Nat} {V : Nat → Nat → Int32} {o : Int64} {ls : sm_L} {r : List sm_V} {x y : Int32} : sm_R T_L_act (b, 130, (V, o), ls, .inl y :: .inl x :: r) = sm_R T_L_act (b, 131, (V, o), ls, .inl (x + y) :: r) := R_iadd rfl
theorem s_L_act_131 {b : Nat} {V : Nat → Nat → Int32} {o : Int64} {ls : sm_L} {r : List sm_V} {a0 : sm_N} {a1 : Int32} (h : r.length ≤ 4) (hb : 1 ≤ b) : sm_R T_L_act (b, 131, (V, o), ls, .inl a1 :: .inr (.inr a0) :: r) = sm_k1 (F_L_tryPass (V, o) [.inr (.inr a0), .inl a1]) (fun M1 v => sm_R T_L_act ((b - 1), 134, M1, ls, v.toList ++ r)) := R_call (T := T_L_act) (x := 179) (virt := false) (as := [.inr (.inr a0), .inl a1]) rfl rfl rfl h hb (fun q => by cases q) (fun _ => ⟨by decide, rfl⟩) (fun _ => rfl) (by decide)
theorem s_L_act_134 {b : Nat} {V : Nat → Nat → Int32} {o : Int64} {ls : sm_L} {x : Int32} : sm_R T_L_act (b, 134, (V, o), ls, [.inl x]) = some ((V, o), .ok (some (.inl x))) := R_ireturn rfl (Or.inl rfl)
theorem s_L_act_135 {b : Nat} {V : Nat → Nat → Int32} {o : Int64} {l0 l1 : Option sm_V} {tl : sm_L} {x : Int32} {r : List sm_V} : sm_R T_L_act (b, 135, (V, o), l0 :: l1 :: some (.inl x) :: tl, r) = sm_R T_L_act (b, 136, (V, o), l0 :: l1 :: some (.inl x) :: tl, .inl x :: r) := R_iload_n rfl rfl
theorem s_L_act_136 {b : Nat} {V : Nat → Nat → Int32} {o : Int64} {ls : sm_L} {r : List sm_V} : sm_R T_L_act (b, 136, (V, o), ls, r) = sm_R T_L_act (b, 137, (V, o), ls, .inl 2 :: r) := R_iconst rfl (by decide)
theorem s_L_act_137 {b : Nat} {V : Nat → Nat → Int32} {o : Int64} {ls : sm_L} {r : List sm_V} {x y : Int32} (hn : ¬ y = 0) : sm_R T_L_act (b, 137, (V, o), ls, .inl y :: .inl x :: r) = sm_R T_L_act (b, 138, (V, o), ls, .inl (x - x / y * y) :: r) := R_irem rfl hn
theorem s_L_act_138 {b : Nat} {V : Nat → Nat → Int32} {o : Int64} {ls : sm_L} {r : List sm_V} {x : Int32} : sm_R T_L_act (b, 138, (V, o), ls, .inl x :: r) = if ¬ x = 0 then sm_R T_L_act (b, 155, (V, o), ls, r) else sm_R T_L_act (b, 141, (V, o), ls, r) := R_if_ne (tgt := 155) rfl (by decide)
theorem s_L_act_141 {b : Nat} {V : Nat → Nat → Int32} {o : Int64} {tl : sm_L} {x : sm_N} {r : List sm_V} : sm_R T_L_act (b, 141, (V, o), some (.inr (.inr x)) :: tl, r) = sm_R T_L_act (b, 142, (V, o), some (.inr (.inr x)) :: tl, .inr (.inr x) :: r) := R_aload_n rfl rfl
theorem s_L_act_142 {b : Nat} {V : Nat → Nat → Int32} {o : Int64} {ls : sm_L} {r : List sm_V} : sm_R T_L_act (b, 142, (V, o), ls, r) = sm_R T_L_act (b, 143, (V, o), ls, .inl 0 :: r) := R_iconst rfl (by decide)
theorem s_L_act_143 {b : Nat} {V : Nat → Nat → Int32} {o : Int64} {l0 l1 : Option sm_V} {tl : sm_L} {x : Int32} {r : List sm_V} : sm_R T_L_act (b, 143, (V, o), l0 :: l1 :: some (.inl x) :: tl, r) = sm_R T_L_act (b, 144, (V, o), l0 :: l1 :: some (.inl x) :: tl, .inl x :: r) := R_iload_n rfl rfl
theorem s_L_act_144 {b : Nat} {V : Nat → Nat → Int32} {o : Int64} {ls : sm_L} {r : List sm_V} : sm_R T_L_act (b, 144, (V, o), ls, r) = sm_R T_L_act (b, 145, (V, o), ls, .inl 2 :: r) := R_iconst rfl (by decide)
theorem s_L_act_145 {b : Nat} {V : Nat → Nat → Int32} {o : Int64} {ls : sm_L} {r : List sm_V} {x y : Int32} (hn : ¬ y = 0) : sm_R T_L_act (b, 145, (V, o), ls, .inl y :: .inl x :: r) = sm_R T_L_act (b, 146, (V, o), ls, .inl (x / y) :: r) := R_idiv rfl hn
theorem s_L_act_146 {b : Nat} {V : Nat → Nat → Int32} {o : Int64} {ls : sm_L} {r : List sm_V} : sm_R T_L_act (b, 146, (V, o), ls, r) = sm_R T_L_act (b, 148, (V, o), ls, .inl 100 :: r) := R_bipush rfl (by decide)
theorem s_L_act_148 {b : Nat} {V : Nat → Nat → Int32} {o : Int64} {ls : sm_L} {r : List sm_V} {x y : Int32} (hn : ¬ y = 0) : sm_R T_L_act (b, 148, (V, o), ls, .inl y :: .inl x :: r) = sm_R T_L_act (b, 149, (V, o), ls, .inl (x - x / y * y) :: r) := R_irem rfl hn
theorem s_L_act_149 {b : Nat} {V : Nat → Nat → Int32} {o : Int64} {ls : sm_L} {r : List sm_V} {a0 : sm_N} {a1 : Int32} {a2 : Int32} (h : r.length ≤ 4) (hb : 1 ≤ b) : sm_R T_L_act (b, 149, (V, o), ls, .inl a2 :: .inl a1 :: .inr (.inr a0) :: r) = sm_k1 (F_L_trySet (V, o) [.inr (.inr a0), .inl a1, .inl a2]) (fun M1 v => sm_R T_L_act ((b - 1), 152, M1, ls, v.toList ++ r)) := R_call (T := T_L_act) (x := 182) (virt := false) (as := [.inr (.inr a0), .inl a1, .inl a2]) rfl rfl rfl h hb (fun q => by cases q) (fun _ => ⟨by decide, rfl⟩) (fun _ => rfl) (by decide)
theorem s_L_act_152 {b : Nat} {V : Nat → Nat → Int32} {o : Int64} {ls : sm_L} {r : List sm_V} : sm_R T_L_act (b, 152, (V, o), ls, r) = sm_R T_L_act (b, 167, (V, o), ls, r) := R_goto (tgt := 167) rfl (by decide)
theorem s_L_act_155 {b : Nat} {V : Nat → Nat → Int32} {o : Int64} {tl : sm_L} {x : sm_N} {r : List sm_V} : sm_R T_L_act (b, 155, (V, o), some (.inr (.inr x)) :: tl, r) = sm_R T_L_act (b, 156, (V, o), some (.inr (.inr x)) :: tl, .inr (.inr x) :: r) := R_aload_n rfl rfl
theorem s_L_act_156 {b : Nat} {V : Nat → Nat → Int32} {o : Int64} {ls : sm_L} {r : List sm_V} : sm_R T_L_act (b, 156, (V, o), ls, r) = sm_R T_L_act (b, 157, (V, o), ls, .inl 1 :: r) := R_iconst rfl (by decide)
theorem s_L_act_157 {b : Nat} {V : Nat → Nat → Int32} {o : Int64} {l0 l1 : Option sm_V} {tl : sm_L} {x : Int32} {r : List sm_V} : sm_R T_L_act (b, 157, (V, o), l0 :: l1 :: some (.inl x) :: tl, r) = sm_R T_L_act (b, 158, (V, o), l0 :: l1 :: some (.inl x) :: tl, .inl x :: r) := R_iload_n rfl rfl
theorem s_L_act_158 {b : Nat} {V : Nat → Nat → Int32} {o : Int64} {ls : sm_L} {r : List sm_V} : sm_R T_L_act (b, 158, (V, o), ls, r) = sm_R T_L_act (b, 159, (V, o), ls, .inl 2 :: r) := R_iconst rfl (by decide)
theorem s_L_act_159 {b : Nat} {V : Nat → Nat → Int32} {o : Int64} {ls : sm_L} {r : List sm_V} {x y : Int32} (hn : ¬ y = 0) : sm_R T_L_act (b, 159, (V, o), ls, .inl y :: .inl x :: r) = sm_R T_L_act (b, 160, (V, o), ls, .inl (x / y) :: r) := R_idiv rfl hn
theorem s_L_act_160 {b : Nat} {V : Nat → Nat → Int32} {o : Int64} {ls : sm_L} {r : List sm_V} : sm_R T_L_act (b, 160, (V, o), ls, r) = sm_R T_L_act (b, 163, (V, o), ls, .inl 2000 :: r) := R_sipush rfl (by decide)
theorem s_L_act_163 {b : Nat} {V : Nat → Nat → Int32} {o : Int64} {ls : sm_L} {r : List sm_V} {x y : Int32} (hn : ¬ y = 0) : sm_R T_L_act (b, 163, (V, o), ls, .inl y :: .inl x :: r) = sm_R T_L_act (b, 164, (V, o), ls, .inl (x - x / y * y) :: r) := R_irem rfl hn
theorem s_L_act_164 {b : Nat} {V : Nat → Nat → Int32} {o : Int64} {ls : sm_L} {r : List sm_V} {a0 : sm_N} {a1 : Int32} {a2 : Int32} (h : r.length ≤ 4) (hb : 1 ≤ b) : sm_R T_L_act (b, 164, (V, o), ls, .inl a2 :: .inl a1 :: .inr (.inr a0) :: r) = sm_k1 (F_L_trySet (V, o) [.inr (.inr a0), .inl a1, .inl a2]) (fun M1 v => sm_R T_L_act ((b - 1), 167, M1, ls, v.toList ++ r)) := R_call (T := T_L_act) (x := 182) (virt := false) (as := [.inr (.inr a0), .inl a1, .inl a2]) rfl rfl rfl h hb (fun q => by cases q) (fun _ => ⟨by decide, rfl⟩) (fun _ => rfl) (by decide)
theorem s_L_act_167 {b : Nat} {V : Nat → Nat → Int32} {o : Int64} {ls : sm_L} {x : Int32} : sm_R T_L_act (b, 167, (V, o), ls, [.inl x]) = some ((V, o), .ok (some (.inl x))) := R_ireturn rfl (Or.inl rfl)
theorem s_L_act_168 {b : Nat} {V : Nat → Nat → Int32} {o : Int64} {tl : sm_L} {x : sm_N} {r : List sm_V} : sm_R T_L_act (b, 168, (V, o), some (.inr (.inr x)) :: tl, r) = sm_R T_L_act (b, 169, (V, o), some (.inr (.inr x)) :: tl, .inr (.inr x) :: r) := R_aload_n rfl rfl
theorem s_L_act_169 {b : Nat} {V : Nat → Nat → Int32} {o : Int64} {ls : sm_L} {r : List sm_V} : sm_R T_L_act (b, 169, (V, o), ls, r) = sm_R T_L_act (b, 170, (V, o), ls, .inl 1 :: r) := R_iconst rfl (by decide)
theorem s_L_act_170 {b : Nat} {V : Nat → Nat → Int32} {o : Int64} {l0 l1 : Option sm_V} {tl : sm_L} {x : Int32} {r : List sm_V} : sm_R T_L_act (b, 170, (V, o), l0 :: l1 :: some (.inl x) :: tl, r) = sm_R T_L_act (b, 171, (V, o), l0 :: l1 :: some (.inl x) :: tl, .inl x :: r) := R_iload_n rfl rfl
theorem s_L_act_171 {b : Nat} {V : Nat → Nat → Int32} {o : Int64} {ls : sm_L} {r : List sm_V} : sm_R T_L_act (b, 171, (V, o), ls, r) = sm_R T_L_act (b, 174, (V, o), ls, .inl 500 :: r) := R_sipush rfl (by decide)
theorem s_L_act_174 {b : Nat} {V : Nat → Nat → Int32} {o : Int64} {ls : sm_L} {r : List sm_V} {x y : Int32} (hn : ¬ y = 0) : sm_R T_L_act (b, 174, (V, o), ls, .inl y :: .inl x :: r) = sm_R T_L_act (b, 175, (V, o), ls, .inl (x - x / y * y) :: r) := R_irem rfl hn
theorem s_L_act_175 {b : Nat} {V : Nat → Nat → Int32} {o : Int64} {ls : sm_L} {r : List sm_V} {x y : Int32} : sm_R T_L_act (b, 175, (V, o), ls, .inl y :: .inl x :: r) = sm_R T_L_act (b, 176, (V, o), ls, .inl (x + y) :: r) := R_iadd rfl
theorem s_L_act_176 {b : Nat} {V : Nat → Nat → Int32} {o : Int64} {ls : sm_L} {r : List sm_V} {a0 : sm_N} {a1 : Int32} (h : r.length ≤ 4) (hb : 1 ≤ b) : sm_R T_L_act (b, 176, (V, o), ls, .inl a1 :: .inr (.inr a0) :: r) = sm_k1 (F_L_tryFill (V, o) [.inr (.inr a0), .inl a1]) (fun M1 v => sm_R T_L_act ((b - 1), 179, M1, ls, v.toList ++ r)) := R_call (T := T_L_act) (x := 185) (virt := false) (as := [.inr (.inr a0), .inl a1]) rfl rfl rfl h hb (fun q => by cases q) (fun _ => ⟨by decide, rfl⟩) (fun _ => rfl) (by decide)
theorem s_L_act_179 {b : Nat} {V : Nat → Nat → Int32} {o : Int64} {ls : sm_L} {x : Int32} : sm_R T_L_act (b, 179, (V, o), ls, [.inl x]) = some ((V, o), .ok (some (.inl x))) := R_ireturn rfl (Or.inl rfl)
theorem s_L_act_180 {b : Nat} {V : Nat → Nat → Int32} {o : Int64} {tl : sm_L} {x : sm_N} {r : List sm_V} : sm_R T_L_act (b, 180, (V, o), some (.inr (.inr x)) :: tl, r) = sm_R T_L_act (b, 181, (V, o), some (.inr (.inr x)) :: tl, .inr (.inr x) :: r) := R_aload_n rfl rfl
theorem s_L_act_181 {b : Nat} {V : Nat → Nat → Int32} {o : Int64} {l0 l1 : Option sm_V} {tl : sm_L} {x : Int32} {r : List sm_V} : sm_R T_L_act (b, 181, (V, o), l0 :: l1 :: some (.inl x) :: tl, r) = sm_R T_L_act (b, 182, (V, o), l0 :: l1 :: some (.inl x) :: tl, .inl x :: r) := R_iload_n rfl rfl
theorem s_L_act_182 {b : Nat} {V : Nat → Nat → Int32} {o : Int64} {ls : sm_L} {r : List sm_V} : sm_R T_L_act (b, 182, (V, o), ls, r) = sm_R T_L_act (b, 184, (V, o), ls, .inl 12 :: r) := R_bipush rfl (by decide)
theorem s_L_act_184 {b : Nat} {V : Nat → Nat → Int32} {o : Int64} {ls : sm_L} {r : List sm_V} {x y : Int32} (hn : ¬ y = 0) : sm_R T_L_act (b, 184, (V, o), ls, .inl y :: .inl x :: r) = sm_R T_L_act (b, 185, (V, o), ls, .inl (x - x / y * y) :: r) := R_irem rfl hn
theorem s_L_act_185 {b : Nat} {V : Nat → Nat → Int32} {o : Int64} {l0 l1 : Option sm_V} {tl : sm_L} {x : Int32} {r : List sm_V} : sm_R T_L_act (b, 185, (V, o), l0 :: l1 :: some (.inl x) :: tl, r) = sm_R T_L_act (b, 186, (V, o), l0 :: l1 :: some (.inl x) :: tl, .inl x :: r) := R_iload_n rfl rfl
theorem s_L_act_186 {b : Nat} {V : Nat → Nat → Int32} {o : Int64} {ls : sm_L} {r : List sm_V} : sm_R T_L_act (b, 186, (V, o), ls, r) = sm_R T_L_act (b, 188, (V, o), ls, .inl 16 :: r) := R_bipush rfl (by decide)
theorem s_L_act_188 {b : Nat} {V : Nat → Nat → Int32} {o : Int64} {ls : sm_L} {r : List sm_V} {x y : Int32} (hn : ¬ y = 0) : sm_R T_L_act (b, 188, (V, o), ls, .inl y :: .inl x :: r) = sm_R T_L_act (b, 189, (V, o), ls, .inl (x / y) :: r) := R_idiv rfl hn
theorem s_L_act_189 {b : Nat} {V : Nat → Nat → Int32} {o : Int64} {ls : sm_L} {r : List sm_V} : sm_R T_L_act (b, 189, (V, o), ls, r) = sm_R T_L_act (b, 191, (V, o), ls, .inl 19 :: r) := R_bipush rfl (by decide)
theorem s_L_act_191 {b : Nat} {V : Nat → Nat → Int32} {o : Int64} {ls : sm_L} {r : List sm_V} {x y : Int32} (hn : ¬ y = 0) : sm_R T_L_act (b, 191, (V, o), ls, .inl y :: .inl x :: r) = sm_R T_L_act (b, 192, (V, o), ls, .inl (x - x / y * y) :: r) := R_irem rfl hn
theorem s_L_act_192 {b : Nat} {V : Nat → Nat → Int32} {o : Int64} {ls : sm_L} {r : List sm_V} : sm_R T_L_act (b, 192, (V, o), ls, r) = sm_R T_L_act (b, 194, (V, o), ls, .inl 9 :: r) := R_bipush rfl (by decide)
theorem s_L_act_194 {b : Nat} {V : Nat → Nat → Int32} {o : Int64} {ls : sm_L} {r : List sm_V} {x y : Int32} : sm_R T_L_act (b, 194, (V, o), ls, .inl y :: .inl x :: r) = sm_R T_L_act (b, 195, (V, o), ls, .inl (x - y) :: r) := R_isub rfl
theorem s_L_act_195 {b : Nat} {V : Nat → Nat → Int32} {o : Int64} {ls : sm_L} {r : List sm_V} {a0 : sm_N} {a1 : Int32} {a2 : Int32} (h : r.length ≤ 4) (hb : 1 ≤ b) : sm_R T_L_act (b, 195, (V, o), ls, .inl a2 :: .inl a1 :: .inr (.inr a0) :: r) = sm_k1 (F_L_trySetWet (V, o) [.inr (.inr a0), .inl a1, .inl a2]) (fun M1 v => sm_R T_L_act ((b - 1), 198, M1, ls, v.toList ++ r)) := R_call (T := T_L_act) (x := 188) (virt := false) (as := [.inr (.inr a0), .inl a1, .inl a2]) rfl rfl rfl h hb (fun q => by cases q) (fun _ => ⟨by decide, rfl⟩) (fun _ => rfl) (by decide)
theorem s_L_act_198 {b : Nat} {V : Nat → Nat → Int32} {o : Int64} {ls : sm_L} {x : Int32} : sm_R T_L_act (b, 198, (V, o), ls, [.inl x]) = some ((V, o), .ok (some (.inl x))) := R_ireturn rfl (Or.inl rfl)
theorem s_L_act_199 {b : Nat} {V : Nat → Nat → Int32} {o : Int64} {l0 l1 : Option sm_V} {tl : sm_L} {x : Int32} {r : List sm_V} : sm_R T_L_act (b, 199, (V, o), l0 :: l1 :: some (.inl x) :: tl, r) = sm_R T_L_act (b, 200, (V, o), l0 :: l1 :: some (.inl x) :: tl, .inl x :: r) := R_iload_n rfl rfl
theorem s_L_act_200 {b : Nat} {V : Nat → Nat → Int32} {o : Int64} {ls : sm_L} {r : List sm_V} : sm_R T_L_act (b, 200, (V, o), ls, r) = sm_R T_L_act (b, 201, (V, o), ls, .inl 2 :: r) := R_iconst rfl (by decide)
theorem s_L_act_201 {b : Nat} {V : Nat → Nat → Int32} {o : Int64} {ls : sm_L} {r : List sm_V} {x y : Int32} (hn : ¬ y = 0) : sm_R T_L_act (b, 201, (V, o), ls, .inl y :: .inl x :: r) = sm_R T_L_act (b, 202, (V, o), ls, .inl (x - x / y * y) :: r) := R_irem rfl hn
theorem s_L_act_202 {b : Nat} {V : Nat → Nat → Int32} {o : Int64} {ls : sm_L} {r : List sm_V} {x : Int32} : sm_R T_L_act (b, 202, (V, o), ls, .inl x :: r) = if ¬ x = 0 then sm_R T_L_act (b, 222, (V, o), ls, r) else sm_R T_L_act (b, 205, (V, o), ls, r) := R_if_ne (tgt := 222) rfl (by decide)
theorem s_L_act_205 {b : Nat} {V : Nat → Nat → Int32} {o : Int64} {tl : sm_L} {x : sm_N} {r : List sm_V} : sm_R T_L_act (b, 205, (V, o), some (.inr (.inr x)) :: tl, r) = sm_R T_L_act (b, 206, (V, o), some (.inr (.inr x)) :: tl, .inr (.inr x) :: r) := R_aload_n rfl rfl
theorem s_L_act_206 {b : Nat} {V : Nat → Nat → Int32} {o : Int64} {l0 l1 l2 l3 l4 : Option sm_V} {tl : sm_L} {x : Int32} {r : List sm_V} : sm_R T_L_act (b, 206, (V, o), l0 :: l1 :: l2 :: l3 :: l4 :: some (.inl x) :: tl, r) = sm_R T_L_act (b, 208, (V, o), l0 :: l1 :: l2 :: l3 :: l4 :: some (.inl x) :: tl, .inl x :: r) := R_iload rfl rfl
theorem s_L_act_208 {b : Nat} {V : Nat → Nat → Int32} {o : Int64} {ls : sm_L} {r : List sm_V} : sm_R T_L_act (b, 208, (V, o), ls, r) = sm_R T_L_act (b, 209, (V, o), ls, .inl 1 :: r) := R_iconst rfl (by decide)
theorem s_L_act_209 {b : Nat} {V : Nat → Nat → Int32} {o : Int64} {l0 l1 : Option sm_V} {tl : sm_L} {x : Int32} {r : List sm_V} : sm_R T_L_act (b, 209, (V, o), l0 :: l1 :: some (.inl x) :: tl, r) = sm_R T_L_act (b, 210, (V, o), l0 :: l1 :: some (.inl x) :: tl, .inl x :: r) := R_iload_n rfl rfl
theorem s_L_act_210 {b : Nat} {V : Nat → Nat → Int32} {o : Int64} {ls : sm_L} {r : List sm_V} : sm_R T_L_act (b, 210, (V, o), ls, r) = sm_R T_L_act (b, 212, (V, o), ls, .inl 16 :: r) := R_bipush rfl (by decide)
theorem s_L_act_212 {b : Nat} {V : Nat → Nat → Int32} {o : Int64} {ls : sm_L} {r : List sm_V} {x y : Int32} (hn : ¬ y = 0) : sm_R T_L_act (b, 212, (V, o), ls, .inl y :: .inl x :: r) = sm_R T_L_act (b, 213, (V, o), ls, .inl (x / y) :: r) := R_idiv rfl hn
theorem s_L_act_213 {b : Nat} {V : Nat → Nat → Int32} {o : Int64} {ls : sm_L} {r : List sm_V} : sm_R T_L_act (b, 213, (V, o), ls, r) = sm_R T_L_act (b, 215, (V, o), ls, .inl 10 :: r) := R_bipush rfl (by decide)
theorem s_L_act_215 {b : Nat} {V : Nat → Nat → Int32} {o : Int64} {ls : sm_L} {r : List sm_V} {x y : Int32} (hn : ¬ y = 0) : sm_R T_L_act (b, 215, (V, o), ls, .inl y :: .inl x :: r) = sm_R T_L_act (b, 216, (V, o), ls, .inl (x - x / y * y) :: r) := R_irem rfl hn
theorem s_L_act_216 {b : Nat} {V : Nat → Nat → Int32} {o : Int64} {ls : sm_L} {r : List sm_V} {a0 : sm_N} {a1 : Int32} {a2 : Int32} {a3 : Int32} (h : r.length ≤ 4) (hb : 2 ≤ b) : sm_R T_L_act (b, 216, (V, o), ls, .inl a3 :: .inl a2 :: .inl a1 :: .inr (.inr a0) :: r) = sm_k1 (F_L_trySetSlope (V, o) [.inr (.inr a0), .inl a1, .inl a2, .inl a3]) (fun M1 v => sm_R T_L_act ((b - 2), 219, M1, ls, v.toList ++ r)) := R_call (T := T_L_act) (x := 169) (virt := false) (as := [.inr (.inr a0), .inl a1, .inl a2, .inl a3]) rfl rfl rfl h hb (fun q => by cases q) (fun _ => ⟨by decide, rfl⟩) (fun _ => rfl) (by decide)
theorem s_L_act_219 {b : Nat} {V : Nat → Nat → Int32} {o : Int64} {ls : sm_L} {r : List sm_V} : sm_R T_L_act (b, 219, (V, o), ls, r) = sm_R T_L_act (b, 236, (V, o), ls, r) := R_goto (tgt := 236) rfl (by decide)
theorem s_L_act_222 {b : Nat} {V : Nat → Nat → Int32} {o : Int64} {tl : sm_L} {x : sm_N} {r : List sm_V} : sm_R T_L_act (b, 222, (V, o), some (.inr (.inr x)) :: tl, r) = sm_R T_L_act (b, 223, (V, o), some (.inr (.inr x)) :: tl, .inr (.inr x) :: r) := R_aload_n rfl rfl
theorem s_L_act_223 {b : Nat} {V : Nat → Nat → Int32} {o : Int64} {l0 l1 l2 l3 l4 : Option sm_V} {tl : sm_L} {x : Int32} {r : List sm_V} : sm_R T_L_act (b, 223, (V, o), l0 :: l1 :: l2 :: l3 :: l4 :: some (.inl x) :: tl, r) = sm_R T_L_act (b, 225, (V, o), l0 :: l1 :: l2 :: l3 :: l4 :: some (.inl x) :: tl, .inl x :: r) := R_iload rfl rfl
theorem s_L_act_225 {b : Nat} {V : Nat → Nat → Int32} {o : Int64} {ls : sm_L} {r : List sm_V} : sm_R T_L_act (b, 225, (V, o), ls, r) = sm_R T_L_act (b, 226, (V, o), ls, .inl 2 :: r) := R_iconst rfl (by decide)
theorem s_L_act_226 {b : Nat} {V : Nat → Nat → Int32} {o : Int64} {l0 l1 : Option sm_V} {tl : sm_L} {x : Int32} {r : List sm_V} : sm_R T_L_act (b, 226, (V, o), l0 :: l1 :: some (.inl x) :: tl, r) = sm_R T_L_act (b, 227, (V, o), l0 :: l1 :: some (.inl x) :: tl, .inl x :: r) := R_iload_n rfl rfl
theorem s_L_act_227 {b : Nat} {V : Nat → Nat → Int32} {o : Int64} {ls : sm_L} {r : List sm_V} : sm_R T_L_act (b, 227, (V, o), ls, r) = sm_R T_L_act (b, 229, (V, o), ls, .inl 16 :: r) := R_bipush rfl (by decide)
theorem s_L_act_229 {b : Nat} {V : Nat → Nat → Int32} {o : Int64} {ls : sm_L} {r : List sm_V} {x y : Int32} (hn : ¬ y = 0) : sm_R T_L_act (b, 229, (V, o), ls, .inl y :: .inl x :: r) = sm_R T_L_act (b, 230, (V, o), ls, .inl (x / y) :: r) := R_idiv rfl hn
theorem s_L_act_230 {b : Nat} {V : Nat → Nat → Int32} {o : Int64} {ls : sm_L} {r : List sm_V} : sm_R T_L_act (b, 230, (V, o), ls, r) = sm_R T_L_act (b, 232, (V, o), ls, .inl 30 :: r) := R_bipush rfl (by decide)
theorem s_L_act_232 {b : Nat} {V : Nat → Nat → Int32} {o : Int64} {ls : sm_L} {r : List sm_V} {x y : Int32} (hn : ¬ y = 0) : sm_R T_L_act (b, 232, (V, o), ls, .inl y :: .inl x :: r) = sm_R T_L_act (b, 233, (V, o), ls, .inl (x - x / y * y) :: r) := R_irem rfl hn
theorem s_L_act_233 {b : Nat} {V : Nat → Nat → Int32} {o : Int64} {ls : sm_L} {r : List sm_V} {a0 : sm_N} {a1 : Int32} {a2 : Int32} {a3 : Int32} (h : r.length ≤ 4) (hb : 2 ≤ b) : sm_R T_L_act (b, 233, (V, o), ls, .inl a3 :: .inl a2 :: .inl a1 :: .inr (.inr a0) :: r) = sm_k1 (F_L_trySetSlope (V, o) [.inr (.inr a0), .inl a1, .inl a2, .inl a3]) (fun M1 v => sm_R T_L_act ((b - 2), 236, M1, ls, v.toList ++ r)) := R_call (T := T_L_act) (x := 169) (virt := false) (as := [.inr (.inr a0), .inl a1, .inl a2, .inl a3]) rfl rfl rfl h hb (fun q => by cases q) (fun _ => ⟨by decide, rfl⟩) (fun _ => rfl) (by decide)
theorem s_L_act_236 {b : Nat} {V : Nat → Nat → Int32} {o : Int64} {ls : sm_L} {x : Int32} : sm_R T_L_act (b, 236, (V, o), ls, [.inl x]) = some ((V, o), .ok (some (.inl x))) := R_ireturn rfl (Or.inl rfl)
theorem s_L_act_237 {b : Nat} {V : Nat → Nat → Int32} {o : Int64} {tl : sm_L} {x : sm_N} {r : List sm_V} : sm_R T_L_act (b, 237, (V, o), some (.inr (.inr x)) :: tl, r) = sm_R T_L_act (b, 238, (V, o), some (.inr (.inr x)) :: tl, .inr (.inr x) :: r) := R_aload_n rfl rfl
theorem s_L_act_238 {b : Nat} {V : Nat → Nat → Int32} {o : Int64} {ls : sm_L} {r : List sm_V} : sm_R T_L_act (b, 238, (V, o), ls, r) = sm_R T_L_act (b, 239, (V, o), ls, .inl 1 :: r) := R_iconst rfl (by decide)
theorem s_L_act_239 {b : Nat} {V : Nat → Nat → Int32} {o : Int64} {l0 l1 : Option sm_V} {tl : sm_L} {x : Int32} {r : List sm_V} : sm_R T_L_act (b, 239, (V, o), l0 :: l1 :: some (.inl x) :: tl, r) = sm_R T_L_act (b, 240, (V, o), l0 :: l1 :: some (.inl x) :: tl, .inl x :: r) := R_iload_n rfl rfl
theorem s_L_act_240 {b : Nat} {V : Nat → Nat → Int32} {o : Int64} {ls : sm_L} {r : List sm_V} : sm_R T_L_act (b, 240, (V, o), ls, r) = sm_R T_L_act (b, 242, (V, o), ls, .inl 9 :: r) := R_bipush rfl (by decide)
theorem s_L_act_242 {b : Nat} {V : Nat → Nat → Int32} {o : Int64} {ls : sm_L} {r : List sm_V} {x y : Int32} (hn : ¬ y = 0) : sm_R T_L_act (b, 242, (V, o), ls, .inl y :: .inl x :: r) = sm_R T_L_act (b, 243, (V, o), ls, .inl (x - x / y * y) :: r) := R_irem rfl hn
theorem s_L_act_243 {b : Nat} {V : Nat → Nat → Int32} {o : Int64} {ls : sm_L} {r : List sm_V} {x y : Int32} : sm_R T_L_act (b, 243, (V, o), ls, .inl y :: .inl x :: r) = sm_R T_L_act (b, 244, (V, o), ls, .inl (x + y) :: r) := R_iadd rfl
theorem s_L_act_244 {b : Nat} {V : Nat → Nat → Int32} {o : Int64} {l0 l1 : Option sm_V} {tl : sm_L} {x : Int32} {r : List sm_V} : sm_R T_L_act (b, 244, (V, o), l0 :: l1 :: some (.inl x) :: tl, r) = sm_R T_L_act (b, 245, (V, o), l0 :: l1 :: some (.inl x) :: tl, .inl x :: r) := R_iload_n rfl rfl
theorem s_L_act_245 {b : Nat} {V : Nat → Nat → Int32} {o : Int64} {ls : sm_L} {r : List sm_V} : sm_R T_L_act (b, 245, (V, o), ls, r) = sm_R T_L_act (b, 247, (V, o), ls, .inl 16 :: r) := R_bipush rfl (by decide)
theorem s_L_act_247 {b : Nat} {V : Nat → Nat → Int32} {o : Int64} {ls : sm_L} {r : List sm_V} {x y : Int32} (hn : ¬ y = 0) : sm_R T_L_act (b, 247, (V, o), ls, .inl y :: .inl x :: r) = sm_R T_L_act (b, 248, (V, o), ls, .inl (x / y) :: r) := R_idiv rfl hn
theorem s_L_act_248 {b : Nat} {V : Nat → Nat → Int32} {o : Int64} {ls : sm_L} {r : List sm_V} : sm_R T_L_act (b, 248, (V, o), ls, r) = sm_R T_L_act (b, 250, (V, o), ls, .inl 10 :: r) := R_bipush rfl (by decide)
theorem s_L_act_250 {b : Nat} {V : Nat → Nat → Int32} {o : Int64} {ls : sm_L} {r : List sm_V} {x y : Int32} (hn : ¬ y = 0) : sm_R T_L_act (b, 250, (V, o), ls, .inl y :: .inl x :: r) = sm_R T_L_act (b, 251, (V, o), ls, .inl (x - x / y * y) :: r) := R_irem rfl hn
theorem s_L_act_251 {b : Nat} {V : Nat → Nat → Int32} {o : Int64} {l0 l1 : Option sm_V} {tl : sm_L} {x : Int32} {r : List sm_V} : sm_R T_L_act (b, 251, (V, o), l0 :: l1 :: some (.inl x) :: tl, r) = sm_R T_L_act (b, 252, (V, o), l0 :: l1 :: some (.inl x) :: tl, .inl x :: r) := R_iload_n rfl rfl
theorem s_L_act_252 {b : Nat} {V : Nat → Nat → Int32} {o : Int64} {ls : sm_L} {r : List sm_V} : sm_R T_L_act (b, 252, (V, o), ls, r) = sm_R T_L_act (b, 255, (V, o), ls, .inl 256 :: r) := R_sipush rfl (by decide)
theorem s_L_act_255 {b : Nat} {V : Nat → Nat → Int32} {o : Int64} {ls : sm_L} {r : List sm_V} {x y : Int32} (hn : ¬ y = 0) : sm_R T_L_act (b, 255, (V, o), ls, .inl y :: .inl x :: r) = sm_R T_L_act (b, 256, (V, o), ls, .inl (x / y) :: r) := R_idiv rfl hn
theorem s_L_act_256 {b : Nat} {V : Nat → Nat → Int32} {o : Int64} {ls : sm_L} {r : List sm_V} : sm_R T_L_act (b, 256, (V, o), ls, r) = sm_R T_L_act (b, 258, (V, o), ls, .inl 20 :: r) := R_bipush rfl (by decide)
theorem s_L_act_258 {b : Nat} {V : Nat → Nat → Int32} {o : Int64} {ls : sm_L} {r : List sm_V} {x y : Int32} (hn : ¬ y = 0) : sm_R T_L_act (b, 258, (V, o), ls, .inl y :: .inl x :: r) = sm_R T_L_act (b, 259, (V, o), ls, .inl (x - x / y * y) :: r) := R_irem rfl hn
theorem s_L_act_259 {b : Nat} {V : Nat → Nat → Int32} {o : Int64} {ls : sm_L} {r : List sm_V} {a0 : sm_N} {a1 : Int32} {a2 : Int32} {a3 : Int32} (h : r.length ≤ 4) (hb : 1 ≤ b) : sm_R T_L_act (b, 259, (V, o), ls, .inl a3 :: .inl a2 :: .inl a1 :: .inr (.inr a0) :: r) = sm_k1 (F_L_tryAddSlope (V, o) [.inr (.inr a0), .inl a1, .inl a2, .inl a3]) (fun M1 v => sm_R T_L_act ((b - 1), 262, M1, ls, v.toList ++ r)) := R_call (T := T_L_act) (x := 191) (virt := false) (as := [.inr (.inr a0), .inl a1, .inl a2, .inl a3]) rfl rfl rfl h hb (fun q => by cases q) (fun _ => ⟨by decide, rfl⟩) (fun _ => rfl) (by decide)
theorem s_L_act_262 {b : Nat} {V : Nat → Nat → Int32} {o : Int64} {ls : sm_L} {x : Int32} : sm_R T_L_act (b, 262, (V, o), ls, [.inl x]) = some ((V, o), .ok (some (.inl x))) := R_ireturn rfl (Or.inl rfl)
theorem s_L_act_263 {b : Nat} {V : Nat → Nat → Int32} {o : Int64} {tl : sm_L} {x : sm_N} {r : List sm_V} : sm_R T_L_act (b, 263, (V, o), some (.inr (.inr x)) :: tl, r) = sm_R T_L_act (b, 264, (V, o), some (.inr (.inr x)) :: tl, .inr (.inr x) :: r) := R_aload_n rfl rfl
theorem s_L_act_264 {b : Nat} {V : Nat → Nat → Int32} {o : Int64} {l0 l1 l2 l3 l4 : Option sm_V} {tl : sm_L} {x : Int32} {r : List sm_V} : sm_R T_L_act (b, 264, (V, o), l0 :: l1 :: l2 :: l3 :: l4 :: some (.inl x) :: tl, r) = sm_R T_L_act (b, 266, (V, o), l0 :: l1 :: l2 :: l3 :: l4 :: some (.inl x) :: tl, .inl x :: r) := R_iload rfl rfl
theorem s_L_act_266 {b : Nat} {V : Nat → Nat → Int32} {o : Int64} {ls : sm_L} {r : List sm_V} {a0 : sm_N} {a1 : Int32} (h : r.length ≤ 4) (hb : 2 ≤ b) : sm_R T_L_act (b, 266, (V, o), ls, .inl a1 :: .inr (.inr a0) :: r) = sm_k1 (F_L_tryRemoveSlope (V, o) [.inr (.inr a0), .inl a1]) (fun M1 v => sm_R T_L_act ((b - 2), 269, M1, ls, v.toList ++ r)) := R_call (T := T_L_act) (x := 176) (virt := false) (as := [.inr (.inr a0), .inl a1]) rfl rfl rfl h hb (fun q => by cases q) (fun _ => ⟨by decide, rfl⟩) (fun _ => rfl) (by decide)
theorem s_L_act_269 {b : Nat} {V : Nat → Nat → Int32} {o : Int64} {ls : sm_L} {x : Int32} : sm_R T_L_act (b, 269, (V, o), ls, [.inl x]) = some ((V, o), .ok (some (.inl x))) := R_ireturn rfl (Or.inl rfl)
theorem s_L_act_270 {b : Nat} {V : Nat → Nat → Int32} {o : Int64} {tl : sm_L} {x : sm_N} {r : List sm_V} : sm_R T_L_act (b, 270, (V, o), some (.inr (.inr x)) :: tl, r) = sm_R T_L_act (b, 271, (V, o), some (.inr (.inr x)) :: tl, .inr (.inr x) :: r) := R_aload_n rfl rfl
theorem s_L_act_271 {b : Nat} {V : Nat → Nat → Int32} {o : Int64} {l0 l1 l2 l3 l4 : Option sm_V} {tl : sm_L} {x : Int32} {r : List sm_V} : sm_R T_L_act (b, 271, (V, o), l0 :: l1 :: l2 :: l3 :: l4 :: some (.inl x) :: tl, r) = sm_R T_L_act (b, 273, (V, o), l0 :: l1 :: l2 :: l3 :: l4 :: some (.inl x) :: tl, .inl x :: r) := R_iload rfl rfl
theorem s_L_act_273 {b : Nat} {V : Nat → Nat → Int32} {o : Int64} {l0 l1 : Option sm_V} {tl : sm_L} {x : Int32} {r : List sm_V} : sm_R T_L_act (b, 273, (V, o), l0 :: l1 :: some (.inl x) :: tl, r) = sm_R T_L_act (b, 274, (V, o), l0 :: l1 :: some (.inl x) :: tl, .inl x :: r) := R_iload_n rfl rfl
theorem s_L_act_274 {b : Nat} {V : Nat → Nat → Int32} {o : Int64} {ls : sm_L} {r : List sm_V} : sm_R T_L_act (b, 274, (V, o), ls, r) = sm_R T_L_act (b, 276, (V, o), ls, .inl 64 :: r) := R_bipush rfl (by decide)
theorem s_L_act_276 {b : Nat} {V : Nat → Nat → Int32} {o : Int64} {ls : sm_L} {r : List sm_V} {x y : Int32} (hn : ¬ y = 0) : sm_R T_L_act (b, 276, (V, o), ls, .inl y :: .inl x :: r) = sm_R T_L_act (b, 277, (V, o), ls, .inl (x / y) :: r) := R_idiv rfl hn
theorem s_L_act_277 {b : Nat} {V : Nat → Nat → Int32} {o : Int64} {ls : sm_L} {r : List sm_V} : sm_R T_L_act (b, 277, (V, o), ls, r) = sm_R T_L_act (b, 278, (V, o), ls, .inl 4 :: r) := R_iconst rfl (by decide)
theorem s_L_act_278 {b : Nat} {V : Nat → Nat → Int32} {o : Int64} {ls : sm_L} {r : List sm_V} {x y : Int32} (hn : ¬ y = 0) : sm_R T_L_act (b, 278, (V, o), ls, .inl y :: .inl x :: r) = sm_R T_L_act (b, 279, (V, o), ls, .inl (x - x / y * y) :: r) := R_irem rfl hn
theorem s_L_act_279 {b : Nat} {V : Nat → Nat → Int32} {o : Int64} {ls : sm_L} {r : List sm_V} {a0 : sm_N} {a1 : Int32} {a2 : Int32} (h : r.length ≤ 4) (hb : 3 ≤ b) : sm_R T_L_act (b, 279, (V, o), ls, .inl a2 :: .inl a1 :: .inr (.inr a0) :: r) = sm_k1 (F_L_tryAddGun (V, o) [.inr (.inr a0), .inl a1, .inl a2]) (fun M1 v => sm_R T_L_act ((b - 3), 282, M1, ls, v.toList ++ r)) := R_call (T := T_L_act) (x := 194) (virt := false) (as := [.inr (.inr a0), .inl a1, .inl a2]) rfl rfl rfl h hb (fun q => by cases q) (fun _ => ⟨by decide, rfl⟩) (fun _ => rfl) (by decide)
theorem s_L_act_282 {b : Nat} {V : Nat → Nat → Int32} {o : Int64} {ls : sm_L} {x : Int32} : sm_R T_L_act (b, 282, (V, o), ls, [.inl x]) = some ((V, o), .ok (some (.inl x))) := R_ireturn rfl (Or.inl rfl)
theorem s_L_act_283 {b : Nat} {V : Nat → Nat → Int32} {o : Int64} {tl : sm_L} {x : sm_N} {r : List sm_V} : sm_R T_L_act (b, 283, (V, o), some (.inr (.inr x)) :: tl, r) = sm_R T_L_act (b, 284, (V, o), some (.inr (.inr x)) :: tl, .inr (.inr x) :: r) := R_aload_n rfl rfl
theorem s_L_act_284 {b : Nat} {V : Nat → Nat → Int32} {o : Int64} {l0 l1 l2 l3 l4 l5 : Option sm_V} {tl : sm_L} {x : Int32} {r : List sm_V} : sm_R T_L_act (b, 284, (V, o), l0 :: l1 :: l2 :: l3 :: l4 :: l5 :: some (.inl x) :: tl, r) = sm_R T_L_act (b, 286, (V, o), l0 :: l1 :: l2 :: l3 :: l4 :: l5 :: some (.inl x) :: tl, .inl x :: r) := R_iload rfl rfl
theorem s_L_act_286 {b : Nat} {V : Nat → Nat → Int32} {o : Int64} {l0 l1 l2 l3 l4 : Option sm_V} {tl : sm_L} {x : Int32} {r : List sm_V} : sm_R T_L_act (b, 286, (V, o), l0 :: l1 :: l2 :: l3 :: l4 :: some (.inl x) :: tl, r) = sm_R T_L_act (b, 288, (V, o), l0 :: l1 :: l2 :: l3 :: l4 :: some (.inl x) :: tl, .inl x :: r) := R_iload rfl rfl
theorem s_L_act_288 {b : Nat} {V : Nat → Nat → Int32} {o : Int64} {ls : sm_L} {r : List sm_V} {a0 : sm_N} {a1 : Int32} {a2 : Int32} (h : r.length ≤ 4) (hb : 2 ≤ b) : sm_R T_L_act (b, 288, (V, o), ls, .inl a2 :: .inl a1 :: .inr (.inr a0) :: r) = sm_k1 (F_L_tryBring (V, o) [.inr (.inr a0), .inl a1, .inl a2]) (fun M1 v => sm_R T_L_act ((b - 2), 291, M1, ls, v.toList ++ r)) := R_call (T := T_L_act) (x := 173) (virt := false) (as := [.inr (.inr a0), .inl a1, .inl a2]) rfl rfl rfl h hb (fun q => by cases q) (fun _ => ⟨by decide, rfl⟩) (fun _ => rfl) (by decide)
theorem s_L_act_291 {b : Nat} {V : Nat → Nat → Int32} {o : Int64} {ls : sm_L} {x : Int32} : sm_R T_L_act (b, 291, (V, o), ls, [.inl x]) = some ((V, o), .ok (some (.inl x))) := R_ireturn rfl (Or.inl rfl)
theorem s_L_act_292 {b : Nat} {V : Nat → Nat → Int32} {o : Int64} {tl : sm_L} {x : sm_N} {r : List sm_V} : sm_R T_L_act (b, 292, (V, o), some (.inr (.inr x)) :: tl, r) = sm_R T_L_act (b, 293, (V, o), some (.inr (.inr x)) :: tl, .inr (.inr x) :: r) := R_aload_n rfl rfl
theorem s_L_act_293 {b : Nat} {V : Nat → Nat → Int32} {o : Int64} {l0 l1 l2 l3 l4 l5 : Option sm_V} {tl : sm_L} {x : Int32} {r : List sm_V} : sm_R T_L_act (b, 293, (V, o), l0 :: l1 :: l2 :: l3 :: l4 :: l5 :: some (.inl x) :: tl, r) = sm_R T_L_act (b, 295, (V, o), l0 :: l1 :: l2 :: l3 :: l4 :: l5 :: some (.inl x) :: tl, .inl x :: r) := R_iload rfl rfl
theorem s_L_act_295 {b : Nat} {V : Nat → Nat → Int32} {o : Int64} {l0 l1 : Option sm_V} {tl : sm_L} {x : Int32} {r : List sm_V} : sm_R T_L_act (b, 295, (V, o), l0 :: l1 :: some (.inl x) :: tl, r) = sm_R T_L_act (b, 296, (V, o), l0 :: l1 :: some (.inl x) :: tl, .inl x :: r) := R_iload_n rfl rfl
theorem s_L_act_296 {b : Nat} {V : Nat → Nat → Int32} {o : Int64} {ls : sm_L} {r : List sm_V} : sm_R T_L_act (b, 296, (V, o), ls, r) = sm_R T_L_act (b, 298, (V, o), ls, .inl 64 :: r) := R_bipush rfl (by decide)
theorem s_L_act_298 {b : Nat} {V : Nat → Nat → Int32} {o : Int64} {ls : sm_L} {r : List sm_V} {x y : Int32} (hn : ¬ y = 0) : sm_R T_L_act (b, 298, (V, o), ls, .inl y :: .inl x :: r) = sm_R T_L_act (b, 299, (V, o), ls, .inl (x / y) :: r) := R_idiv rfl hn
theorem s_L_act_299 {b : Nat} {V : Nat → Nat → Int32} {o : Int64} {ls : sm_L} {r : List sm_V} : sm_R T_L_act (b, 299, (V, o), ls, r) = sm_R T_L_act (b, 300, (V, o), ls, .inl 3 :: r) := R_iconst rfl (by decide)
theorem s_L_act_300 {b : Nat} {V : Nat → Nat → Int32} {o : Int64} {ls : sm_L} {r : List sm_V} {x y : Int32} (hn : ¬ y = 0) : sm_R T_L_act (b, 300, (V, o), ls, .inl y :: .inl x :: r) = sm_R T_L_act (b, 301, (V, o), ls, .inl (x - x / y * y) :: r) := R_irem rfl hn
theorem s_L_act_301 {b : Nat} {V : Nat → Nat → Int32} {o : Int64} {ls : sm_L} {r : List sm_V} {x : Int32} : sm_R T_L_act (b, 301, (V, o), ls, .inl x :: r) = if x ≤ 0 then sm_R T_L_act (b, 308, (V, o), ls, r) else sm_R T_L_act (b, 304, (V, o), ls, r) := R_if_le (tgt := 308) rfl (by decide)
theorem s_L_act_304 {b : Nat} {V : Nat → Nat → Int32} {o : Int64} {ls : sm_L} {r : List sm_V} : sm_R T_L_act (b, 304, (V, o), ls, r) = sm_R T_L_act (b, 305, (V, o), ls, .inl 1 :: r) := R_iconst rfl (by decide)
theorem s_L_act_305 {b : Nat} {V : Nat → Nat → Int32} {o : Int64} {ls : sm_L} {r : List sm_V} : sm_R T_L_act (b, 305, (V, o), ls, r) = sm_R T_L_act (b, 309, (V, o), ls, r) := R_goto (tgt := 309) rfl (by decide)
theorem s_L_act_308 {b : Nat} {V : Nat → Nat → Int32} {o : Int64} {ls : sm_L} {r : List sm_V} : sm_R T_L_act (b, 308, (V, o), ls, r) = sm_R T_L_act (b, 309, (V, o), ls, .inl 0 :: r) := R_iconst rfl (by decide)
theorem s_L_act_309 {b : Nat} {V : Nat → Nat → Int32} {o : Int64} {ls : sm_L} {r : List sm_V} {a0 : sm_N} {a1 : Int32} {a2 : Int32} (h : r.length ≤ 4) (hb : 1 ≤ b) : sm_R T_L_act (b, 309, (V, o), ls, .inl a2 :: .inl a1 :: .inr (.inr a0) :: r) = sm_k1 (F_L_tryAllow (V, o) [.inr (.inr a0), .inl a1, .inl a2]) (fun M1 v => sm_R T_L_act ((b - 1), 312, M1, ls, v.toList ++ r)) := R_call (T := T_L_act) (x := 197) (virt := false) (as := [.inr (.inr a0), .inl a1, .inl a2]) rfl rfl rfl h hb (fun q => by cases q) (fun _ => ⟨by decide, rfl⟩) (fun _ => rfl) (by decide)
theorem s_L_act_312 {b : Nat} {V : Nat → Nat → Int32} {o : Int64} {ls : sm_L} {x : Int32} : sm_R T_L_act (b, 312, (V, o), ls, [.inl x]) = some ((V, o), .ok (some (.inl x))) := R_ireturn rfl (Or.inl rfl)
theorem s_L_act_313 {b : Nat} {V : Nat → Nat → Int32} {o : Int64} {tl : sm_L} {x : sm_N} {r : List sm_V} : sm_R T_L_act (b, 313, (V, o), some (.inr (.inr x)) :: tl, r) = sm_R T_L_act (b, 314, (V, o), some (.inr (.inr x)) :: tl, .inr (.inr x) :: r) := R_aload_n rfl rfl
theorem s_L_act_314 {b : Nat} {V : Nat → Nat → Int32} {o : Int64} {ls : sm_L} {r : List sm_V} {a0 : sm_N} (h : r.length ≤ 4) (hb : 1 ≤ b) : sm_R T_L_act (b, 314, (V, o), ls, .inr (.inr a0) :: r) = sm_k1 (F_L_tryUndo (V, o) [.inr (.inr a0)]) (fun M1 v => sm_R T_L_act ((b - 1), 317, M1, ls, v.toList ++ r)) := R_call (T := T_L_act) (x := 150) (virt := false) (as := [.inr (.inr a0)]) rfl rfl rfl h hb (fun q => by cases q) (fun _ => ⟨by decide, rfl⟩) (fun _ => rfl) (by decide)
theorem s_L_act_317 {b : Nat} {V : Nat → Nat → Int32} {o : Int64} {ls : sm_L} {x : Int32} : sm_R T_L_act (b, 317, (V, o), ls, [.inl x]) = some ((V, o), .ok (some (.inl x))) := R_ireturn rfl (Or.inl rfl)
theorem s_L_act_318 {b : Nat} {V : Nat → Nat → Int32} {o : Int64} {l0 l1 : Option sm_V} {tl : sm_L} {x : Int32} {r : List sm_V} : sm_R T_L_act (b, 318, (V, o), l0 :: l1 :: some (.inl x) :: tl, r) = sm_R T_L_act (b, 319, (V, o), l0 :: l1 :: some (.inl x) :: tl, .inl x :: r) := R_iload_n rfl rfl
theorem s_L_act_319 {b : Nat} {V : Nat → Nat → Int32} {o : Int64} {ls : sm_L} {r : List sm_V} : sm_R T_L_act (b, 319, (V, o), ls, r) = sm_R T_L_act (b, 320, (V, o), ls, .inl 2 :: r) := R_iconst rfl (by decide)
theorem s_L_act_320 {b : Nat} {V : Nat → Nat → Int32} {o : Int64} {ls : sm_L} {r : List sm_V} {x y : Int32} (hn : ¬ y = 0) : sm_R T_L_act (b, 320, (V, o), ls, .inl y :: .inl x :: r) = sm_R T_L_act (b, 321, (V, o), ls, .inl (x - x / y * y) :: r) := R_irem rfl hn
theorem s_L_act_321 {b : Nat} {V : Nat → Nat → Int32} {o : Int64} {ls : sm_L} {r : List sm_V} {x : Int32} : sm_R T_L_act (b, 321, (V, o), ls, .inl x :: r) = if ¬ x = 0 then sm_R T_L_act (b, 332, (V, o), ls, r) else sm_R T_L_act (b, 324, (V, o), ls, r) := R_if_ne (tgt := 332) rfl (by decide)
theorem s_L_act_324 {b : Nat} {V : Nat → Nat → Int32} {o : Int64} {tl : sm_L} {x : sm_N} {r : List sm_V} : sm_R T_L_act (b, 324, (V, o), some (.inr (.inr x)) :: tl, r) = sm_R T_L_act (b, 325, (V, o), some (.inr (.inr x)) :: tl, .inr (.inr x) :: r) := R_aload_n rfl rfl
theorem s_L_act_325 {b : Nat} {V : Nat → Nat → Int32} {o : Int64} {ls : sm_L} {r : List sm_V} : sm_R T_L_act (b, 325, (V, o), ls, r) = sm_R T_L_act (b, 326, (V, o), ls, .inl 1 :: r) := R_iconst rfl (by decide)
theorem s_L_act_326 {b : Nat} {V : Nat → Nat → Int32} {o : Int64} {ls : sm_L} {r : List sm_V} {a0 : sm_N} {a1 : Int32} (h : r.length ≤ 4) (hb : 1 ≤ b) : sm_R T_L_act (b, 326, (V, o), ls, .inl a1 :: .inr (.inr a0) :: r) = sm_k1 (F_L_trySave (V, o) [.inr (.inr a0), .inl a1]) (fun M1 v => sm_R T_L_act ((b - 1), 329, M1, ls, v.toList ++ r)) := R_call (T := T_L_act) (x := 232) (virt := false) (as := [.inr (.inr a0), .inl a1]) rfl rfl rfl h hb (fun q => by cases q) (fun _ => ⟨by decide, rfl⟩) (fun _ => rfl) (by decide)
theorem s_L_act_329 {b : Nat} {V : Nat → Nat → Int32} {o : Int64} {ls : sm_L} {r : List sm_V} : sm_R T_L_act (b, 329, (V, o), ls, r) = sm_R T_L_act (b, 337, (V, o), ls, r) := R_goto (tgt := 337) rfl (by decide)
theorem s_L_act_332 {b : Nat} {V : Nat → Nat → Int32} {o : Int64} {tl : sm_L} {x : sm_N} {r : List sm_V} : sm_R T_L_act (b, 332, (V, o), some (.inr (.inr x)) :: tl, r) = sm_R T_L_act (b, 333, (V, o), some (.inr (.inr x)) :: tl, .inr (.inr x) :: r) := R_aload_n rfl rfl
theorem s_L_act_333 {b : Nat} {V : Nat → Nat → Int32} {o : Int64} {ls : sm_L} {r : List sm_V} : sm_R T_L_act (b, 333, (V, o), ls, r) = sm_R T_L_act (b, 334, (V, o), ls, .inl 1 :: r) := R_iconst rfl (by decide)
theorem s_L_act_334 {b : Nat} {V : Nat → Nat → Int32} {o : Int64} {ls : sm_L} {r : List sm_V} {a0 : sm_N} {a1 : Int32} (h : r.length ≤ 4) (hb : 2 ≤ b) : sm_R T_L_act (b, 334, (V, o), ls, .inl a1 :: .inr (.inr a0) :: r) = sm_k1 (F_L_tryRestore (V, o) [.inr (.inr a0), .inl a1]) (fun M1 v => sm_R T_L_act ((b - 2), 337, M1, ls, v.toList ++ r)) := R_call (T := T_L_act) (x := 153) (virt := false) (as := [.inr (.inr a0), .inl a1]) rfl rfl rfl h hb (fun q => by cases q) (fun _ => ⟨by decide, rfl⟩) (fun _ => rfl) (by decide)
theorem s_L_act_337 {b : Nat} {V : Nat → Nat → Int32} {o : Int64} {ls : sm_L} {x : Int32} : sm_R T_L_act (b, 337, (V, o), ls, [.inl x]) = some ((V, o), .ok (some (.inl x))) := R_ireturn rfl (Or.inl rfl)
