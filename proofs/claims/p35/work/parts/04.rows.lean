/-! SOUNDNESS, an instruction at a time: sm_Go S says that from every machine state that the abstract state S describes the method comes to Q -/
def sm_W : List Cond := lw_tbl.filter goodWord
def sm_A1 (G : sm_G) : Nat → Prop := fun q => ∃ c k i, sm_og G c k i ∧ sm_ad G c k i = q
def sm_A (G : sm_G) : Nat → Prop := fun q => sm_A1 G q ∨ sm_A1 (sm_up G) q
def sm_tys (G : sm_G) : List (ClassId × FieldType) := [(sm_ca G 0, .int), (sm_ca G 1, .boolean), (sm_ca G 2, .char), (sm_ca G 3, .int), (sm_ca G 4, .object "SnowGuns$Slope"), (sm_ca G 5, .object "SnowGuns$Gun"), (sm_ca G 6, .object "SnowGuns$State")]
def sm_LR (G : sm_G) (LS : Array Slot) (nL : Nat) (ls : sm_L) : Prop := ls.length = nL ∧ LS.size = nL ∧ lv_wf LS ∧ ∀ i v, sm_lg ls i = some v → LS[i]? = some (.val (sm_c G v))
def sm_al (G : sm_G) (ls : sm_L) : List (Nat × Value) := (List.range ls.length).filterMap (fun i => (sm_lg ls i).map (fun v => (i, sm_c G v)))
theorem sm_lg_lt {ls : sm_L} {i : Nat} {v : sm_V} (h : sm_lg ls i = some v) : i < ls.length := by
  unfold sm_lg at h
  split at h
  · rename_i w hw
    exact (List.getElem?_eq_some_iff.mp hw).1
  · cases h
theorem sm_al_mem {G : sm_G} {ls : sm_L} {i : Nat} {v : sm_V} (h : sm_lg ls i = some v) : (i, sm_c G v) ∈ sm_al G ls :=
  List.mem_filterMap.mpr ⟨i, List.mem_range.mpr (sm_lg_lt h), by rw [h]; rfl⟩
theorem sm_LR.has {G : sm_G} {LS : Array Slot} {nL : Nat} {ls : sm_L} (h : sm_LR G LS nL ls) : lv_has LS nL (sm_al G ls) := by
  refine ⟨h.2.1, h.2.2.1, fun q hq => ?_⟩
  obtain ⟨i, -, hi⟩ := List.mem_filterMap.mp hq
  cases hv : sm_lg ls i with
  | none => rw [hv] at hi; cases hi
  | some v =>
    rw [hv] at hi
    cases hi
    exact h.2.2.2 i v hv
theorem sm_cat {G : sm_G} {v : sm_V} (h : sm_c1 v = true) : (sm_c G v).category = 1 := by
  rcases v with x | x | ⟨c, k, i⟩
  · rfl
  · cases h
  · rfl
theorem sm_cat2 {G : sm_G} {v : sm_V} (h : (sm_c G v).category = 2) : sm_nl (some v) = false := by
  rcases v with x | x | ⟨c, k, i⟩
  · cases h
  · rfl
  · cases h
theorem sm_lg_of {ls : sm_L} {i : Nat} {v : sm_V} (h : sm_lg ls i = some v) : ls[i]? = some (some v) := by
  unfold sm_lg at h
  split at h
  · rename_i w hw
    cases h
    exact hw
  · cases h
theorem sm_lk_no {ls : sm_L} {i j : Nat} {v : sm_V} (hk : sm_lk ls i = true) (h : sm_lg ls j = some v) (e : j + 1 = i) : sm_nl (some v) = true := by
  subst e
  unfold sm_lk at hk
  simp only at hk
  rw [sm_lg_of h] at hk
  exact hk
theorem sm_LR.set1 {G : sm_G} {LS LS1 : Array Slot} {nL i : Nat} {ls : sm_L} {v : sm_V} (h : sm_LR G LS nL ls) (hk : sm_lk ls i = true) (h1 : lv_has LS1 nL ((i, sm_c G v) :: (sm_al G ls).filter (fun q => !(q.1 == i) && !(q.1 + 1 == i && q.2.category == 2)))) : sm_LR G LS1 nL (ls.set i (some v)) := by
  refine ⟨by rw [List.length_set]; exact h.1, h1.1, h1.2.1, fun j w hj => ?_⟩
  have hg := sm_lg_of hj
  rw [List.getElem?_set] at hg
  by_cases e : i = j
  · rw [if_pos e] at hg
    split at hg
    · cases hg
      exact h1.2.2 (j, sm_c G v) (by rw [e]; exact List.mem_cons_self)
    · cases hg
  · rw [if_neg e] at hg
    have hj2 : sm_lg ls j = some w := by unfold sm_lg; rw [hg]
    refine h1.2.2 (j, sm_c G w) (List.mem_cons_of_mem _ (List.mem_filter.mpr ⟨sm_al_mem hj2, ?_⟩))
    have e1 : (j == i) = false := by simpa using fun q => e q.symm
    simp only [e1, Bool.not_false, Bool.true_and, Bool.not_eq_true', Bool.and_eq_false_iff, beq_eq_false_iff_ne, ne_eq]
    by_cases e2 : j + 1 = i
    · right
      intro h2
      have := sm_lk_no hk hj2 e2
      rw [sm_cat2 h2] at this
      cases this
    · exact Or.inl e2
theorem sm_LR.set2 {G : sm_G} {LS LS1 : Array Slot} {nL i : Nat} {ls : sm_L} {v : sm_V} (h : sm_LR G LS nL ls) (hk : sm_lk ls i = true) (h1 : lv_has LS1 nL ((i, sm_c G v) :: (sm_al G ls).filter (fun q => !(q.1 == i) && (!(q.1 == i + 1) && !(q.1 + 1 == i && q.2.category == 2))))) : sm_LR G LS1 nL ((ls.set i (some v)).set (i + 1) none) := by
  refine ⟨by rw [List.length_set, List.length_set]; exact h.1, h1.1, h1.2.1, fun j w hj => ?_⟩
  have hg := sm_lg_of hj
  rw [List.getElem?_set] at hg
  by_cases e0 : i + 1 = j
  · rw [if_pos e0] at hg
    split at hg
    · cases hg
    · cases hg
  · rw [if_neg e0, List.getElem?_set] at hg
    by_cases e : i = j
    · rw [if_pos e] at hg
      split at hg
      · cases hg
        exact h1.2.2 (j, sm_c G v) (by rw [e]; exact List.mem_cons_self)
      · cases hg
    · rw [if_neg e] at hg
      have hj2 : sm_lg ls j = some w := by unfold sm_lg; rw [hg]
      refine h1.2.2 (j, sm_c G w) (List.mem_cons_of_mem _ (List.mem_filter.mpr ⟨sm_al_mem hj2, ?_⟩))
      have e1 : (j == i) = false := by simpa using fun q => e q.symm
      have e3 : (j == i + 1) = false := by simpa using fun q => e0 q.symm
      simp only [e1, e3, Bool.not_false, Bool.true_and, Bool.not_eq_true', Bool.and_eq_false_iff, beq_eq_false_iff_ne, ne_eq]
      by_cases e2 : j + 1 = i
      · right
        intro h2
        have := sm_lk_no hk hj2 e2
        rw [sm_cat2 h2] at this
        cases this
      · exact Or.inl e2
theorem sm_lg_none {ls : sm_L} {k i : Nat} {v : sm_V} (h : sm_lg (ls.set k none) i = some v) : sm_lg ls i = some v := by
  have hg := sm_lg_of h
  rw [List.getElem?_set] at hg
  by_cases e : k = i
  · rw [if_pos e] at hg
    split at hg
    · cases hg
    · cases hg
  · rw [if_neg e] at hg
    unfold sm_lg
    rw [hg]
theorem sm_lg_set {ls : sm_L} {k i : Nat} {v w : sm_V} (h : sm_lg (ls.set k (some w)) i = some v) : v = w ∨ sm_lg ls i = some v := by
  have hg := sm_lg_of h
  rw [List.getElem?_set] at hg
  by_cases e : k = i
  · rw [if_pos e] at hg
    split at hg
    · cases hg
      exact Or.inl rfl
    · cases hg
  · rw [if_neg e] at hg
    right
    unfold sm_lg
    rw [hg]
theorem sm_okm.set {G : sm_G} {ls : sm_L} {k : Nat} {w : sm_V} (h : sm_okm G ls) (hw : sm_okv G w) : sm_okm G (ls.set k (some w)) := fun i v hv => by
  rcases sm_lg_set hv with rfl | h1
  · exact hw
  · exact h i v h1
theorem sm_okm.non {G : sm_G} {ls : sm_L} {k : Nat} (h : sm_okm G ls) : sm_okm G (ls.set k none) := fun i v hv => h i v (sm_lg_none hv)
section SMR
variable {p : Program} {l : Launch} {e : Env} {R : Room} {s : State} {m : MethodId} {args : Array Value} {below : List Frame} {meth : Method} {c : Code} {Q : State → Prop} {G : sm_G} {nL : Nat}
/-- what the machine holds when the abstract machine stands at S -/
def sm_Rl (R : Room) (s : State) (G : sm_G) (nL : Nat) (S : sm_S) (H : Heap) (locs : List Loc) (LS : Array Slot) (cells slots : Nat) : Prop :=
  sm_Rep G S.2.2.1 H ∧ va_S (sm_A G) s.heap H locs ∧ sm_LR G LS nL S.2.2.2.1 ∧ sm_okm G S.2.2.2.1 ∧ sm_okl G S.2.2.2.2 ∧ cells + S.1 ≤ R.cells ∧ slots + 6 * S.1 ≤ R.slots
def sm_Go (p : Program) (l : Launch) (e : Env) (R : Room) (s : State) (m : MethodId) (args : Array Value) (below : List Frame) (meth : Method) (c : Code) (Q : State → Prop) (G : sm_G) (nL : Nat) (S : sm_S) : Prop :=
  ∀ (H : Heap) (locs : List Loc) (LS : Array Slot) (cells slots : Nat), sm_Rl R s G nL S H locs LS cells slots → W p l e R s m args below meth c H locs cells slots Q (F0 m S.2.1 LS (S.2.2.2.2.map (sm_c G)))
theorem sm_Rl.to {b pc pc1 : Nat} {M : sm_M} {ls : sm_L} {st st1 : List sm_V} {H : Heap} {locs : List Loc} {LS : Array Slot} {cells slots : Nat} (h : sm_Rl R s G nL (b, pc, M, ls, st) H locs LS cells slots) (hs : sm_okl G st → sm_okl G st1) : sm_Rl R s G nL (b, pc1, M, ls, st1) H locs LS cells slots :=
  ⟨h.1, h.2.1, h.2.2.1, h.2.2.2.1, hs h.2.2.2.2.1, h.2.2.2.2.2⟩
theorem sm_Rl.ls {b pc pc1 : Nat} {M : sm_M} {ls ls1 : sm_L} {st st1 : List sm_V} {H : Heap} {locs : List Loc} {LS LS1 : Array Slot} {cells slots : Nat} (h : sm_Rl R s G nL (b, pc, M, ls, st) H locs LS cells slots) (h1 : sm_LR G LS1 nL ls1) (h2 : sm_okm G ls1) (hs : sm_okl G st → sm_okl G st1) : sm_Rl R s G nL (b, pc1, M, ls1, st1) H locs LS1 cells slots :=
  ⟨h.1, h.2.1, h1, h2, hs h.2.2.2.2.1, h.2.2.2.2.2⟩
variable {cc : ByteArray} {b pc : Nat} {M : sm_M} {ls : sm_L} {r : List sm_V}
theorem sd_iconst (hx : p.tables.exec = Jvm.exec) (hb : c.code = cc) {n : Int} (hd : decode cc pc = .ok (.iconst n, 1)) (k : sm_Go p l e R s m args below meth c Q G nL (b, pc + 1, M, ls, .inl (Int32.ofInt n) :: r)) : sm_Go p l e R s m args below meth c Q G nL (b, pc, M, ls, r) := fun H locs LS cells slots h =>
  lv_iconst hx hb hd rfl (k H locs LS cells slots (h.to fun q => sm_okl_cons.mpr ⟨trivial, q⟩))
theorem sd_bipush (hx : p.tables.exec = Jvm.exec) (hb : c.code = cc) {n : Int} (hd : decode cc pc = .ok (.bipush n, 2)) (k : sm_Go p l e R s m args below meth c Q G nL (b, pc + 2, M, ls, .inl (Int8.ofInt n).toInt32 :: r)) : sm_Go p l e R s m args below meth c Q G nL (b, pc, M, ls, r) := fun H locs LS cells slots h =>
  lv_bipush hx hb hd rfl (k H locs LS cells slots (h.to fun q => sm_okl_cons.mpr ⟨trivial, q⟩))
theorem sd_sipush (hx : p.tables.exec = Jvm.exec) (hb : c.code = cc) {n : Int} (hd : decode cc pc = .ok (.sipush n, 3)) (k : sm_Go p l e R s m args below meth c Q G nL (b, pc + 3, M, ls, .inl (Int16.ofInt n).toInt32 :: r)) : sm_Go p l e R s m args below meth c Q G nL (b, pc, M, ls, r) := fun H locs LS cells slots h =>
  lv_sipush hx hb hd rfl (k H locs LS cells slots (h.to fun q => sm_okl_cons.mpr ⟨trivial, q⟩))
theorem sd_lconst (hx : p.tables.exec = Jvm.exec) (hb : c.code = cc) {n : Fin 2} (hd : decode cc pc = .ok (.lconst n, 1)) (k : sm_Go p l e R s m args below meth c Q G nL (b, pc + 1, M, ls, .inr (.inl (Int64.ofNat (n : Nat))) :: r)) : sm_Go p l e R s m args below meth c Q G nL (b, pc, M, ls, r) := fun H locs LS cells slots h =>
  lv_lconst hx hb hd rfl (k H locs LS cells slots (h.to fun q => sm_okl_cons.mpr ⟨trivial, q⟩))
theorem sd_ldc (hx : p.tables.exec = Jvm.exec) (hb : c.code = cc) {own : String} {index : Nat} {v : Int32} (hown : s.vm.findClass own = some m.cls) (hc : (Cond.constant own index v).before args s = true) (hd : decode cc pc = .ok (.ldc index, 2)) (k : sm_Go p l e R s m args below meth c Q G nL (b, pc + 2, M, ls, .inl v :: r)) : sm_Go p l e R s m args below meth c Q G nL (b, pc, M, ls, r) := fun H locs LS cells slots h =>
  lv_ldc hx hb hown hc hd (k H locs LS cells slots (h.to fun q => sm_okl_cons.mpr ⟨trivial, q⟩))
theorem sd_ldcw (hx : p.tables.exec = Jvm.exec) (hb : c.code = cc) {own : String} {index : Nat} {v : Int32} (hown : s.vm.findClass own = some m.cls) (hc : (Cond.constant own index v).before args s = true) (hd : decode cc pc = .ok (.ldc_w index, 3)) (k : sm_Go p l e R s m args below meth c Q G nL (b, pc + 3, M, ls, .inl v :: r)) : sm_Go p l e R s m args below meth c Q G nL (b, pc, M, ls, r) := fun H locs LS cells slots h =>
  lv_ldcw hx hb hown hc hd (k H locs LS cells slots (h.to fun q => sm_okl_cons.mpr ⟨trivial, q⟩))
theorem sd_ldc2 (hx : p.tables.exec = Jvm.exec) (hb : c.code = cc) {own : String} {index : Nat} {v : Int64} (hown : s.vm.findClass own = some m.cls) (hc : (Cond.constantLong own index v).before args s = true) (hd : decode cc pc = .ok (.ldc2_w index, 3)) (k : sm_Go p l e R s m args below meth c Q G nL (b, pc + 3, M, ls, .inr (.inl v) :: r)) : sm_Go p l e R s m args below meth c Q G nL (b, pc, M, ls, r) := fun H locs LS cells slots h =>
  lv_ldc2 hx hb hown hc hd (k H locs LS cells slots (h.to fun q => sm_okl_cons.mpr ⟨trivial, q⟩))
theorem sd_iload_n (hx : p.tables.exec = Jvm.exec) (hb : c.code = cc) {i : Fin 4} {x : Int32} (hl : sm_lg ls i = some (.inl x)) (hd : decode cc pc = .ok (.iload_n i, 1)) (k : sm_Go p l e R s m args below meth c Q G nL (b, pc + 1, M, ls, .inl x :: r)) : sm_Go p l e R s m args below meth c Q G nL (b, pc, M, ls, r) := fun H locs LS cells slots h =>
  lv_iload_n hx hb hd rfl (h.2.2.1.2.2.2 _ _ hl) (k H locs LS cells slots (h.to fun q => sm_okl_cons.mpr ⟨trivial, q⟩))
theorem sd_iload (hx : p.tables.exec = Jvm.exec) (hb : c.code = cc) {i : Nat} {x : Int32} (hl : sm_lg ls i = some (.inl x)) (hd : decode cc pc = .ok (.iload i, 2)) (k : sm_Go p l e R s m args below meth c Q G nL (b, pc + 2, M, ls, .inl x :: r)) : sm_Go p l e R s m args below meth c Q G nL (b, pc, M, ls, r) := fun H locs LS cells slots h =>
  lv_iload hx hb hd (h.2.2.1.2.2.2 _ _ hl) (k H locs LS cells slots (h.to fun q => sm_okl_cons.mpr ⟨trivial, q⟩))
theorem sd_lload_n (hx : p.tables.exec = Jvm.exec) (hb : c.code = cc) {i : Fin 4} {x : Int64} (hl : sm_lg ls i = some (.inr (.inl x))) (hd : decode cc pc = .ok (.lload_n i, 1)) (k : sm_Go p l e R s m args below meth c Q G nL (b, pc + 1, M, ls, .inr (.inl x) :: r)) : sm_Go p l e R s m args below meth c Q G nL (b, pc, M, ls, r) := fun H locs LS cells slots h =>
  lv_lload_n hx hb hd rfl (h.2.2.1.2.2.2 _ _ hl) (k H locs LS cells slots (h.to fun q => sm_okl_cons.mpr ⟨trivial, q⟩))
theorem sd_lload (hx : p.tables.exec = Jvm.exec) (hb : c.code = cc) {i : Nat} {x : Int64} (hl : sm_lg ls i = some (.inr (.inl x))) (hd : decode cc pc = .ok (.lload i, 2)) (k : sm_Go p l e R s m args below meth c Q G nL (b, pc + 2, M, ls, .inr (.inl x) :: r)) : sm_Go p l e R s m args below meth c Q G nL (b, pc, M, ls, r) := fun H locs LS cells slots h =>
  lv_lload hx hb hd (h.2.2.1.2.2.2 _ _ hl) (k H locs LS cells slots (h.to fun q => sm_okl_cons.mpr ⟨trivial, q⟩))
theorem sd_aload_n (hx : p.tables.exec = Jvm.exec) (hb : c.code = cc) {i : Fin 4} {x : sm_N} (hl : sm_lg ls i = some (.inr (.inr x))) (hd : decode cc pc = .ok (.aload_n i, 1)) (k : sm_Go p l e R s m args below meth c Q G nL (b, pc + 1, M, ls, .inr (.inr x) :: r)) : sm_Go p l e R s m args below meth c Q G nL (b, pc, M, ls, r) := fun H locs LS cells slots h =>
  lv_aload_n hx hb hd rfl (h.2.2.1.2.2.2 _ _ hl) (k H locs LS cells slots (h.to fun q => sm_okl_cons.mpr ⟨h.2.2.2.1 _ _ hl, q⟩))
theorem sd_aload (hx : p.tables.exec = Jvm.exec) (hb : c.code = cc) {i : Nat} {x : sm_N} (hl : sm_lg ls i = some (.inr (.inr x))) (hd : decode cc pc = .ok (.aload i, 2)) (k : sm_Go p l e R s m args below meth c Q G nL (b, pc + 2, M, ls, .inr (.inr x) :: r)) : sm_Go p l e R s m args below meth c Q G nL (b, pc, M, ls, r) := fun H locs LS cells slots h =>
  lv_aload hx hb hd (h.2.2.1.2.2.2 _ _ hl) (k H locs LS cells slots (h.to fun q => sm_okl_cons.mpr ⟨h.2.2.2.1 _ _ hl, q⟩))
theorem sm_s1_some {i : Nat} {v : sm_V} {l1 : sm_L} (h : sm_s1 ls i v = some l1) : i < ls.length ∧ sm_lk ls i = true ∧ l1 = ls.set i (some v) := by
  unfold sm_s1 sm_g at h
  split at h
  · rename_i hc
    cases h
    exact ⟨hc.1, hc.2, rfl⟩
  · cases h
theorem sm_s2_some {i : Nat} {v : sm_V} {l1 : sm_L} (h : sm_s2 ls i v = some l1) : i + 1 < ls.length ∧ sm_lk ls i = true ∧ l1 = (ls.set i (some v)).set (i + 1) none := by
  unfold sm_s2 sm_g at h
  split at h
  · rename_i hc
    cases h
    exact ⟨hc.1, hc.2, rfl⟩
  · cases h
theorem sd_istore_n (hx : p.tables.exec = Jvm.exec) (hb : c.code = cc) {i : Fin 4} {x : Int32} {l1 : sm_L} (hl : sm_s1 ls i (.inl x) = some l1) (hd : decode cc pc = .ok (.istore_n i, 1)) (k : sm_Go p l e R s m args below meth c Q G nL (b, pc + 1, M, l1, r)) : sm_Go p l e R s m args below meth c Q G nL (b, pc, M, ls, .inl x :: r) := fun H locs LS cells slots h => by
  obtain ⟨h1, h2, rfl⟩ := sm_s1_some hl
  exact lv_istore_n hx hb hd rfl h.2.2.1.has (by rw [← h.2.2.1.1]; exact h1) rfl fun LS1 hl1 => k H locs LS1 cells slots (h.ls (h.2.2.1.set1 h2 hl1) (h.2.2.2.1.set trivial) fun q => (sm_okl_cons.mp q).2)
theorem sd_istore (hx : p.tables.exec = Jvm.exec) (hb : c.code = cc) {i : Nat} {x : Int32} {l1 : sm_L} (hl : sm_s1 ls i (.inl x) = some l1) (hd : decode cc pc = .ok (.istore i, 2)) (k : sm_Go p l e R s m args below meth c Q G nL (b, pc + 2, M, l1, r)) : sm_Go p l e R s m args below meth c Q G nL (b, pc, M, ls, .inl x :: r) := fun H locs LS cells slots h => by
  obtain ⟨h1, h2, rfl⟩ := sm_s1_some hl
  exact lv_istore hx hb hd h.2.2.1.has (by rw [← h.2.2.1.1]; exact h1) rfl fun LS1 hl1 => k H locs LS1 cells slots (h.ls (h.2.2.1.set1 h2 hl1) (h.2.2.2.1.set trivial) fun q => (sm_okl_cons.mp q).2)
theorem sd_lstore_n (hx : p.tables.exec = Jvm.exec) (hb : c.code = cc) {i : Fin 4} {x : Int64} {l1 : sm_L} (hl : sm_s2 ls i (.inr (.inl x)) = some l1) (hd : decode cc pc = .ok (.lstore_n i, 1)) (k : sm_Go p l e R s m args below meth c Q G nL (b, pc + 1, M, l1, r)) : sm_Go p l e R s m args below meth c Q G nL (b, pc, M, ls, .inr (.inl x) :: r) := fun H locs LS cells slots h => by
  obtain ⟨h1, h2, rfl⟩ := sm_s2_some hl
  exact lv_lstore_n hx hb hd rfl h.2.2.1.has (by rw [← h.2.2.1.1]; exact h1) rfl fun LS1 hl1 => k H locs LS1 cells slots (h.ls (h.2.2.1.set2 h2 hl1) ((sm_okm.set (w := .inr (.inl x)) h.2.2.2.1 trivial).non) fun q => (sm_okl_cons.mp q).2)
theorem sd_lstore (hx : p.tables.exec = Jvm.exec) (hb : c.code = cc) {i : Nat} {x : Int64} {l1 : sm_L} (hl : sm_s2 ls i (.inr (.inl x)) = some l1) (hd : decode cc pc = .ok (.lstore i, 2)) (k : sm_Go p l e R s m args below meth c Q G nL (b, pc + 2, M, l1, r)) : sm_Go p l e R s m args below meth c Q G nL (b, pc, M, ls, .inr (.inl x) :: r) := fun H locs LS cells slots h => by
  obtain ⟨h1, h2, rfl⟩ := sm_s2_some hl
  exact lv_lstore hx hb hd h.2.2.1.has (by rw [← h.2.2.1.1]; exact h1) rfl fun LS1 hl1 => k H locs LS1 cells slots (h.ls (h.2.2.1.set2 h2 hl1) ((sm_okm.set (w := .inr (.inl x)) h.2.2.2.1 trivial).non) fun q => (sm_okl_cons.mp q).2)
theorem sd_astore_n (hx : p.tables.exec = Jvm.exec) (hb : c.code = cc) {i : Fin 4} {x : sm_N} {l1 : sm_L} (hl : sm_s1 ls i (.inr (.inr x)) = some l1) (hd : decode cc pc = .ok (.astore_n i, 1)) (k : sm_Go p l e R s m args below meth c Q G nL (b, pc + 1, M, l1, r)) : sm_Go p l e R s m args below meth c Q G nL (b, pc, M, ls, .inr (.inr x) :: r) := fun H locs LS cells slots h => by
  obtain ⟨h1, h2, rfl⟩ := sm_s1_some hl
  exact lv_astore_n hx hb hd rfl h.2.2.1.has (by rw [← h.2.2.1.1]; exact h1) rfl fun LS1 hl1 => k H locs LS1 cells slots (h.ls (h.2.2.1.set1 h2 hl1) (h.2.2.2.1.set (sm_okl_cons.mp h.2.2.2.2.1).1) fun q => (sm_okl_cons.mp q).2)
theorem sd_astore (hx : p.tables.exec = Jvm.exec) (hb : c.code = cc) {i : Nat} {x : sm_N} {l1 : sm_L} (hl : sm_s1 ls i (.inr (.inr x)) = some l1) (hd : decode cc pc = .ok (.astore i, 2)) (k : sm_Go p l e R s m args below meth c Q G nL (b, pc + 2, M, l1, r)) : sm_Go p l e R s m args below meth c Q G nL (b, pc, M, ls, .inr (.inr x) :: r) := fun H locs LS cells slots h => by
  obtain ⟨h1, h2, rfl⟩ := sm_s1_some hl
  exact lv_astore hx hb hd h.2.2.1.has (by rw [← h.2.2.1.1]; exact h1) rfl fun LS1 hl1 => k H locs LS1 cells slots (h.ls (h.2.2.1.set1 h2 hl1) (h.2.2.2.1.set (sm_okl_cons.mp h.2.2.2.2.1).1) fun q => (sm_okl_cons.mp q).2)
theorem sd_iinc (hx : p.tables.exec = Jvm.exec) (hb : c.code = cc) {i : Nat} {n : Int} {x : Int32} {l1 : sm_L} (hi : sm_lg ls i = some (.inl x)) (hl : sm_s1 ls i (.inl (x + Int32.ofInt n)) = some l1) (hd : decode cc pc = .ok (.iinc i n, 3)) (k : sm_Go p l e R s m args below meth c Q G nL (b, pc + 3, M, l1, r)) : sm_Go p l e R s m args below meth c Q G nL (b, pc, M, ls, r) := fun H locs LS cells slots h => by
  obtain ⟨h1, h2, rfl⟩ := sm_s1_some hl
  obtain ⟨q, hq⟩ := List.getElem?_of_mem (sm_al_mem (G := G) hi)
  exact lv_iinc hx hb hd h.2.2.1.has hq rfl (by rw [← h.2.2.1.1]; exact h1) rfl fun LS1 hl1 => k H locs LS1 cells slots (h.ls (h.2.2.1.set1 h2 hl1) (h.2.2.2.1.set trivial) fun q => q)
theorem sd_iadd (hx : p.tables.exec = Jvm.exec) (hb : c.code = cc) {x y : Int32} (hd : decode cc pc = .ok (.iadd, 1)) (k : sm_Go p l e R s m args below meth c Q G nL (b, pc + 1, M, ls, .inl (x + y) :: r)) : sm_Go p l e R s m args below meth c Q G nL (b, pc, M, ls, .inl y :: .inl x :: r) := fun H locs LS cells slots h =>
  lv_iadd hx hb hd (k H locs LS cells slots (h.to fun q => by simpa only [sm_okl_cons, sm_okv_i, sm_okv_l, true_and] using q))
theorem sd_isub (hx : p.tables.exec = Jvm.exec) (hb : c.code = cc) {x y : Int32} (hd : decode cc pc = .ok (.isub, 1)) (k : sm_Go p l e R s m args below meth c Q G nL (b, pc + 1, M, ls, .inl (x - y) :: r)) : sm_Go p l e R s m args below meth c Q G nL (b, pc, M, ls, .inl y :: .inl x :: r) := fun H locs LS cells slots h =>
  lv_isub hx hb hd (k H locs LS cells slots (h.to fun q => by simpa only [sm_okl_cons, sm_okv_i, sm_okv_l, true_and] using q))
theorem sd_imul (hx : p.tables.exec = Jvm.exec) (hb : c.code = cc) {x y : Int32} (hd : decode cc pc = .ok (.imul, 1)) (k : sm_Go p l e R s m args below meth c Q G nL (b, pc + 1, M, ls, .inl (x * y) :: r)) : sm_Go p l e R s m args below meth c Q G nL (b, pc, M, ls, .inl y :: .inl x :: r) := fun H locs LS cells slots h =>
  lv_imul hx hb hd (k H locs LS cells slots (h.to fun q => by simpa only [sm_okl_cons, sm_okv_i, sm_okv_l, true_and] using q))
theorem sd_iand (hx : p.tables.exec = Jvm.exec) (hb : c.code = cc) {x y : Int32} (hd : decode cc pc = .ok (.iand, 1)) (k : sm_Go p l e R s m args below meth c Q G nL (b, pc + 1, M, ls, .inl (x &&& y) :: r)) : sm_Go p l e R s m args below meth c Q G nL (b, pc, M, ls, .inl y :: .inl x :: r) := fun H locs LS cells slots h =>
  lv_iand hx hb hd (k H locs LS cells slots (h.to fun q => by simpa only [sm_okl_cons, sm_okv_i, sm_okv_l, true_and] using q))
theorem sd_ior (hx : p.tables.exec = Jvm.exec) (hb : c.code = cc) {x y : Int32} (hd : decode cc pc = .ok (.ior, 1)) (k : sm_Go p l e R s m args below meth c Q G nL (b, pc + 1, M, ls, .inl (x ||| y) :: r)) : sm_Go p l e R s m args below meth c Q G nL (b, pc, M, ls, .inl y :: .inl x :: r) := fun H locs LS cells slots h =>
  lv_ior hx hb hd (k H locs LS cells slots (h.to fun q => by simpa only [sm_okl_cons, sm_okv_i, sm_okv_l, true_and] using q))
theorem sd_ishl (hx : p.tables.exec = Jvm.exec) (hb : c.code = cc) {x y : Int32} (hd : decode cc pc = .ok (.ishl, 1)) (k : sm_Go p l e R s m args below meth c Q G nL (b, pc + 1, M, ls, .inl (x <<< (y &&& 31)) :: r)) : sm_Go p l e R s m args below meth c Q G nL (b, pc, M, ls, .inl y :: .inl x :: r) := fun H locs LS cells slots h =>
  lv_ishl hx hb hd (k H locs LS cells slots (h.to fun q => by simpa only [sm_okl_cons, sm_okv_i, sm_okv_l, true_and] using q))
theorem sd_idiv (hx : p.tables.exec = Jvm.exec) (hb : c.code = cc) {x y : Int32} (hn : ¬ y = 0) (hd : decode cc pc = .ok (.idiv, 1)) (k : sm_Go p l e R s m args below meth c Q G nL (b, pc + 1, M, ls, .inl (x / y) :: r)) : sm_Go p l e R s m args below meth c Q G nL (b, pc, M, ls, .inl y :: .inl x :: r) := fun H locs LS cells slots h =>
  lv_idiv hx hb hd hn (k H locs LS cells slots (h.to fun q => by simpa only [sm_okl_cons, sm_okv_i, sm_okv_l, true_and] using q))
theorem sd_irem (hx : p.tables.exec = Jvm.exec) (hb : c.code = cc) {x y : Int32} (hn : ¬ y = 0) (hd : decode cc pc = .ok (.irem, 1)) (k : sm_Go p l e R s m args below meth c Q G nL (b, pc + 1, M, ls, .inl (x - x / y * y) :: r)) : sm_Go p l e R s m args below meth c Q G nL (b, pc, M, ls, .inl y :: .inl x :: r) := fun H locs LS cells slots h =>
  lv_irem hx hb hd hn (k H locs LS cells slots (h.to fun q => by simpa only [sm_okl_cons, sm_okv_i, sm_okv_l, true_and] using q))
theorem sd_ineg (hx : p.tables.exec = Jvm.exec) (hb : c.code = cc) {x : Int32} (hd : decode cc pc = .ok (.ineg, 1)) (k : sm_Go p l e R s m args below meth c Q G nL (b, pc + 1, M, ls, .inl (-x) :: r)) : sm_Go p l e R s m args below meth c Q G nL (b, pc, M, ls, .inl x :: r) := fun H locs LS cells slots h =>
  lv_ineg hx hb hd (k H locs LS cells slots (h.to fun q => by simpa only [sm_okl_cons, sm_okv_i, sm_okv_l, true_and] using q))
theorem sd_ladd (hx : p.tables.exec = Jvm.exec) (hb : c.code = cc) {x y : Int64} (hd : decode cc pc = .ok (.ladd, 1)) (k : sm_Go p l e R s m args below meth c Q G nL (b, pc + 1, M, ls, .inr (.inl (x + y)) :: r)) : sm_Go p l e R s m args below meth c Q G nL (b, pc, M, ls, .inr (.inl y) :: .inr (.inl x) :: r) := fun H locs LS cells slots h =>
  lv_ladd hx hb hd (k H locs LS cells slots (h.to fun q => by simpa only [sm_okl_cons, sm_okv_i, sm_okv_l, true_and] using q))
theorem sd_lsub (hx : p.tables.exec = Jvm.exec) (hb : c.code = cc) {x y : Int64} (hd : decode cc pc = .ok (.lsub, 1)) (k : sm_Go p l e R s m args below meth c Q G nL (b, pc + 1, M, ls, .inr (.inl (x - y)) :: r)) : sm_Go p l e R s m args below meth c Q G nL (b, pc, M, ls, .inr (.inl y) :: .inr (.inl x) :: r) := fun H locs LS cells slots h =>
  lv_lsub hx hb hd (k H locs LS cells slots (h.to fun q => by simpa only [sm_okl_cons, sm_okv_i, sm_okv_l, true_and] using q))
theorem sd_lmul (hx : p.tables.exec = Jvm.exec) (hb : c.code = cc) {x y : Int64} (hd : decode cc pc = .ok (.lmul, 1)) (k : sm_Go p l e R s m args below meth c Q G nL (b, pc + 1, M, ls, .inr (.inl (x * y)) :: r)) : sm_Go p l e R s m args below meth c Q G nL (b, pc, M, ls, .inr (.inl y) :: .inr (.inl x) :: r) := fun H locs LS cells slots h =>
  lv_lmul hx hb hd (k H locs LS cells slots (h.to fun q => by simpa only [sm_okl_cons, sm_okv_i, sm_okv_l, true_and] using q))
theorem sd_land (hx : p.tables.exec = Jvm.exec) (hb : c.code = cc) {x y : Int64} (hd : decode cc pc = .ok (.land, 1)) (k : sm_Go p l e R s m args below meth c Q G nL (b, pc + 1, M, ls, .inr (.inl (x &&& y)) :: r)) : sm_Go p l e R s m args below meth c Q G nL (b, pc, M, ls, .inr (.inl y) :: .inr (.inl x) :: r) := fun H locs LS cells slots h =>
  lv_land hx hb hd (k H locs LS cells slots (h.to fun q => by simpa only [sm_okl_cons, sm_okv_i, sm_okv_l, true_and] using q))
theorem sd_lor (hx : p.tables.exec = Jvm.exec) (hb : c.code = cc) {x y : Int64} (hd : decode cc pc = .ok (.lor, 1)) (k : sm_Go p l e R s m args below meth c Q G nL (b, pc + 1, M, ls, .inr (.inl (x ||| y)) :: r)) : sm_Go p l e R s m args below meth c Q G nL (b, pc, M, ls, .inr (.inl y) :: .inr (.inl x) :: r) := fun H locs LS cells slots h =>
  lv_lor hx hb hd (k H locs LS cells slots (h.to fun q => by simpa only [sm_okl_cons, sm_okv_i, sm_okv_l, true_and] using q))
theorem sd_ldiv (hx : p.tables.exec = Jvm.exec) (hb : c.code = cc) {x y : Int64} (hn : ¬ y = 0) (hd : decode cc pc = .ok (.ldiv, 1)) (k : sm_Go p l e R s m args below meth c Q G nL (b, pc + 1, M, ls, .inr (.inl (x / y)) :: r)) : sm_Go p l e R s m args below meth c Q G nL (b, pc, M, ls, .inr (.inl y) :: .inr (.inl x) :: r) := fun H locs LS cells slots h =>
  lv_ldiv hx hb hd hn (k H locs LS cells slots (h.to fun q => by simpa only [sm_okl_cons, sm_okv_i, sm_okv_l, true_and] using q))
theorem sd_lrem (hx : p.tables.exec = Jvm.exec) (hb : c.code = cc) {x y : Int64} (hn : ¬ y = 0) (hd : decode cc pc = .ok (.lrem, 1)) (k : sm_Go p l e R s m args below meth c Q G nL (b, pc + 1, M, ls, .inr (.inl (x - x / y * y)) :: r)) : sm_Go p l e R s m args below meth c Q G nL (b, pc, M, ls, .inr (.inl y) :: .inr (.inl x) :: r) := fun H locs LS cells slots h =>
  lv_lrem hx hb hd hn (k H locs LS cells slots (h.to fun q => by simpa only [sm_okl_cons, sm_okv_i, sm_okv_l, true_and] using q))
theorem sd_lshl (hx : p.tables.exec = Jvm.exec) (hb : c.code = cc) {x : Int64} {y : Int32} (hd : decode cc pc = .ok (.lshl, 1)) (k : sm_Go p l e R s m args below meth c Q G nL (b, pc + 1, M, ls, .inr (.inl (x <<< (y.toInt64 &&& 63))) :: r)) : sm_Go p l e R s m args below meth c Q G nL (b, pc, M, ls, .inl y :: .inr (.inl x) :: r) := fun H locs LS cells slots h =>
  lv_lshl hx hb hd rfl (k H locs LS cells slots (h.to fun q => by simpa only [sm_okl_cons, sm_okv_i, sm_okv_l, true_and] using q))
theorem sd_lushr (hx : p.tables.exec = Jvm.exec) (hb : c.code = cc) {x : Int64} {y : Int32} (hd : decode cc pc = .ok (.lushr, 1)) (k : sm_Go p l e R s m args below meth c Q G nL (b, pc + 1, M, ls, .inr (.inl (x.toUInt64 >>> (y.toInt64.toUInt64 &&& Int64.toUInt64 63)).toInt64) :: r)) : sm_Go p l e R s m args below meth c Q G nL (b, pc, M, ls, .inl y :: .inr (.inl x) :: r) := fun H locs LS cells slots h =>
  lv_lushr hx hb hd rfl (k H locs LS cells slots (h.to fun q => by simpa only [sm_okl_cons, sm_okv_i, sm_okv_l, true_and] using q))
theorem sd_lcmp (hx : p.tables.exec = Jvm.exec) (hb : c.code = cc) {x y : Int64} (hd : decode cc pc = .ok (.lcmp, 1)) (k : sm_Go p l e R s m args below meth c Q G nL (b, pc + 1, M, ls, .inl (lg_cmp x y) :: r)) : sm_Go p l e R s m args below meth c Q G nL (b, pc, M, ls, .inr (.inl y) :: .inr (.inl x) :: r) := fun H locs LS cells slots h =>
  W.lcmp hx hb hd (k H locs LS cells slots (h.to fun q => by simpa only [sm_okl_cons, sm_okv_i, sm_okv_l, true_and] using q))
theorem sd_i2l (hx : p.tables.exec = Jvm.exec) (hb : c.code = cc) {x : Int32} (hd : decode cc pc = .ok (.i2l, 1)) (k : sm_Go p l e R s m args below meth c Q G nL (b, pc + 1, M, ls, .inr (.inl x.toInt64) :: r)) : sm_Go p l e R s m args below meth c Q G nL (b, pc, M, ls, .inl x :: r) := fun H locs LS cells slots h =>
  lv_i2l hx hb hd rfl (k H locs LS cells slots (h.to fun q => by simpa only [sm_okl_cons, sm_okv_i, sm_okv_l, true_and] using q))
theorem sd_l2i (hx : p.tables.exec = Jvm.exec) (hb : c.code = cc) {x : Int64} (hd : decode cc pc = .ok (.l2i, 1)) (k : sm_Go p l e R s m args below meth c Q G nL (b, pc + 1, M, ls, .inl x.toInt32 :: r)) : sm_Go p l e R s m args below meth c Q G nL (b, pc, M, ls, .inr (.inl x) :: r) := fun H locs LS cells slots h =>
  lv_l2i hx hb hd rfl (k H locs LS cells slots (h.to fun q => by simpa only [sm_okl_cons, sm_okv_i, sm_okv_l, true_and] using q))
theorem sd_i2c (hx : p.tables.exec = Jvm.exec) (hb : c.code = cc) {x : Int32} (hd : decode cc pc = .ok (.i2c, 1)) (k : sm_Go p l e R s m args below meth c Q G nL (b, pc + 1, M, ls, .inl (x.toUInt32 % 65536).toInt32 :: r)) : sm_Go p l e R s m args below meth c Q G nL (b, pc, M, ls, .inl x :: r) := fun H locs LS cells slots h =>
  lv_i2c hx hb hd rfl (k H locs LS cells slots (h.to fun q => by simpa only [sm_okl_cons, sm_okv_i, sm_okv_l, true_and] using q))
theorem sd_dup (hx : p.tables.exec = Jvm.exec) (hb : c.code = cc) {v : sm_V} (hv : sm_c1 v = true) (hd : decode cc pc = .ok (.dup, 1)) (k : sm_Go p l e R s m args below meth c Q G nL (b, pc + 1, M, ls, v :: v :: r)) : sm_Go p l e R s m args below meth c Q G nL (b, pc, M, ls, v :: r) := fun H locs LS cells slots h =>
  lv_dup hx hb hd (sm_cat hv) (k H locs LS cells slots (h.to fun q => sm_okl_cons.mpr ⟨(sm_okl_cons.mp q).1, q⟩))
theorem sd_pop (hx : p.tables.exec = Jvm.exec) (hb : c.code = cc) {v : sm_V} (hv : sm_c1 v = true) (hd : decode cc pc = .ok (.pop, 1)) (k : sm_Go p l e R s m args below meth c Q G nL (b, pc + 1, M, ls, r)) : sm_Go p l e R s m args below meth c Q G nL (b, pc, M, ls, v :: r) := fun H locs LS cells slots h =>
  lv_pop hx hb hd (sm_cat hv) (k H locs LS cells slots (h.to fun q => (sm_okl_cons.mp q).2))
theorem sd_dup2 (hx : p.tables.exec = Jvm.exec) (hb : c.code = cc) {v w : sm_V} (hv : sm_c1 v = true) (hw : sm_c1 w = true) (hd : decode cc pc = .ok (.dup2, 1)) (k : sm_Go p l e R s m args below meth c Q G nL (b, pc + 1, M, ls, v :: w :: v :: w :: r)) : sm_Go p l e R s m args below meth c Q G nL (b, pc, M, ls, v :: w :: r) := fun H locs LS cells slots h =>
  lv_dup2_11 hx hb hd (sm_cat hv) (sm_cat hw) (k H locs LS cells slots (h.to fun q => sm_okl_cons.mpr ⟨(sm_okl_cons.mp q).1, sm_okl_cons.mpr ⟨(sm_okl_cons.mp (sm_okl_cons.mp q).2).1, q⟩⟩))
theorem sd_goto (hx : p.tables.exec = Jvm.exec) (hb : c.code = cc) {off : Int} {tgt : Nat} (ht : (pc : Int) + off = (tgt : Int)) (hd : decode cc pc = .ok (.goto off, 3)) (k : sm_Go p l e R s m args below meth c Q G nL (b, tgt, M, ls, r)) : sm_Go p l e R s m args below meth c Q G nL (b, pc, M, ls, r) := fun H locs LS cells slots h =>
  lv_goto hx hb hd ht (k H locs LS cells slots (h.to fun q => q))
theorem sd_if_eq (hx : p.tables.exec = Jvm.exec) (hb : c.code = cc) {x : Int32} {off : Int} {tgt : Nat} (ht : (pc : Int) + off = (tgt : Int)) (hd : decode cc pc = .ok (.ifCond .eq off, 3)) (kt : x = 0 → sm_Go p l e R s m args below meth c Q G nL (b, tgt, M, ls, r)) (kf : ¬ (x = 0) → sm_Go p l e R s m args below meth c Q G nL (b, pc + 3, M, ls, r)) : sm_Go p l e R s m args below meth c Q G nL (b, pc, M, ls, .inl x :: r) := fun H locs LS cells slots h => by
  have h1 : ∀ pc1, sm_Rl R s G nL (b, pc1, M, ls, r) H locs LS cells slots := fun pc1 => h.to fun q => by simpa only [sm_okl_cons, sm_okv_i, true_and] using q
  exact lv_if_eq hx hb hd ht (fun q => kt q H locs LS cells slots (h1 _)) (fun q => kf q H locs LS cells slots (h1 _))
theorem sd_icmp_eq (hx : p.tables.exec = Jvm.exec) (hb : c.code = cc) {x y : Int32} {off : Int} {tgt : Nat} (ht : (pc : Int) + off = (tgt : Int)) (hd : decode cc pc = .ok (.if_icmp .eq off, 3)) (kt : x = y → sm_Go p l e R s m args below meth c Q G nL (b, tgt, M, ls, r)) (kf : ¬ (x = y) → sm_Go p l e R s m args below meth c Q G nL (b, pc + 3, M, ls, r)) : sm_Go p l e R s m args below meth c Q G nL (b, pc, M, ls, .inl y :: .inl x :: r) := fun H locs LS cells slots h => by
  have h1 : ∀ pc1, sm_Rl R s G nL (b, pc1, M, ls, r) H locs LS cells slots := fun pc1 => h.to fun q => by simpa only [sm_okl_cons, sm_okv_i, true_and] using q
  exact lv_icmp_eq hx hb hd ht (fun q => kt q H locs LS cells slots (h1 _)) (fun q => kf q H locs LS cells slots (h1 _))
theorem sd_if_ne (hx : p.tables.exec = Jvm.exec) (hb : c.code = cc) {x : Int32} {off : Int} {tgt : Nat} (ht : (pc : Int) + off = (tgt : Int)) (hd : decode cc pc = .ok (.ifCond .ne off, 3)) (kt : ¬ x = 0 → sm_Go p l e R s m args below meth c Q G nL (b, tgt, M, ls, r)) (kf : ¬ (¬ x = 0) → sm_Go p l e R s m args below meth c Q G nL (b, pc + 3, M, ls, r)) : sm_Go p l e R s m args below meth c Q G nL (b, pc, M, ls, .inl x :: r) := fun H locs LS cells slots h => by
  have h1 : ∀ pc1, sm_Rl R s G nL (b, pc1, M, ls, r) H locs LS cells slots := fun pc1 => h.to fun q => by simpa only [sm_okl_cons, sm_okv_i, true_and] using q
  exact lv_if_ne hx hb hd ht (fun q => kt q H locs LS cells slots (h1 _)) (fun q => kf (fun n => n q) H locs LS cells slots (h1 _))
theorem sd_icmp_ne (hx : p.tables.exec = Jvm.exec) (hb : c.code = cc) {x y : Int32} {off : Int} {tgt : Nat} (ht : (pc : Int) + off = (tgt : Int)) (hd : decode cc pc = .ok (.if_icmp .ne off, 3)) (kt : ¬ x = y → sm_Go p l e R s m args below meth c Q G nL (b, tgt, M, ls, r)) (kf : ¬ (¬ x = y) → sm_Go p l e R s m args below meth c Q G nL (b, pc + 3, M, ls, r)) : sm_Go p l e R s m args below meth c Q G nL (b, pc, M, ls, .inl y :: .inl x :: r) := fun H locs LS cells slots h => by
  have h1 : ∀ pc1, sm_Rl R s G nL (b, pc1, M, ls, r) H locs LS cells slots := fun pc1 => h.to fun q => by simpa only [sm_okl_cons, sm_okv_i, true_and] using q
  exact lv_icmp_ne hx hb hd ht (fun q => kt q H locs LS cells slots (h1 _)) (fun q => kf (fun n => n q) H locs LS cells slots (h1 _))
theorem sd_if_lt (hx : p.tables.exec = Jvm.exec) (hb : c.code = cc) {x : Int32} {off : Int} {tgt : Nat} (ht : (pc : Int) + off = (tgt : Int)) (hd : decode cc pc = .ok (.ifCond .lt off, 3)) (kt : x < 0 → sm_Go p l e R s m args below meth c Q G nL (b, tgt, M, ls, r)) (kf : ¬ (x < 0) → sm_Go p l e R s m args below meth c Q G nL (b, pc + 3, M, ls, r)) : sm_Go p l e R s m args below meth c Q G nL (b, pc, M, ls, .inl x :: r) := fun H locs LS cells slots h => by
  have h1 : ∀ pc1, sm_Rl R s G nL (b, pc1, M, ls, r) H locs LS cells slots := fun pc1 => h.to fun q => by simpa only [sm_okl_cons, sm_okv_i, true_and] using q
  exact lv_if_lt hx hb hd ht (fun q => kt q H locs LS cells slots (h1 _)) (fun q => kf q H locs LS cells slots (h1 _))
theorem sd_icmp_lt (hx : p.tables.exec = Jvm.exec) (hb : c.code = cc) {x y : Int32} {off : Int} {tgt : Nat} (ht : (pc : Int) + off = (tgt : Int)) (hd : decode cc pc = .ok (.if_icmp .lt off, 3)) (kt : x < y → sm_Go p l e R s m args below meth c Q G nL (b, tgt, M, ls, r)) (kf : ¬ (x < y) → sm_Go p l e R s m args below meth c Q G nL (b, pc + 3, M, ls, r)) : sm_Go p l e R s m args below meth c Q G nL (b, pc, M, ls, .inl y :: .inl x :: r) := fun H locs LS cells slots h => by
  have h1 : ∀ pc1, sm_Rl R s G nL (b, pc1, M, ls, r) H locs LS cells slots := fun pc1 => h.to fun q => by simpa only [sm_okl_cons, sm_okv_i, true_and] using q
  exact lv_icmp_lt hx hb hd ht (fun q => kt q H locs LS cells slots (h1 _)) (fun q => kf q H locs LS cells slots (h1 _))
theorem sd_if_ge (hx : p.tables.exec = Jvm.exec) (hb : c.code = cc) {x : Int32} {off : Int} {tgt : Nat} (ht : (pc : Int) + off = (tgt : Int)) (hd : decode cc pc = .ok (.ifCond .ge off, 3)) (kt : 0 ≤ x → sm_Go p l e R s m args below meth c Q G nL (b, tgt, M, ls, r)) (kf : ¬ (0 ≤ x) → sm_Go p l e R s m args below meth c Q G nL (b, pc + 3, M, ls, r)) : sm_Go p l e R s m args below meth c Q G nL (b, pc, M, ls, .inl x :: r) := fun H locs LS cells slots h => by
  have h1 : ∀ pc1, sm_Rl R s G nL (b, pc1, M, ls, r) H locs LS cells slots := fun pc1 => h.to fun q => by simpa only [sm_okl_cons, sm_okv_i, true_and] using q
  exact lv_if_ge hx hb hd ht (fun q => kt q H locs LS cells slots (h1 _)) (fun q => kf q H locs LS cells slots (h1 _))
theorem sd_icmp_ge (hx : p.tables.exec = Jvm.exec) (hb : c.code = cc) {x y : Int32} {off : Int} {tgt : Nat} (ht : (pc : Int) + off = (tgt : Int)) (hd : decode cc pc = .ok (.if_icmp .ge off, 3)) (kt : y ≤ x → sm_Go p l e R s m args below meth c Q G nL (b, tgt, M, ls, r)) (kf : ¬ (y ≤ x) → sm_Go p l e R s m args below meth c Q G nL (b, pc + 3, M, ls, r)) : sm_Go p l e R s m args below meth c Q G nL (b, pc, M, ls, .inl y :: .inl x :: r) := fun H locs LS cells slots h => by
  have h1 : ∀ pc1, sm_Rl R s G nL (b, pc1, M, ls, r) H locs LS cells slots := fun pc1 => h.to fun q => by simpa only [sm_okl_cons, sm_okv_i, true_and] using q
  exact lv_icmp_ge hx hb hd ht (fun q => kt q H locs LS cells slots (h1 _)) (fun q => kf q H locs LS cells slots (h1 _))
theorem sd_if_gt (hx : p.tables.exec = Jvm.exec) (hb : c.code = cc) {x : Int32} {off : Int} {tgt : Nat} (ht : (pc : Int) + off = (tgt : Int)) (hd : decode cc pc = .ok (.ifCond .gt off, 3)) (kt : 0 < x → sm_Go p l e R s m args below meth c Q G nL (b, tgt, M, ls, r)) (kf : ¬ (0 < x) → sm_Go p l e R s m args below meth c Q G nL (b, pc + 3, M, ls, r)) : sm_Go p l e R s m args below meth c Q G nL (b, pc, M, ls, .inl x :: r) := fun H locs LS cells slots h => by
  have h1 : ∀ pc1, sm_Rl R s G nL (b, pc1, M, ls, r) H locs LS cells slots := fun pc1 => h.to fun q => by simpa only [sm_okl_cons, sm_okv_i, true_and] using q
  exact lv_if_gt hx hb hd ht (fun q => kt q H locs LS cells slots (h1 _)) (fun q => kf q H locs LS cells slots (h1 _))
theorem sd_icmp_gt (hx : p.tables.exec = Jvm.exec) (hb : c.code = cc) {x y : Int32} {off : Int} {tgt : Nat} (ht : (pc : Int) + off = (tgt : Int)) (hd : decode cc pc = .ok (.if_icmp .gt off, 3)) (kt : y < x → sm_Go p l e R s m args below meth c Q G nL (b, tgt, M, ls, r)) (kf : ¬ (y < x) → sm_Go p l e R s m args below meth c Q G nL (b, pc + 3, M, ls, r)) : sm_Go p l e R s m args below meth c Q G nL (b, pc, M, ls, .inl y :: .inl x :: r) := fun H locs LS cells slots h => by
  have h1 : ∀ pc1, sm_Rl R s G nL (b, pc1, M, ls, r) H locs LS cells slots := fun pc1 => h.to fun q => by simpa only [sm_okl_cons, sm_okv_i, true_and] using q
  exact lv_icmp_gt hx hb hd ht (fun q => kt q H locs LS cells slots (h1 _)) (fun q => kf q H locs LS cells slots (h1 _))
theorem sd_if_le (hx : p.tables.exec = Jvm.exec) (hb : c.code = cc) {x : Int32} {off : Int} {tgt : Nat} (ht : (pc : Int) + off = (tgt : Int)) (hd : decode cc pc = .ok (.ifCond .le off, 3)) (kt : x ≤ 0 → sm_Go p l e R s m args below meth c Q G nL (b, tgt, M, ls, r)) (kf : ¬ (x ≤ 0) → sm_Go p l e R s m args below meth c Q G nL (b, pc + 3, M, ls, r)) : sm_Go p l e R s m args below meth c Q G nL (b, pc, M, ls, .inl x :: r) := fun H locs LS cells slots h => by
  have h1 : ∀ pc1, sm_Rl R s G nL (b, pc1, M, ls, r) H locs LS cells slots := fun pc1 => h.to fun q => by simpa only [sm_okl_cons, sm_okv_i, true_and] using q
  exact lv_if_le hx hb hd ht (fun q => kt q H locs LS cells slots (h1 _)) (fun q => kf q H locs LS cells slots (h1 _))
theorem sd_icmp_le (hx : p.tables.exec = Jvm.exec) (hb : c.code = cc) {x y : Int32} {off : Int} {tgt : Nat} (ht : (pc : Int) + off = (tgt : Int)) (hd : decode cc pc = .ok (.if_icmp .le off, 3)) (kt : x ≤ y → sm_Go p l e R s m args below meth c Q G nL (b, tgt, M, ls, r)) (kf : ¬ (x ≤ y) → sm_Go p l e R s m args below meth c Q G nL (b, pc + 3, M, ls, r)) : sm_Go p l e R s m args below meth c Q G nL (b, pc, M, ls, .inl y :: .inl x :: r) := fun H locs LS cells slots h => by
  have h1 : ∀ pc1, sm_Rl R s G nL (b, pc1, M, ls, r) H locs LS cells slots := fun pc1 => h.to fun q => by simpa only [sm_okl_cons, sm_okv_i, true_and] using q
  exact lv_icmp_le hx hb hd ht (fun q => kt q H locs LS cells slots (h1 _)) (fun q => kf q H locs LS cells slots (h1 _))
end SMR
