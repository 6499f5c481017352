/-! STEPS: the machine's equations, an instruction each -/
def sm_rg (V : Nat → Nat → Int32) (a : Nat) (P : Nat → Int32) : Nat → Nat → Int32 := fun r => if r = a then P else V r
def sm_pu (P : Nat → Int32) (j : Nat) (x : Int32) : Nat → Int32 := fun q => if q = j then x else P q
def sm_u (V : Nat → Nat → Int32) (a j : Nat) (x : Int32) : Nat → Nat → Int32 := sm_rg V a (sm_pu (V a) j x)
theorem sm_st_u (V : Nat → Nat → Int32) (o : Int64) (a j : Nat) (x : Int32) : sm_st (V, o) a j x = (sm_u V a j x, o) := by
  unfold sm_st sm_u sm_rg sm_pu
  congr 1
  funext r q
  by_cases h : r = a
  · subst h; simp
  · simp [h]
/-- a call's answer handed on -/
def sm_k1 (o : Option sm_O) (K : sm_M → Option sm_V → Option sm_O) : Option sm_O := match o with
  | none => none
  | some (M, .ok v) => K M v
  | some (M, .error x) => some (M, .error x)
/-- .. where the caller has handlers -/
def sm_k2 (o : Option sm_O) (K : sm_M → Option sm_V → Option sm_O) (X : sm_M → Nat → Option sm_O) : Option sm_O := match o with
  | none => none
  | some (M, .ok v) => K M v
  | some (M, .error x) => X M x
theorem sm_k1_ok {M : sm_M} {v : Option sm_V} {K : sm_M → Option sm_V → Option sm_O} : sm_k1 (some (M, .ok v)) K = K M v := rfl
theorem sm_k1_er {M : sm_M} {x : Nat} {K : sm_M → Option sm_V → Option sm_O} : sm_k1 (some (M, .error x)) K = some (M, .error x) := rfl
theorem sm_k2_ok {M : sm_M} {v : Option sm_V} {K : sm_M → Option sm_V → Option sm_O} {X : sm_M → Nat → Option sm_O} : sm_k2 (some (M, .ok v)) K X = K M v := rfl
theorem sm_k2_er {M : sm_M} {x : Nat} {K : sm_M → Option sm_V → Option sm_O} {X : sm_M → Nat → Option sm_O} : sm_k2 (some (M, .error x)) K X = X M x := rfl
theorem nl_i {x : Int32} : sm_nl (some (.inl x)) = true := rfl
theorem nl_r {n : sm_N} : sm_nl (some (.inr (.inr n))) = true := rfl
theorem nl_n : sm_nl none = true := rfl
theorem sm_tl_s {x : sm_V} {r : List sm_V} : (some x).toList ++ r = x :: r := rfl
theorem sm_tl_n {r : List sm_V} : (none : Option sm_V).toList ++ r = r := rfl
section R9
variable {T : sm_T} {b pc : Nat} {V : Nat → Nat → Int32} {o : Int64} {ls : sm_L} {r : List sm_V}
theorem R_in {i : Instr} {len : Nat} {M : sm_M} {S1 : sm_S} (h : sm_tab T pc = some (i, len)) (h1 : sm_op T b pc M ls r len i = some (.inl S1)) : sm_R T (b, pc, M, ls, r) = sm_R T S1 := by
  rw [sm_R_eq]
  have : sm_ex T (b, pc, M, ls, r) = some (.inl S1) := by unfold sm_ex; simp only [h]; exact h1
  rw [this]
theorem R_out {i : Instr} {len : Nat} {M : sm_M} {z : sm_O} (h : sm_tab T pc = some (i, len)) (h1 : sm_op T b pc M ls r len i = some (.inr z)) : sm_R T (b, pc, M, ls, r) = some z := by
  rw [sm_R_eq]
  have : sm_ex T (b, pc, M, ls, r) = some (.inr z) := by unfold sm_ex; simp only [h]; exact h1
  rw [this]
theorem sm_gt {α : Type} {c : Prop} [Decidable c] {x : Option α} (h : c) : sm_g c x = x := by unfold sm_g; rw [if_pos h]
theorem sm_gtt {α : Type} {d : Decidable True} {x : Option α} : @sm_g α True d x = x := by unfold sm_g; rw [if_pos trivial]
theorem R_iconst {n : Int} {v : Int32} (h : sm_tab T pc = some (.iconst n, 1)) (hv : Int32.ofInt n = v) : sm_R T (b, pc, (V, o), ls, r) = sm_R T (b, pc + 1, (V, o), ls, .inl v :: r) := by subst hv; exact R_in h rfl
theorem R_bipush {n : Int} {v : Int32} (h : sm_tab T pc = some (.bipush n, 2)) (hv : (Int8.ofInt n).toInt32 = v) : sm_R T (b, pc, (V, o), ls, r) = sm_R T (b, pc + 2, (V, o), ls, .inl v :: r) := by subst hv; exact R_in h rfl
theorem R_sipush {n : Int} {v : Int32} (h : sm_tab T pc = some (.sipush n, 3)) (hv : (Int16.ofInt n).toInt32 = v) : sm_R T (b, pc, (V, o), ls, r) = sm_R T (b, pc + 3, (V, o), ls, .inl v :: r) := by subst hv; exact R_in h rfl
theorem R_lconst {n : Fin 2} {v : Int64} (h : sm_tab T pc = some (.lconst n, 1)) (hv : Int64.ofNat (n : Nat) = v) : sm_R T (b, pc, (V, o), ls, r) = sm_R T (b, pc + 1, (V, o), ls, .inr (.inl v) :: r) := by subst hv; exact R_in h rfl
theorem R_ldc2 {x : Nat} {v : Int64} (h : sm_tab T pc = some (.ldc2_w x, 3)) (hv : sm_k64 T x = some v) : sm_R T (b, pc, (V, o), ls, r) = sm_R T (b, pc + 3, (V, o), ls, .inr (.inl v) :: r) := R_in h (by simp only [sm_op, hv, sm_gt rfl, sm_gtt]; rfl)
theorem R_ldc {x : Nat} {v : Int32} (h : sm_tab T pc = some (.ldc x, 2)) (hv : sm_k32 T x = some v) : sm_R T (b, pc, (V, o), ls, r) = sm_R T (b, pc + 2, (V, o), ls, .inl v :: r) := R_in h (by simp only [sm_op, hv, sm_gt rfl, sm_gtt]; rfl)
theorem R_ldcw {x : Nat} {v : Int32} (h : sm_tab T pc = some (.ldc_w x, 3)) (hv : sm_k32 T x = some v) : sm_R T (b, pc, (V, o), ls, r) = sm_R T (b, pc + 3, (V, o), ls, .inl v :: r) := R_in h (by simp only [sm_op, hv, sm_gt rfl, sm_gtt]; rfl)
theorem R_newarray (h : sm_tab T pc = some (.newarray .int, 2)) (hx : sm_exn T pc = some 60) (hb : 9 ≤ b) : sm_R T (b, pc, (V, o), ls, [.inl 48]) = sm_R T (b - 9, pc + 2, sm_z6 (V, o), ls.map sm_cl, [.inr (.inr (60, 0, 0))]) := R_in h (by simp only [sm_op, hx, sm_gt rfl, sm_gtt]; exact sm_gt ⟨by trivial, hb⟩)
theorem R_load {i : Instr} {len k : Nat} {v : sm_V} (h : sm_tab T pc = some (i, len)) (hi : (i = .iload k ∧ len = 2 ∧ ∃ x, v = .inl x) ∨ ((∃ q : Fin 4, i = .iload_n q ∧ (q : Nat) = k) ∧ len = 1 ∧ ∃ x, v = .inl x) ∨ (i = .lload k ∧ len = 2 ∧ ∃ x, v = .inr (.inl x)) ∨ ((∃ q : Fin 4, i = .lload_n q ∧ (q : Nat) = k) ∧ len = 1 ∧ ∃ x, v = .inr (.inl x)) ∨ (i = .aload k ∧ len = 2 ∧ ∃ x, v = .inr (.inr x)) ∨ ((∃ q : Fin 4, i = .aload_n q ∧ (q : Nat) = k) ∧ len = 1 ∧ ∃ x, v = .inr (.inr x))) (hl : sm_lg ls k = some v) : sm_R T (b, pc, (V, o), ls, r) = sm_R T (b, pc + len, (V, o), ls, v :: r) := by
  rcases hi with ⟨rfl, rfl, x, rfl⟩ | ⟨⟨q, rfl, rfl⟩, rfl, x, rfl⟩ | ⟨rfl, rfl, x, rfl⟩ | ⟨⟨q, rfl, rfl⟩, rfl, x, rfl⟩ | ⟨rfl, rfl, x, rfl⟩ | ⟨⟨q, rfl, rfl⟩, rfl, x, rfl⟩ <;> exact R_in h (by simp only [sm_op, hl, sm_gt rfl, sm_gtt]; rfl)
theorem R_iload {k : Nat} {x : Int32} (h : sm_tab T pc = some (.iload k, 2)) (hl : sm_lg ls k = some (.inl x)) : sm_R T (b, pc, (V, o), ls, r) = sm_R T (b, pc + 2, (V, o), ls, .inl x :: r) := R_load h (Or.inl ⟨rfl, rfl, x, rfl⟩) hl
theorem R_iload_n {k : Fin 4} {x : Int32} (h : sm_tab T pc = some (.iload_n k, 1)) (hl : sm_lg ls k = some (.inl x)) : sm_R T (b, pc, (V, o), ls, r) = sm_R T (b, pc + 1, (V, o), ls, .inl x :: r) := R_load h (Or.inr (Or.inl ⟨⟨k, rfl, rfl⟩, rfl, x, rfl⟩)) hl
theorem R_lload {k : Nat} {x : Int64} (h : sm_tab T pc = some (.lload k, 2)) (hl : sm_lg ls k = some (.inr (.inl x))) : sm_R T (b, pc, (V, o), ls, r) = sm_R T (b, pc + 2, (V, o), ls, .inr (.inl x) :: r) := R_load h (Or.inr (Or.inr (Or.inl ⟨rfl, rfl, x, rfl⟩))) hl
theorem R_lload_n {k : Fin 4} {x : Int64} (h : sm_tab T pc = some (.lload_n k, 1)) (hl : sm_lg ls k = some (.inr (.inl x))) : sm_R T (b, pc, (V, o), ls, r) = sm_R T (b, pc + 1, (V, o), ls, .inr (.inl x) :: r) := R_load h (Or.inr (Or.inr (Or.inr (Or.inl ⟨⟨k, rfl, rfl⟩, rfl, x, rfl⟩)))) hl
theorem R_aload {k : Nat} {x : sm_N} (h : sm_tab T pc = some (.aload k, 2)) (hl : sm_lg ls k = some (.inr (.inr x))) : sm_R T (b, pc, (V, o), ls, r) = sm_R T (b, pc + 2, (V, o), ls, .inr (.inr x) :: r) := R_load h (Or.inr (Or.inr (Or.inr (Or.inr (Or.inl ⟨rfl, rfl, x, rfl⟩))))) hl
theorem R_aload_n {k : Fin 4} {x : sm_N} (h : sm_tab T pc = some (.aload_n k, 1)) (hl : sm_lg ls k = some (.inr (.inr x))) : sm_R T (b, pc, (V, o), ls, r) = sm_R T (b, pc + 1, (V, o), ls, .inr (.inr x) :: r) := R_load h (Or.inr (Or.inr (Or.inr (Or.inr (Or.inr ⟨⟨k, rfl, rfl⟩, rfl, x, rfl⟩))))) hl
theorem R_istore {k : Nat} {x : Int32} {l1 : sm_L} (h : sm_tab T pc = some (.istore k, 2)) (hl : sm_s1 ls k (.inl x) = some l1) : sm_R T (b, pc, (V, o), ls, .inl x :: r) = sm_R T (b, pc + 2, (V, o), l1, r) := R_in h (by simp only [sm_op, sm_i1, hl, sm_gt rfl, sm_gtt]; rfl)
theorem R_istore_n {k : Fin 4} {x : Int32} {l1 : sm_L} (h : sm_tab T pc = some (.istore_n k, 1)) (hl : sm_s1 ls k (.inl x) = some l1) : sm_R T (b, pc, (V, o), ls, .inl x :: r) = sm_R T (b, pc + 1, (V, o), l1, r) := R_in h (by simp only [sm_op, sm_i1, hl, sm_gt rfl, sm_gtt]; rfl)
theorem R_lstore {k : Nat} {x : Int64} {l1 : sm_L} (h : sm_tab T pc = some (.lstore k, 2)) (hl : sm_s2 ls k (.inr (.inl x)) = some l1) : sm_R T (b, pc, (V, o), ls, .inr (.inl x) :: r) = sm_R T (b, pc + 2, (V, o), l1, r) := R_in h (by simp only [sm_op, sm_l1, hl, sm_gt rfl, sm_gtt]; rfl)
theorem R_lstore_n {k : Fin 4} {x : Int64} {l1 : sm_L} (h : sm_tab T pc = some (.lstore_n k, 1)) (hl : sm_s2 ls k (.inr (.inl x)) = some l1) : sm_R T (b, pc, (V, o), ls, .inr (.inl x) :: r) = sm_R T (b, pc + 1, (V, o), l1, r) := R_in h (by simp only [sm_op, sm_l1, hl, sm_gt rfl, sm_gtt]; rfl)
theorem R_astore {k : Nat} {x : sm_N} {l1 : sm_L} (h : sm_tab T pc = some (.astore k, 2)) (hl : sm_s1 ls k (.inr (.inr x)) = some l1) : sm_R T (b, pc, (V, o), ls, .inr (.inr x) :: r) = sm_R T (b, pc + 2, (V, o), l1, r) := R_in h (by simp only [sm_op, sm_r1, hl, sm_gt rfl, sm_gtt]; rfl)
theorem R_astore_n {k : Fin 4} {x : sm_N} {l1 : sm_L} (h : sm_tab T pc = some (.astore_n k, 1)) (hl : sm_s1 ls k (.inr (.inr x)) = some l1) : sm_R T (b, pc, (V, o), ls, .inr (.inr x) :: r) = sm_R T (b, pc + 1, (V, o), l1, r) := R_in h (by simp only [sm_op, sm_r1, hl, sm_gt rfl, sm_gtt]; rfl)
theorem R_iinc {k : Nat} {n : Int} {x v : Int32} {l1 : sm_L} (h : sm_tab T pc = some (.iinc k n, 3)) (hi : sm_lg ls k = some (.inl x)) (hv : Int32.ofInt n = v) (hl : sm_s1 ls k (.inl (x + v)) = some l1) : sm_R T (b, pc, (V, o), ls, r) = sm_R T (b, pc + 3, (V, o), l1, r) := by subst hv; exact R_in h (by simp only [sm_op, hi, hl, sm_gt rfl, sm_gtt]; rfl)
theorem R_iadd {x y : Int32} (h : sm_tab T pc = some (.iadd, 1)) : sm_R T (b, pc, (V, o), ls, .inl y :: .inl x :: r) = sm_R T (b, pc + 1, (V, o), ls, .inl (x + y) :: r) := R_in h rfl
theorem R_isub {x y : Int32} (h : sm_tab T pc = some (.isub, 1)) : sm_R T (b, pc, (V, o), ls, .inl y :: .inl x :: r) = sm_R T (b, pc + 1, (V, o), ls, .inl (x - y) :: r) := R_in h rfl
theorem R_imul {x y : Int32} (h : sm_tab T pc = some (.imul, 1)) : sm_R T (b, pc, (V, o), ls, .inl y :: .inl x :: r) = sm_R T (b, pc + 1, (V, o), ls, .inl (x * y) :: r) := R_in h rfl
theorem R_iand {x y : Int32} (h : sm_tab T pc = some (.iand, 1)) : sm_R T (b, pc, (V, o), ls, .inl y :: .inl x :: r) = sm_R T (b, pc + 1, (V, o), ls, .inl (x &&& y) :: r) := R_in h rfl
theorem R_ior {x y : Int32} (h : sm_tab T pc = some (.ior, 1)) : sm_R T (b, pc, (V, o), ls, .inl y :: .inl x :: r) = sm_R T (b, pc + 1, (V, o), ls, .inl (x ||| y) :: r) := R_in h rfl
theorem R_ishl {x y : Int32} (h : sm_tab T pc = some (.ishl, 1)) : sm_R T (b, pc, (V, o), ls, .inl y :: .inl x :: r) = sm_R T (b, pc + 1, (V, o), ls, .inl (x <<< (y &&& 31)) :: r) := R_in h rfl
theorem R_idiv {x y : Int32} (h : sm_tab T pc = some (.idiv, 1)) (hn : ¬ y = 0) : sm_R T (b, pc, (V, o), ls, .inl y :: .inl x :: r) = sm_R T (b, pc + 1, (V, o), ls, .inl (x / y) :: r) := R_in h (by simp only [sm_op, sm_i2, sm_l2, sm_gt rfl, sm_gtt, sm_gt hn]; rfl)
theorem R_irem {x y : Int32} (h : sm_tab T pc = some (.irem, 1)) (hn : ¬ y = 0) : sm_R T (b, pc, (V, o), ls, .inl y :: .inl x :: r) = sm_R T (b, pc + 1, (V, o), ls, .inl (x - x / y * y) :: r) := R_in h (by simp only [sm_op, sm_i2, sm_l2, sm_gt rfl, sm_gtt, sm_gt hn]; rfl)
theorem R_ineg {x : Int32} (h : sm_tab T pc = some (.ineg, 1)) : sm_R T (b, pc, (V, o), ls, .inl x :: r) = sm_R T (b, pc + 1, (V, o), ls, .inl (-x) :: r) := R_in h rfl
theorem R_ladd {x y : Int64} (h : sm_tab T pc = some (.ladd, 1)) : sm_R T (b, pc, (V, o), ls, .inr (.inl y) :: .inr (.inl x) :: r) = sm_R T (b, pc + 1, (V, o), ls, .inr (.inl (x + y)) :: r) := R_in h rfl
theorem R_lsub {x y : Int64} (h : sm_tab T pc = some (.lsub, 1)) : sm_R T (b, pc, (V, o), ls, .inr (.inl y) :: .inr (.inl x) :: r) = sm_R T (b, pc + 1, (V, o), ls, .inr (.inl (x - y)) :: r) := R_in h rfl
theorem R_lmul {x y : Int64} (h : sm_tab T pc = some (.lmul, 1)) : sm_R T (b, pc, (V, o), ls, .inr (.inl y) :: .inr (.inl x) :: r) = sm_R T (b, pc + 1, (V, o), ls, .inr (.inl (x * y)) :: r) := R_in h rfl
theorem R_land {x y : Int64} (h : sm_tab T pc = some (.land, 1)) : sm_R T (b, pc, (V, o), ls, .inr (.inl y) :: .inr (.inl x) :: r) = sm_R T (b, pc + 1, (V, o), ls, .inr (.inl (x &&& y)) :: r) := R_in h rfl
theorem R_lor {x y : Int64} (h : sm_tab T pc = some (.lor, 1)) : sm_R T (b, pc, (V, o), ls, .inr (.inl y) :: .inr (.inl x) :: r) = sm_R T (b, pc + 1, (V, o), ls, .inr (.inl (x ||| y)) :: r) := R_in h rfl
theorem R_ldiv {x y : Int64} (h : sm_tab T pc = some (.ldiv, 1)) (hn : ¬ y = 0) : sm_R T (b, pc, (V, o), ls, .inr (.inl y) :: .inr (.inl x) :: r) = sm_R T (b, pc + 1, (V, o), ls, .inr (.inl (x / y)) :: r) := R_in h (by simp only [sm_op, sm_i2, sm_l2, sm_gt rfl, sm_gtt, sm_gt hn]; rfl)
theorem R_lrem {x y : Int64} (h : sm_tab T pc = some (.lrem, 1)) (hn : ¬ y = 0) : sm_R T (b, pc, (V, o), ls, .inr (.inl y) :: .inr (.inl x) :: r) = sm_R T (b, pc + 1, (V, o), ls, .inr (.inl (x - x / y * y)) :: r) := R_in h (by simp only [sm_op, sm_i2, sm_l2, sm_gt rfl, sm_gtt, sm_gt hn]; rfl)
theorem R_lshl {x : Int64} {y : Int32} (h : sm_tab T pc = some (.lshl, 1)) : sm_R T (b, pc, (V, o), ls, .inl y :: .inr (.inl x) :: r) = sm_R T (b, pc + 1, (V, o), ls, .inr (.inl (x <<< (y.toInt64 &&& 63))) :: r) := R_in h rfl
theorem R_lushr {x : Int64} {y : Int32} (h : sm_tab T pc = some (.lushr, 1)) : sm_R T (b, pc, (V, o), ls, .inl y :: .inr (.inl x) :: r) = sm_R T (b, pc + 1, (V, o), ls, .inr (.inl (x.toUInt64 >>> (y.toInt64.toUInt64 &&& Int64.toUInt64 63)).toInt64) :: r) := R_in h rfl
theorem R_lcmp {x y : Int64} (h : sm_tab T pc = some (.lcmp, 1)) : sm_R T (b, pc, (V, o), ls, .inr (.inl y) :: .inr (.inl x) :: r) = sm_R T (b, pc + 1, (V, o), ls, .inl (lg_cmp x y) :: r) := R_in h rfl
theorem R_i2l {x : Int32} (h : sm_tab T pc = some (.i2l, 1)) : sm_R T (b, pc, (V, o), ls, .inl x :: r) = sm_R T (b, pc + 1, (V, o), ls, .inr (.inl x.toInt64) :: r) := R_in h rfl
theorem R_l2i {x : Int64} (h : sm_tab T pc = some (.l2i, 1)) : sm_R T (b, pc, (V, o), ls, .inr (.inl x) :: r) = sm_R T (b, pc + 1, (V, o), ls, .inl x.toInt32 :: r) := R_in h rfl
theorem R_i2c {x : Int32} (h : sm_tab T pc = some (.i2c, 1)) : sm_R T (b, pc, (V, o), ls, .inl x :: r) = sm_R T (b, pc + 1, (V, o), ls, .inl (x.toUInt32 % 65536).toInt32 :: r) := R_in h rfl
theorem R_dupi {x : Int32} (h : sm_tab T pc = some (.dup, 1)) : sm_R T (b, pc, (V, o), ls, .inl x :: r) = sm_R T (b, pc + 1, (V, o), ls, .inl x :: .inl x :: r) := R_in h rfl
theorem R_dupr {x : sm_N} (h : sm_tab T pc = some (.dup, 1)) : sm_R T (b, pc, (V, o), ls, .inr (.inr x) :: r) = sm_R T (b, pc + 1, (V, o), ls, .inr (.inr x) :: .inr (.inr x) :: r) := R_in h rfl
theorem R_popi {x : Int32} (h : sm_tab T pc = some (.pop, 1)) : sm_R T (b, pc, (V, o), ls, .inl x :: r) = sm_R T (b, pc + 1, (V, o), ls, r) := R_in h rfl
theorem R_dup2 {x : Int32} {n : sm_N} (h : sm_tab T pc = some (.dup2, 1)) : sm_R T (b, pc, (V, o), ls, .inl x :: .inr (.inr n) :: r) = sm_R T (b, pc + 1, (V, o), ls, .inl x :: .inr (.inr n) :: .inl x :: .inr (.inr n) :: r) := R_in h rfl
theorem R_goto {off : Int} {tgt : Nat} (h : sm_tab T pc = some (.goto off, 3)) (ht : (pc : Int) + off = (tgt : Int)) : sm_R T (b, pc, (V, o), ls, r) = sm_R T (b, tgt, (V, o), ls, r) := by
  refine R_in h ?_
  simp only [sm_op, sm_gt rfl, sm_gtt, sm_jp, ht]
  rw [sm_gt (Int.natCast_nonneg _)]
  rfl
theorem sm_br_eq {c : Prop} [Decidable c] {off : Int} {tgt : Nat} {M : sm_M} (ht : (pc : Int) + off = (tgt : Int)) : sm_br b pc off M ls r c = some (.inl (if c then (b, tgt, M, ls, r) else (b, pc + 3, M, ls, r))) := by
  unfold sm_br
  rw [ht, sm_gt (Int.natCast_nonneg _)]
  split <;> rfl
theorem sm_R_ite {c : Prop} [Decidable c] {S S1 : sm_S} : sm_R T (if c then S else S1) = if c then sm_R T S else sm_R T S1 := by split <;> rfl
theorem R_if_eq {x : Int32} {off : Int} {tgt : Nat} (h : sm_tab T pc = some (.ifCond .eq off, 3)) (ht : (pc : Int) + off = (tgt : Int)) : sm_R T (b, pc, (V, o), ls, .inl x :: r) = if x = 0 then sm_R T (b, tgt, (V, o), ls, r) else sm_R T (b, pc + 3, (V, o), ls, r) := by
  rw [← sm_R_ite]
  exact R_in h (by simp only [sm_op, sm_i1, sm_i2, sm_gt rfl, sm_gtt, sm_br_eq ht])
theorem R_icmp_eq {x y : Int32} {off : Int} {tgt : Nat} (h : sm_tab T pc = some (.if_icmp .eq off, 3)) (ht : (pc : Int) + off = (tgt : Int)) : sm_R T (b, pc, (V, o), ls, .inl y :: .inl x :: r) = if x = y then sm_R T (b, tgt, (V, o), ls, r) else sm_R T (b, pc + 3, (V, o), ls, r) := by
  rw [← sm_R_ite]
  exact R_in h (by simp only [sm_op, sm_i1, sm_i2, sm_gt rfl, sm_gtt, sm_br_eq ht])
theorem R_if_ne {x : Int32} {off : Int} {tgt : Nat} (h : sm_tab T pc = some (.ifCond .ne off, 3)) (ht : (pc : Int) + off = (tgt : Int)) : sm_R T (b, pc, (V, o), ls, .inl x :: r) = if ¬ x = 0 then sm_R T (b, tgt, (V, o), ls, r) else sm_R T (b, pc + 3, (V, o), ls, r) := by
  rw [← sm_R_ite]
  exact R_in h (by simp only [sm_op, sm_i1, sm_i2, sm_gt rfl, sm_gtt, sm_br_eq ht])
theorem R_icmp_ne {x y : Int32} {off : Int} {tgt : Nat} (h : sm_tab T pc = some (.if_icmp .ne off, 3)) (ht : (pc : Int) + off = (tgt : Int)) : sm_R T (b, pc, (V, o), ls, .inl y :: .inl x :: r) = if ¬ x = y then sm_R T (b, tgt, (V, o), ls, r) else sm_R T (b, pc + 3, (V, o), ls, r) := by
  rw [← sm_R_ite]
  exact R_in h (by simp only [sm_op, sm_i1, sm_i2, sm_gt rfl, sm_gtt, sm_br_eq ht])
theorem R_if_lt {x : Int32} {off : Int} {tgt : Nat} (h : sm_tab T pc = some (.ifCond .lt off, 3)) (ht : (pc : Int) + off = (tgt : Int)) : sm_R T (b, pc, (V, o), ls, .inl x :: r) = if x < 0 then sm_R T (b, tgt, (V, o), ls, r) else sm_R T (b, pc + 3, (V, o), ls, r) := by
  rw [← sm_R_ite]
  exact R_in h (by simp only [sm_op, sm_i1, sm_i2, sm_gt rfl, sm_gtt, sm_br_eq ht])
theorem R_icmp_lt {x y : Int32} {off : Int} {tgt : Nat} (h : sm_tab T pc = some (.if_icmp .lt off, 3)) (ht : (pc : Int) + off = (tgt : Int)) : sm_R T (b, pc, (V, o), ls, .inl y :: .inl x :: r) = if x < y then sm_R T (b, tgt, (V, o), ls, r) else sm_R T (b, pc + 3, (V, o), ls, r) := by
  rw [← sm_R_ite]
  exact R_in h (by simp only [sm_op, sm_i1, sm_i2, sm_gt rfl, sm_gtt, sm_br_eq ht])
theorem R_if_ge {x : Int32} {off : Int} {tgt : Nat} (h : sm_tab T pc = some (.ifCond .ge off, 3)) (ht : (pc : Int) + off = (tgt : Int)) : sm_R T (b, pc, (V, o), ls, .inl x :: r) = if 0 ≤ x then sm_R T (b, tgt, (V, o), ls, r) else sm_R T (b, pc + 3, (V, o), ls, r) := by
  rw [← sm_R_ite]
  exact R_in h (by simp only [sm_op, sm_i1, sm_i2, sm_gt rfl, sm_gtt, sm_br_eq ht])
theorem R_icmp_ge {x y : Int32} {off : Int} {tgt : Nat} (h : sm_tab T pc = some (.if_icmp .ge off, 3)) (ht : (pc : Int) + off = (tgt : Int)) : sm_R T (b, pc, (V, o), ls, .inl y :: .inl x :: r) = if y ≤ x then sm_R T (b, tgt, (V, o), ls, r) else sm_R T (b, pc + 3, (V, o), ls, r) := by
  rw [← sm_R_ite]
  exact R_in h (by simp only [sm_op, sm_i1, sm_i2, sm_gt rfl, sm_gtt, sm_br_eq ht])
theorem R_if_gt {x : Int32} {off : Int} {tgt : Nat} (h : sm_tab T pc = some (.ifCond .gt off, 3)) (ht : (pc : Int) + off = (tgt : Int)) : sm_R T (b, pc, (V, o), ls, .inl x :: r) = if 0 < x then sm_R T (b, tgt, (V, o), ls, r) else sm_R T (b, pc + 3, (V, o), ls, r) := by
  rw [← sm_R_ite]
  exact R_in h (by simp only [sm_op, sm_i1, sm_i2, sm_gt rfl, sm_gtt, sm_br_eq ht])
theorem R_icmp_gt {x y : Int32} {off : Int} {tgt : Nat} (h : sm_tab T pc = some (.if_icmp .gt off, 3)) (ht : (pc : Int) + off = (tgt : Int)) : sm_R T (b, pc, (V, o), ls, .inl y :: .inl x :: r) = if y < x then sm_R T (b, tgt, (V, o), ls, r) else sm_R T (b, pc + 3, (V, o), ls, r) := by
  rw [← sm_R_ite]
  exact R_in h (by simp only [sm_op, sm_i1, sm_i2, sm_gt rfl, sm_gtt, sm_br_eq ht])
theorem R_if_le {x : Int32} {off : Int} {tgt : Nat} (h : sm_tab T pc = some (.ifCond .le off, 3)) (ht : (pc : Int) + off = (tgt : Int)) : sm_R T (b, pc, (V, o), ls, .inl x :: r) = if x ≤ 0 then sm_R T (b, tgt, (V, o), ls, r) else sm_R T (b, pc + 3, (V, o), ls, r) := by
  rw [← sm_R_ite]
  exact R_in h (by simp only [sm_op, sm_i1, sm_i2, sm_gt rfl, sm_gtt, sm_br_eq ht])
theorem R_icmp_le {x y : Int32} {off : Int} {tgt : Nat} (h : sm_tab T pc = some (.if_icmp .le off, 3)) (ht : (pc : Int) + off = (tgt : Int)) : sm_R T (b, pc, (V, o), ls, .inl y :: .inl x :: r) = if x ≤ y then sm_R T (b, tgt, (V, o), ls, r) else sm_R T (b, pc + 3, (V, o), ls, r) := by
  rw [← sm_R_ite]
  exact R_in h (by simp only [sm_op, sm_i1, sm_i2, sm_gt rfl, sm_gtt, sm_br_eq ht])
theorem R_switch {x : Int32} {d lo hi : Int} {offs : Array Int} {len : Nat} {off : Int} {tgt : Nat} (h : sm_tab T pc = some (.tableswitch d lo hi offs, len)) (hs : sm_sw lo hi offs d x = some off) (ht : (pc : Int) + off = (tgt : Int)) : sm_R T (b, pc, (V, o), ls, .inl x :: r) = sm_R T (b, tgt, (V, o), ls, r) := by
  refine R_in h ?_
  simp only [sm_op, sm_i1, hs, sm_jp, ht]
  rw [sm_gt (Int.natCast_nonneg _)]
  rfl
theorem sm_sw_out {x : Int32} {d lo hi : Int} {offs : Array Int} (h : x.toInt < lo ∨ hi < x.toInt) : sm_sw lo hi offs d x = some d := by unfold sm_sw; rw [if_pos h]
theorem R_getI {x c k i f a j : Nat} (h : sm_tab T pc = some (.getfield x, 3)) (hx : sm_fld T x = some (c, f)) (hf : sm_fl c k i f = some (.inr (a, j))) : sm_R T (b, pc, (V, o), ls, .inr (.inr (c, k, i)) :: r) = sm_R T (b, pc + 3, (V, o), ls, .inl (V a j) :: r) := R_in h (by simp only [sm_op, sm_r1, sm_gt rfl, sm_gtt, hx, hf]; rfl)
theorem R_getR {x c k i f : Nat} {n : sm_N} (h : sm_tab T pc = some (.getfield x, 3)) (hx : sm_fld T x = some (c, f)) (hf : sm_fl c k i f = some (.inl n)) : sm_R T (b, pc, (V, o), ls, .inr (.inr (c, k, i)) :: r) = sm_R T (b, pc + 3, (V, o), ls, .inr (.inr n) :: r) := R_in h (by simp only [sm_op, sm_r1, sm_gt rfl, sm_gtt, hx, hf]; rfl)
theorem R_put {x c k i f a j : Nat} {v : Int32} (h : sm_tab T pc = some (.putfield x, 3)) (hx : sm_fld T x = some (c, f)) (hf : sm_fl c k i f = some (.inr (a, j))) (hz : c = 1 ∧ f = 2 → v = 0 ∨ v = 1) : sm_R T (b, pc, (V, o), ls, .inl v :: .inr (.inr (c, k, i)) :: r) = sm_R T (b, pc + 3, (sm_u V a j v, o), ls, r) := by
  rw [← sm_st_u]
  exact R_in h (by simp only [sm_op, sm_ir, sm_gt rfl, sm_gtt, hx]; rw [sm_gt ⟨by trivial, hz⟩]; simp only [hf]; rfl)
theorem R_gets {x c : Nat} (h : sm_tab T pc = some (.getstatic x, 3)) (hx : sm_stc T x = some c) : sm_R T (b, pc, (V, o), ls, r) = sm_R T (b, pc + 3, (V, o), ls, .inr (.inr (c, 0, 0)) :: r) := R_in h (by simp only [sm_op, sm_gt rfl, sm_gtt, hx]; rfl)
theorem R_alen {c k n : Nat} {v : Int32} (h : sm_tab T pc = some (.arraylength, 1)) (hx : sm_ln T c k = some n) (hv : Int32.ofNat n = v) : sm_R T (b, pc, (V, o), ls, .inr (.inr (c, k, 0)) :: r) = sm_R T (b, pc + 1, (V, o), ls, .inl v :: r) := by subst hv; exact R_in h (by simp only [sm_op, sm_r1, sm_gt rfl, sm_gtt, hx]; rfl)
theorem sm_ld_eq {tag c k n a p s : Nat} {j : Int32} (ha : sm_ar c k = some (tag, n, a, p, s)) (hj : vp_in j n) : sm_ld T (V, o) tag c k j = some (V a (p + s * j.toNatClampNeg)) := by
  unfold sm_ld; simp only [ha]; exact sm_gt ⟨by trivial, hj⟩
theorem R_iaload {c k n a p s : Nat} {j : Int32} (h : sm_tab T pc = some (.iaload, 1)) (ha : sm_ar c k = some (0, n, a, p, s)) (hj : vp_in j n) : sm_R T (b, pc, (V, o), ls, .inl j :: .inr (.inr (c, k, 0)) :: r) = sm_R T (b, pc + 1, (V, o), ls, .inl (V a (p + s * j.toNatClampNeg)) :: r) := R_in h (by simp only [sm_op, sm_ir, sm_gt rfl, sm_gtt, sm_ld_eq ha hj]; rfl)
theorem R_baload {c k n a p s : Nat} {j : Int32} (h : sm_tab T pc = some (.baload, 1)) (ha : sm_ar c k = some (1, n, a, p, s)) (hj : vp_in j n) : sm_R T (b, pc, (V, o), ls, .inl j :: .inr (.inr (c, k, 0)) :: r) = sm_R T (b, pc + 1, (V, o), ls, .inl (V a (p + s * j.toNatClampNeg)) :: r) := R_in h (by simp only [sm_op, sm_ir, sm_gt rfl, sm_gtt, sm_ld_eq ha hj]; rfl)
theorem R_caload {c k n a p s : Nat} {j : Int32} (h : sm_tab T pc = some (.caload, 1)) (ha : sm_ar c k = some (2, n, a, p, s)) (hj : vp_in j n) : sm_R T (b, pc, (V, o), ls, .inl j :: .inr (.inr (c, k, 0)) :: r) = sm_R T (b, pc + 1, (V, o), ls, .inl (V a (p + s * j.toNatClampNeg)) :: r) := R_in h (by simp only [sm_op, sm_ir, sm_gt rfl, sm_gtt, sm_ld_eq ha hj]; rfl)
theorem R_roload {c k n : Nat} {f : Nat → Int32} {j : Int32} (h : sm_tab T pc = some (.iaload, 1)) (ha : sm_ar c k = none) (hr : sm_ro T c = some (n, f)) (hj : vp_in j n) : sm_R T (b, pc, (V, o), ls, .inl j :: .inr (.inr (c, k, 0)) :: r) = sm_R T (b, pc + 1, (V, o), ls, .inl (f j.toNatClampNeg) :: r) := by
  have h9 : sm_ld T (V, o) 0 c k j = some (f j.toNatClampNeg) := by unfold sm_ld; simp only [ha, hr]; exact sm_gt ⟨by trivial, hj⟩
  exact R_in h (by simp only [sm_op, sm_ir, sm_gt rfl, sm_gtt, h9]; rfl)
theorem R_aaload {c k t n : Nat} {f : Nat → sm_N} {j : Int32} (h : sm_tab T pc = some (.aaload, 1)) (ha : sm_ra c k = some (t, n, f)) (hj : vp_in j n) : sm_R T (b, pc, (V, o), ls, .inl j :: .inr (.inr (c, k, 0)) :: r) = sm_R T (b, pc + 1, (V, o), ls, .inr (.inr (f j.toNatClampNeg)) :: r) := R_in h (by simp only [sm_op, sm_ir, sm_gt rfl, sm_gtt, ha]; rw [sm_gt (show ¬ (j < 0 ∨ n ≤ j.toNatClampNeg) from hj)]; rfl)
theorem sm_sr_eq {tag c k n a p s : Nat} {j x : Int32} (ha : sm_ar c k = some (tag, n, a, p, s)) (hj : vp_in j n) (h1 : tag = 1 → x = 0 ∨ x = 1) (h2 : tag = 2 → 0 ≤ x ∧ x ≤ 65535) : sm_sr (V, o) tag c k j x = some (sm_u V a (p + s * j.toNatClampNeg) x, o) := by
  unfold sm_sr; simp only [ha]; rw [sm_gt ⟨by trivial, hj, h1, h2⟩, sm_st_u]
theorem R_iastore {c k n a p s : Nat} {j x : Int32} (h : sm_tab T pc = some (.iastore, 1)) (ha : sm_ar c k = some (0, n, a, p, s)) (hj : vp_in j n) : sm_R T (b, pc, (V, o), ls, .inl x :: .inl j :: .inr (.inr (c, k, 0)) :: r) = sm_R T (b, pc + 1, (sm_u V a (p + s * j.toNatClampNeg) x, o), ls, r) := R_in h (by simp only [sm_op, sm_iir, sm_gt rfl, sm_gtt, sm_sr_eq (V := V) (o := o) (x := x) ha hj (fun q => by cases q) (fun q => by cases q)]; rfl)
theorem R_bastore {c k n a p s : Nat} {j x : Int32} (h : sm_tab T pc = some (.bastore, 1)) (ha : sm_ar c k = some (1, n, a, p, s)) (hj : vp_in j n) (hz : x = 0 ∨ x = 1) : sm_R T (b, pc, (V, o), ls, .inl x :: .inl j :: .inr (.inr (c, k, 0)) :: r) = sm_R T (b, pc + 1, (sm_u V a (p + s * j.toNatClampNeg) x, o), ls, r) := R_in h (by simp only [sm_op, sm_iir, sm_gt rfl, sm_gtt, sm_sr_eq ha hj (fun _ => hz) (fun q => by cases q)]; rfl)
theorem R_castore {c k n a p s : Nat} {j x : Int32} (h : sm_tab T pc = some (.castore, 1)) (ha : sm_ar c k = some (2, n, a, p, s)) (hj : vp_in j n) (hz : 0 ≤ x ∧ x ≤ 65535) : sm_R T (b, pc, (V, o), ls, .inl x :: .inl j :: .inr (.inr (c, k, 0)) :: r) = sm_R T (b, pc + 1, (sm_u V a (p + s * j.toNatClampNeg) x, o), ls, r) := R_in h (by simp only [sm_op, sm_iir, sm_gt rfl, sm_gtt, sm_sr_eq ha hj (fun q => by cases q) (fun _ => hz)]; rfl)
/-- a call, answers handed on; what it throws goes on too -/
theorem R_call {x kd n cost cy : Nat} {f : sm_F} {virt : Bool} {as : List sm_V} (h : sm_tab T pc = some (if virt then .invokevirtual x else .invokestatic x, 3)) (hc : sm_cal T x = some (kd, n, cost, cy, f)) (hn : as.length = n) (hr : r.length ≤ 4) (hb : cost ≤ b) (hv : virt = true → kd = 0 ∧ sm_cv cy as = true) (hs : virt = false → kd ≠ 0 ∧ sm_nat T x = 0) (hh : ∀ e, sm_hnd T pc e = none) (hk : sm_rk T < 10) : sm_R T (b, pc, (V, o), ls, as.reverse ++ r) = sm_k1 (f (V, o) as) (fun M1 v => sm_R T (b - cost, pc + 3, M1, ls, v.toList ++ r)) := by
  have h1 : (as.reverse ++ r).take n = as.reverse := by rw [← hn, ← List.length_reverse]; exact List.take_left
  have h2 : (as.reverse ++ r).drop n = r := by rw [← hn, ← List.length_reverse]; exact List.drop_left
  have hin : sm_in T b pc (V, o) ls (as.reverse ++ r) virt x = sm_bk T b pc cost ls r (f (V, o) as) := by
    unfold sm_in
    simp only [hc]
    rw [h1, h2, List.reverse_reverse]
    exact sm_gt ⟨by simp; omega, hr, hb, hv, fun q => (hs q).1⟩
  have hop : sm_op T b pc (V, o) ls (as.reverse ++ r) 3 (if virt then .invokevirtual x else .invokestatic x) = sm_bk T b pc cost ls r (f (V, o) as) := by
    cases virt with
    | true => rw [← hin]; exact sm_gt rfl
    | false =>
      rw [← hin]
      show sm_g (3 = 3) (match sm_nat T x with | 0 => _ | 1 => _ | 2 => _ | 3 => _ | _ => none) = _
      rw [sm_gt rfl, (hs rfl).2]
      rfl
  rw [sm_R_eq]
  have hex : sm_ex T (b, pc, (V, o), ls, as.reverse ++ r) = sm_bk T b pc cost ls r (f (V, o) as) := by unfold sm_ex; simp only [h]; exact hop
  rw [hex]
  cases hf : f (V, o) as with
  | none => rfl
  | some z =>
    obtain ⟨M1, v | v⟩ := z
    · unfold sm_bk
      simp only [hh]
      rw [sm_gt hk]
      rfl
    · rfl
/-- a call under handlers -/
theorem R_callH {x kd n cost cy : Nat} {f : sm_F} {as : List sm_V} (h : sm_tab T pc = some (.invokevirtual x, 3)) (hc : sm_cal T x = some (kd, n, cost, cy, f)) (hn : as.length = n) (hr : r.length ≤ 4) (hb : cost ≤ b) (hv : kd = 0 ∧ sm_cv cy as = true) (hk : ¬ sm_rk T < 10) : sm_R T (b, pc, (V, o), ls, as.reverse ++ r) = sm_k2 (f (V, o) as) (fun M1 v => sm_R T (b - cost, pc + 3, M1, ls, v.toList ++ r)) (fun M1 e => match sm_hnd T pc e with | some (pc1, k) => sm_g (sm_lk ls k = true) (sm_R T (b - cost, pc1, M1, ls.set k none, [])) | none => none) := by
  have h1 : (as.reverse ++ r).take n = as.reverse := by rw [← hn, ← List.length_reverse]; exact List.take_left
  have h2 : (as.reverse ++ r).drop n = r := by rw [← hn, ← List.length_reverse]; exact List.drop_left
  have hin : sm_in T b pc (V, o) ls (as.reverse ++ r) true x = sm_bk T b pc cost ls r (f (V, o) as) := by
    unfold sm_in
    simp only [hc]
    rw [h1, h2, List.reverse_reverse]
    exact sm_gt ⟨by simp; omega, hr, hb, fun _ => hv, fun q => by cases q⟩
  rw [sm_R_eq]
  have hex : sm_ex T (b, pc, (V, o), ls, as.reverse ++ r) = sm_bk T b pc cost ls r (f (V, o) as) := by unfold sm_ex; simp only [h]; rw [← hin]; exact sm_gt rfl
  rw [hex]
  cases hf : f (V, o) as with
  | none => rfl
  | some z =>
    obtain ⟨M1, v | v⟩ := z
    · unfold sm_bk
      simp only
      show _ = (match sm_hnd T pc v with | some (pc1, k) => sm_g (sm_lk ls k = true) (sm_R T (b - cost, pc1, M1, ls.set k none, [])) | none => none)
      cases hh : sm_hnd T pc v with
      | none => simp only [hh]; unfold sm_g; rw [if_neg hk]
      | some q =>
        obtain ⟨pc1, k⟩ := q
        simp only
        by_cases hq : sm_lk ls k = true
        · rw [sm_gt hq, sm_gt hq]; rfl
        · unfold sm_g; rw [if_neg hq, if_neg hq]
    · rfl
theorem R_min {x : Nat} {u v : Int32} (h : sm_tab T pc = some (.invokestatic x, 3)) (hx : sm_nat T x = 1) (hr : r.length ≤ 4) : sm_R T (b, pc, (V, o), ls, .inl v :: .inl u :: r) = sm_R T (b, pc + 3, (V, o), ls, .inl (if v < u then v else u) :: r) := R_in h (by
  show sm_g (3 = 3) (match sm_nat T x with | 0 => _ | 1 => _ | 2 => _ | 3 => _ | _ => none) = _
  rw [sm_gt rfl, hx]
  exact sm_gt hr)
theorem R_max {x : Nat} {u v : Int32} (h : sm_tab T pc = some (.invokestatic x, 3)) (hx : sm_nat T x = 2) (hr : r.length ≤ 4) : sm_R T (b, pc, (V, o), ls, .inl v :: .inl u :: r) = sm_R T (b, pc + 3, (V, o), ls, .inl (if u < v then v else u) :: r) := R_in h (by
  show sm_g (3 = 3) (match sm_nat T x with | 0 => _ | 1 => _ | 2 => _ | 3 => _ | _ => none) = _
  rw [sm_gt rfl, hx]
  exact sm_gt hr)
theorem R_copy {x c k c2 k2 n0 r0 o0 s0 n1 r1 o1 s1 : Nat} {sp dp n : Int32} (h : sm_tab T pc = some (.invokestatic x, 3)) (hx : sm_nat T x = 3) (hr : r.length ≤ 4) (ha : sm_ar c k = some (0, n0, r0, o0, s0)) (ha1 : sm_ar c2 k2 = some (0, n1, r1, o1, s1)) (hg : ¬ sp < 0 ∧ ¬ dp < 0 ∧ ¬ n < 0 ∧ sp.toNatClampNeg + n.toNatClampNeg ≤ n0 ∧ dp.toNatClampNeg + n.toNatClampNeg ≤ n1) : sm_R T (b, pc, (V, o), ls, .inl n :: .inl dp :: .inr (.inr (c2, k2, 0)) :: .inl sp :: .inr (.inr (c, k, 0)) :: r) = sm_R T (b, pc + 3, sm_cp (V, o) r0 o0 s0 sp.toNatClampNeg r1 o1 s1 dp.toNatClampNeg n.toNatClampNeg, ls, r) := R_in h (by
  show sm_g (3 = 3) (match sm_nat T x with | 0 => _ | 1 => _ | 2 => _ | 3 => _ | _ => none) = _
  rw [sm_gt rfl, hx]
  show sm_g _ (match sm_co (V, o) c k sp c2 k2 dp n with | some M1 => _ | none => none) = _
  rw [sm_gt hr]
  unfold sm_co
  simp only [ha, ha1]
  rw [sm_gt hg]
  rfl)
theorem R_throw {x e : Nat} (h : sm_tab T pc = some (.new x, 3)) (he : sm_exn T pc = some e) (hr : r.length ≤ 4) (hb : 1 ≤ b) (h6 : e ≠ 60) : sm_R T (b, pc, (V, o), ls, r) = some ((V, o), .error e) := R_out h (by simp only [sm_op, he, sm_gt rfl, sm_gtt, sm_gt (⟨hr, hb, h6⟩ : r.length ≤ 4 ∧ 1 ≤ b ∧ e ≠ 60)])
theorem R_ireturn {x : Int32} (h : sm_tab T pc = some (.ireturn, 1)) (hk : sm_rk T = 1 ∨ sm_rk T = 11) : sm_R T (b, pc, (V, o), ls, [.inl x]) = some ((V, o), .ok (some (.inl x))) := R_out h (by simp only [sm_op, sm_gt rfl, sm_gtt]; exact sm_gt (hk.imp id Or.inl))
theorem R_zreturn {x : Int32} (h : sm_tab T pc = some (.ireturn, 1)) (hk : sm_rk T = 2) (hz : x = 0 ∨ x = 1) : sm_R T (b, pc, (V, o), ls, [.inl x]) = some ((V, o), .ok (some (.inl x))) := R_out h (by simp only [sm_op, sm_gt rfl, sm_gtt]; exact sm_gt (Or.inr (Or.inr ⟨hk, hz⟩)))
theorem R_lreturn {x : Int64} (h : sm_tab T pc = some (.lreturn, 1)) (hk : sm_rk T = 3) : sm_R T (b, pc, (V, o), ls, [.inr (.inl x)]) = some ((V, o), .ok (some (.inr (.inl x)))) := R_out h (by simp only [sm_op, sm_gt rfl, sm_gtt]; exact sm_gt hk)
theorem R_areturn {x : sm_N} (h : sm_tab T pc = some (.areturn, 1)) (hk : sm_rk T = 4) : sm_R T (b, pc, (V, o), ls, [.inr (.inr x)]) = some ((V, o), .ok (some (.inr (.inr x)))) := R_out h (by simp only [sm_op, sm_gt rfl, sm_gtt]; exact sm_gt hk)
theorem R_return {h9 : True} (h : sm_tab T pc = some (.return_, 1)) (hk : sm_rk T = 0) : sm_R T (b, pc, (V, o), ls, []) = some ((V, o), .ok none) := R_out h (by simp only [sm_op, sm_gt rfl, sm_gtt]; exact sm_gt hk)
end R9
