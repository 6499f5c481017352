/-! SOUNDNESS: a step, all steps, contracts -/
theorem sm_g_some {α : Type} {c : Prop} [Decidable c] {x : Option α} {z : α} (h : sm_g c x = some z) : c ∧ x = some z := by
  unfold sm_g at h
  split at h
  · rename_i hc; exact ⟨hc, h⟩
  · cases h
theorem sm_nx_some {b pc : Nat} {M : sm_M} {ls : sm_L} {st : List sm_V} {z : sm_S ⊕ sm_O} (h : sm_nx b pc M ls st = some z) : z = .inl (b, pc, M, ls, st) := (Option.some.inj h).symm
theorem sm_i1_some {α : Type} {st : List sm_V} {f : Int32 → List sm_V → Option α} {z : α} (h : sm_i1 st f = some z) : ∃ x r, st = .inl x :: r ∧ f x r = some z := by
  unfold sm_i1 at h
  split at h
  · exact ⟨_, _, rfl, h⟩
  · cases h
theorem sm_i2_some {α : Type} {st : List sm_V} {f : Int32 → Int32 → List sm_V → Option α} {z : α} (h : sm_i2 st f = some z) : ∃ x y r, st = .inl y :: .inl x :: r ∧ f x y r = some z := by
  unfold sm_i2 at h
  split at h
  · exact ⟨_, _, _, rfl, h⟩
  · cases h
theorem sm_l1_some {α : Type} {st : List sm_V} {f : Int64 → List sm_V → Option α} {z : α} (h : sm_l1 st f = some z) : ∃ x r, st = .inr (.inl x) :: r ∧ f x r = some z := by
  unfold sm_l1 at h
  split at h
  · exact ⟨_, _, rfl, h⟩
  · cases h
theorem sm_l2_some {α : Type} {st : List sm_V} {f : Int64 → Int64 → List sm_V → Option α} {z : α} (h : sm_l2 st f = some z) : ∃ x y r, st = .inr (.inl y) :: .inr (.inl x) :: r ∧ f x y r = some z := by
  unfold sm_l2 at h
  split at h
  · exact ⟨_, _, _, rfl, h⟩
  · cases h
theorem sm_li_some {α : Type} {st : List sm_V} {f : Int64 → Int32 → List sm_V → Option α} {z : α} (h : sm_li st f = some z) : ∃ x y r, st = .inl y :: .inr (.inl x) :: r ∧ f x y r = some z := by
  unfold sm_li at h
  split at h
  · exact ⟨_, _, _, rfl, h⟩
  · cases h
theorem sm_r1_some {α : Type} {st : List sm_V} {f : Nat → Nat → Nat → List sm_V → Option α} {z : α} (h : sm_r1 st f = some z) : ∃ c k i r, st = .inr (.inr (c, k, i)) :: r ∧ f c k i r = some z := by
  unfold sm_r1 at h
  split at h
  · exact ⟨_, _, _, _, rfl, h⟩
  · cases h
theorem sm_ir_some {α : Type} {st : List sm_V} {f : Int32 → Nat → Nat → Nat → List sm_V → Option α} {z : α} (h : sm_ir st f = some z) : ∃ x c k i r, st = .inl x :: .inr (.inr (c, k, i)) :: r ∧ f x c k i r = some z := by
  unfold sm_ir at h
  split at h
  · exact ⟨_, _, _, _, _, rfl, h⟩
  · cases h
theorem sm_iir_some {α : Type} {st : List sm_V} {f : Int32 → Int32 → Nat → Nat → Nat → List sm_V → Option α} {z : α} (h : sm_iir st f = some z) : ∃ x j c k i r, st = .inl x :: .inl j :: .inr (.inr (c, k, i)) :: r ∧ f x j c k i r = some z := by
  unfold sm_iir at h
  split at h
  · exact ⟨_, _, _, _, _, _, rfl, h⟩
  · cases h
theorem sm_lir_some {α : Type} {st : List sm_V} {f : Int64 → Int32 → Nat → Nat → Nat → List sm_V → Option α} {z : α} (h : sm_lir st f = some z) : ∃ x j c k i r, st = .inr (.inl x) :: .inl j :: .inr (.inr (c, k, i)) :: r ∧ f x j c k i r = some z := by
  unfold sm_lir at h
  split at h
  · exact ⟨_, _, _, _, _, _, rfl, h⟩
  · cases h
theorem sm_ac_some {α : Type} {st : List sm_V} {f : Nat → Nat → Int32 → Nat → Nat → Int32 → Int32 → List sm_V → Option α} {z : α} (h : sm_ac st f = some z) : ∃ c k sp c2 k2 dp n r, st = .inl n :: .inl dp :: .inr (.inr (c2, k2, 0)) :: .inl sp :: .inr (.inr (c, k, 0)) :: r ∧ f c k sp c2 k2 dp n r = some z := by
  unfold sm_ac at h
  split at h
  · exact ⟨_, _, _, _, _, _, _, _, rfl, h⟩
  · cases h
theorem sm_jp_some {b pc : Nat} {off : Int} {M : sm_M} {ls : sm_L} {st : List sm_V} {z : sm_S ⊕ sm_O} (h : sm_jp b pc off M ls st = some z) : ∃ tgt : Nat, (pc : Int) + off = (tgt : Int) ∧ z = .inl (b, tgt, M, ls, st) := by
  obtain ⟨h0, h1⟩ := sm_g_some h
  exact ⟨((pc : Int) + off).toNat, by omega, sm_nx_some h1⟩
theorem sm_br_some {b pc : Nat} {off : Int} {M : sm_M} {ls : sm_L} {st : List sm_V} {c : Prop} [Decidable c] {z : sm_S ⊕ sm_O} (h : sm_br b pc off M ls st c = some z) : ∃ tgt : Nat, (pc : Int) + off = (tgt : Int) ∧ ((c ∧ z = .inl (b, tgt, M, ls, st)) ∨ (¬ c ∧ z = .inl (b, pc + 3, M, ls, st))) := by
  obtain ⟨h0, h⟩ := sm_g_some h
  refine ⟨((pc : Int) + off).toNat, by omega, ?_⟩
  split at h
  · rename_i hc; exact Or.inl ⟨hc, sm_nx_some h⟩
  · rename_i hc; exact Or.inr ⟨hc, sm_nx_some h⟩
theorem sm_ld_some {T : sm_T} {M : sm_M} {tag c k : Nat} {j v : Int32} (h : sm_ld T M tag c k j = some v) : (∃ n r o s, sm_ar c k = some (tag, n, r, o, s) ∧ ¬ (j < 0 ∨ n ≤ j.toNatClampNeg) ∧ v = M.1 r (o + s * j.toNatClampNeg)) ∨ (∃ n f, sm_ar c k = none ∧ sm_ro T c = some (n, f) ∧ tag = 0 ∧ ¬ (j < 0 ∨ n ≤ j.toNatClampNeg) ∧ v = f j.toNatClampNeg) := by
  unfold sm_ld at h
  split at h
  · rename_i t n r o s ha
    obtain ⟨⟨rfl, h1⟩, h2⟩ := sm_g_some h
    exact Or.inl ⟨n, r, o, s, ha, h1, (Option.some.inj h2).symm⟩
  · rename_i ha
    split at h
    · rename_i n f hr
      obtain ⟨⟨h0, h1⟩, h2⟩ := sm_g_some h
      exact Or.inr ⟨n, f, ha, hr, h0, h1, (Option.some.inj h2).symm⟩
    · cases h
theorem sm_sr_some {M M1 : sm_M} {tag c k : Nat} {j x : Int32} (h : sm_sr M tag c k j x = some M1) : ∃ n r o s, sm_ar c k = some (tag, n, r, o, s) ∧ ¬ (j < 0 ∨ n ≤ j.toNatClampNeg) ∧ (tag = 1 → x = 0 ∨ x = 1) ∧ (tag = 2 → 0 ≤ x ∧ x ≤ 65535) ∧ M1 = sm_st M r (o + s * j.toNatClampNeg) x := by
  unfold sm_sr at h
  split at h
  · rename_i t n r o s ha
    obtain ⟨⟨rfl, h1, h2, h3⟩, h4⟩ := sm_g_some h
    exact ⟨n, r, o, s, ha, h1, h2, h3, (Option.some.inj h4).symm⟩
  · cases h
theorem sm_lib : (Cond.static Lib.Math.min.name ∈ sm_W ∧ Cond.initialized "java/lang/Math" ∈ sm_W ∧ Cond.code Lib.Math.min.name Lib.Math.min.code 2 (some .int) ∈ sm_W) ∧ (Cond.static Lib.Math.max.name ∈ sm_W ∧ Cond.initialized "java/lang/Math" ∈ sm_W ∧ Cond.code Lib.Math.max.name Lib.Math.max.code 2 (some .int) ∈ sm_W) ∧ (Cond.native arraycopyName ∈ sm_W ∧ Cond.static arraycopyName ∈ sm_W ∧ Cond.initialized "java/lang/System" ∈ sm_W) := by decide +kernel
def sm_Tok (T : sm_T) (own : String) (cc : ByteArray) : Prop :=
  (∀ pc i len, sm_tab T pc = some (i, len) → decode cc pc = .ok (i, len)) ∧
  (∀ x ci f, sm_fld T x = some (ci, f) → Cond.fieldLink own x (sm_kl ci).1 ((sm_kl ci).2.1 f).2.1 ((sm_kl ci).2.1 f).2.2.1 ∈ sm_W) ∧
  (∀ x v, sm_k64 T x = some v → Cond.constantLong own x v ∈ sm_W) ∧
  (∀ x v, sm_k32 T x = some v → Cond.constant own x v ∈ sm_W) ∧
  (∀ x, sm_nat T x = 1 → Cond.methodLink own x Lib.Math.min.name ∈ sm_W) ∧ (∀ x, sm_nat T x = 2 → Cond.methodLink own x Lib.Math.max.name ∈ sm_W) ∧ (∀ x, sm_nat T x = 3 → Cond.methodLink own x arraycopyName ∈ sm_W) ∧
  (∀ x c, sm_stc T x = some c → c = 62 ∧ Cond.fieldLink own x "SnowGuns" "MOST_OF_SETTING" "[I" ∈ sm_W)
/-- the calls have contracts of a lower level -/
def sm_Cal (l : Launch) (G : sm_G) (T : sm_T) (own : String) (lev : Nat) : Prop := ∀ x kd n cost cy f, sm_cal T x = some (kd, n, cost, cy, f) → ∃ (y : MethodName) (bytes : ByteArray) (maxL : Nat) (ret : Option FieldType) (hh : List (Nat × Nat × Nat × Nat)) (lev1 : Nat), sm_Cs own x kd n cy y bytes maxL ret hh ∧ sm_Con l G y (sm_hd kd y bytes maxL ret hh) lev1 cost f ∧ lev1 + 1 ≤ lev ∧ maxL + 30 * lev1 + 19 ≤ 30 * lev
def sm_Ro (G : sm_G) (T : sm_T) (s : State) : Prop := ∀ c n f, sm_ro T c = some (n, f) → va_T .int (sm_ad G c 0 0) n (fun j => .int (f j)) (sm_A G) s s.heap ∧ ∀ k, sm_og G c k 0 → False
section SMP
variable {p : Program} {l : Launch} {e : Env} {R : Room} {s : State} {m : MethodId} {args : Array Value} {below : List Frame} {meth : Method} {c0 : Code} {Q : State → Prop} {G : sm_G} {nL : Nat}
variable {cc : ByteArray} {own : String} {T : sm_T} {lev : Nat}
theorem sm_ro_k {G : sm_G} {c k : Nat} (hv : sm_okv G (.inr (.inr (c, k, 0)))) (hn : ∀ k, sm_og G c k 0 → False) : k = 0 := by
  rcases hv with h | ⟨-, h, -⟩ | ⟨-, h, -⟩ | ⟨-, h, -⟩
  · exact (hn k h).elim
  · exact h
  · exact h
  · exact h
/-- a step that goes on -/
theorem sm_step (hx : p.tables.exec = Jvm.exec) (hb : c0.code = cc) (hml : c0.maxLocals = nL) (hts : ∀ w ∈ sm_W, w.before args s = true) (hown : s.vm.findClass own = some m.cls) (hWf : sm_Wf G s) (hI : sm_Inj G) (hT : sm_Tok T own cc) (hC : sm_Cal l G T own lev) (hro : sm_Ro G T s) (hR : lev ≤ R.frames ∧ 30 * lev + 100 ≤ R.locals ∧ 1 ≤ R.frames)
    (hH : ∀ pc x pc1 k, sm_hnd T pc x = some (pc1, k) → sm_Hn own cc c0.exceptionTable.toList pc x pc1 k nL)
    {S S1 : sm_S} (hN : sm_exn T S.2.1 ≠ some 60) (h : sm_ex T S = some (.inl S1)) (k : sm_Go p l e R s m args below meth c0 Q G nL S1) : sm_Go p l e R s m args below meth c0 Q G nL S := by
  obtain ⟨b, pc, M, ls, st⟩ := S
  have hW := hWf.1
  have hR1 : 1 ≤ R.frames ∧ 100 ≤ R.locals := ⟨hR.2.2, by omega⟩
  unfold sm_ex at h
  cases ht : sm_tab T pc with
  | none => simp only [ht] at h; cases h
  | some q =>
    obtain ⟨i, len⟩ := q
    simp only [ht] at h
    have hd := hT.1 pc i len ht
    cases i
    case iconst n =>
      replace h := sm_g_some h; obtain ⟨rfl, h⟩ := h
      cases sm_nx_some h
      exact sd_iconst hx hb hd k
    case bipush n =>
      replace h := sm_g_some h; obtain ⟨rfl, h⟩ := h
      cases sm_nx_some h
      exact sd_bipush hx hb hd k
    case sipush n =>
      replace h := sm_g_some h; obtain ⟨rfl, h⟩ := h
      cases sm_nx_some h
      exact sd_sipush hx hb hd k
    case lconst n =>
      replace h := sm_g_some h; obtain ⟨rfl, h⟩ := h
      cases sm_nx_some h
      exact sd_lconst hx hb hd k
    case ldc x =>
      replace h := sm_g_some h; obtain ⟨rfl, h⟩ := h
      cases hq : sm_k32 T x with
      | none => rw [hq] at h; cases h
      | some v =>
        rw [hq] at h
        cases sm_nx_some h
        exact sd_ldc hx hb hown (hts _ (hT.2.2.2.1 x v hq)) hd k
    case ldc_w x =>
      replace h := sm_g_some h; obtain ⟨rfl, h⟩ := h
      cases hq : sm_k32 T x with
      | none => rw [hq] at h; cases h
      | some v =>
        rw [hq] at h
        cases sm_nx_some h
        exact sd_ldcw hx hb hown (hts _ (hT.2.2.2.1 x v hq)) hd k
    case ldc2_w x =>
      replace h := sm_g_some h; obtain ⟨rfl, h⟩ := h
      cases hq : sm_k64 T x with
      | none => rw [hq] at h; cases h
      | some v =>
        rw [hq] at h
        cases sm_nx_some h
        exact sd_ldc2 hx hb hown (hts _ (hT.2.2.1 x v hq)) hd k
    case iload_n i =>
      replace h := sm_g_some h; obtain ⟨rfl, h⟩ := h
      split at h
      · rename_i x hq
        cases sm_nx_some h
        exact sd_iload_n hx hb hq hd k
      · cases h
    case iload i =>
      replace h := sm_g_some h; obtain ⟨rfl, h⟩ := h
      split at h
      · rename_i x hq
        cases sm_nx_some h
        exact sd_iload hx hb hq hd k
      · cases h
    case lload_n i =>
      replace h := sm_g_some h; obtain ⟨rfl, h⟩ := h
      split at h
      · rename_i x hq
        cases sm_nx_some h
        exact sd_lload_n hx hb hq hd k
      · cases h
    case lload i =>
      replace h := sm_g_some h; obtain ⟨rfl, h⟩ := h
      split at h
      · rename_i x hq
        cases sm_nx_some h
        exact sd_lload hx hb hq hd k
      · cases h
    case aload_n i =>
      replace h := sm_g_some h; obtain ⟨rfl, h⟩ := h
      split at h
      · rename_i x hq
        cases sm_nx_some h
        exact sd_aload_n hx hb hq hd k
      · cases h
    case aload i =>
      replace h := sm_g_some h; obtain ⟨rfl, h⟩ := h
      split at h
      · rename_i x hq
        cases sm_nx_some h
        exact sd_aload hx hb hq hd k
      · cases h
    case istore_n i =>
      replace h := sm_g_some h; obtain ⟨rfl, h⟩ := h
      replace h := sm_i1_some h; obtain ⟨x, r, rfl, h⟩ := h
      split at h
      · rename_i l1 hq
        cases sm_nx_some h
        exact sd_istore_n hx hb hq hd k
      · cases h
    case istore i =>
      replace h := sm_g_some h; obtain ⟨rfl, h⟩ := h
      replace h := sm_i1_some h; obtain ⟨x, r, rfl, h⟩ := h
      split at h
      · rename_i l1 hq
        cases sm_nx_some h
        exact sd_istore hx hb hq hd k
      · cases h
    case lstore_n i =>
      replace h := sm_g_some h; obtain ⟨rfl, h⟩ := h
      replace h := sm_l1_some h; obtain ⟨x, r, rfl, h⟩ := h
      split at h
      · rename_i l1 hq
        cases sm_nx_some h
        exact sd_lstore_n hx hb hq hd k
      · cases h
    case lstore i =>
      replace h := sm_g_some h; obtain ⟨rfl, h⟩ := h
      replace h := sm_l1_some h; obtain ⟨x, r, rfl, h⟩ := h
      split at h
      · rename_i l1 hq
        cases sm_nx_some h
        exact sd_lstore hx hb hq hd k
      · cases h
    case astore_n i =>
      replace h := sm_g_some h; obtain ⟨rfl, h⟩ := h
      replace h := sm_r1_some h; obtain ⟨c, n, i1, r, rfl, h⟩ := h
      split at h
      · rename_i l1 hq
        cases sm_nx_some h
        exact sd_astore_n hx hb hq hd k
      · cases h
    case astore i =>
      replace h := sm_g_some h; obtain ⟨rfl, h⟩ := h
      replace h := sm_r1_some h; obtain ⟨c, n, i1, r, rfl, h⟩ := h
      split at h
      · rename_i l1 hq
        cases sm_nx_some h
        exact sd_astore hx hb hq hd k
      · cases h
    case iinc i n =>
      replace h := sm_g_some h; obtain ⟨rfl, h⟩ := h
      split at h
      · rename_i x hq
        split at h
        · rename_i l1 hq1
          cases sm_nx_some h
          exact sd_iinc hx hb hq hq1 hd k
        · cases h
      · cases h
    case iadd =>
      replace h := sm_g_some h; obtain ⟨rfl, h⟩ := h
      replace h := sm_i2_some h; obtain ⟨x, y, r, rfl, h⟩ := h
      cases sm_nx_some h
      exact sd_iadd hx hb hd k
    case isub =>
      replace h := sm_g_some h; obtain ⟨rfl, h⟩ := h
      replace h := sm_i2_some h; obtain ⟨x, y, r, rfl, h⟩ := h
      cases sm_nx_some h
      exact sd_isub hx hb hd k
    case imul =>
      replace h := sm_g_some h; obtain ⟨rfl, h⟩ := h
      replace h := sm_i2_some h; obtain ⟨x, y, r, rfl, h⟩ := h
      cases sm_nx_some h
      exact sd_imul hx hb hd k
    case iand =>
      replace h := sm_g_some h; obtain ⟨rfl, h⟩ := h
      replace h := sm_i2_some h; obtain ⟨x, y, r, rfl, h⟩ := h
      cases sm_nx_some h
      exact sd_iand hx hb hd k
    case ior =>
      replace h := sm_g_some h; obtain ⟨rfl, h⟩ := h
      replace h := sm_i2_some h; obtain ⟨x, y, r, rfl, h⟩ := h
      cases sm_nx_some h
      exact sd_ior hx hb hd k
    case ishl =>
      replace h := sm_g_some h; obtain ⟨rfl, h⟩ := h
      replace h := sm_i2_some h; obtain ⟨x, y, r, rfl, h⟩ := h
      cases sm_nx_some h
      exact sd_ishl hx hb hd k
    case idiv =>
      replace h := sm_g_some h; obtain ⟨rfl, h⟩ := h
      replace h := sm_i2_some h; obtain ⟨x, y, r, rfl, h⟩ := h
      replace h := sm_g_some h; obtain ⟨h0, h⟩ := h
      cases sm_nx_some h
      exact sd_idiv hx hb h0 hd k
    case irem =>
      replace h := sm_g_some h; obtain ⟨rfl, h⟩ := h
      replace h := sm_i2_some h; obtain ⟨x, y, r, rfl, h⟩ := h
      replace h := sm_g_some h; obtain ⟨h0, h⟩ := h
      cases sm_nx_some h
      exact sd_irem hx hb h0 hd k
    case newarray t =>
      cases t
      case int =>
        replace h := sm_g_some h; obtain ⟨rfl, h⟩ := h
        split at h
        · rename_i hq
          exact absurd hq hN
        · cases h
      all_goals exact absurd (show (none : sm_X) = some _ from h) (fun q => by cases q)
    case ineg =>
      replace h := sm_g_some h; obtain ⟨rfl, h⟩ := h
      replace h := sm_i1_some h; obtain ⟨x, r, rfl, h⟩ := h
      cases sm_nx_some h
      exact sd_ineg hx hb hd k
    case ladd =>
      replace h := sm_g_some h; obtain ⟨rfl, h⟩ := h
      replace h := sm_l2_some h; obtain ⟨x, y, r, rfl, h⟩ := h
      cases sm_nx_some h
      exact sd_ladd hx hb hd k
    case lsub =>
      replace h := sm_g_some h; obtain ⟨rfl, h⟩ := h
      replace h := sm_l2_some h; obtain ⟨x, y, r, rfl, h⟩ := h
      cases sm_nx_some h
      exact sd_lsub hx hb hd k
    case lmul =>
      replace h := sm_g_some h; obtain ⟨rfl, h⟩ := h
      replace h := sm_l2_some h; obtain ⟨x, y, r, rfl, h⟩ := h
      cases sm_nx_some h
      exact sd_lmul hx hb hd k
    case land =>
      replace h := sm_g_some h; obtain ⟨rfl, h⟩ := h
      replace h := sm_l2_some h; obtain ⟨x, y, r, rfl, h⟩ := h
      cases sm_nx_some h
      exact sd_land hx hb hd k
    case lor =>
      replace h := sm_g_some h; obtain ⟨rfl, h⟩ := h
      replace h := sm_l2_some h; obtain ⟨x, y, r, rfl, h⟩ := h
      cases sm_nx_some h
      exact sd_lor hx hb hd k
    case lcmp =>
      replace h := sm_g_some h; obtain ⟨rfl, h⟩ := h
      replace h := sm_l2_some h; obtain ⟨x, y, r, rfl, h⟩ := h
      cases sm_nx_some h
      exact sd_lcmp hx hb hd k
    case ldiv =>
      replace h := sm_g_some h; obtain ⟨rfl, h⟩ := h
      replace h := sm_l2_some h; obtain ⟨x, y, r, rfl, h⟩ := h
      replace h := sm_g_some h; obtain ⟨h0, h⟩ := h
      cases sm_nx_some h
      exact sd_ldiv hx hb h0 hd k
    case lrem =>
      replace h := sm_g_some h; obtain ⟨rfl, h⟩ := h
      replace h := sm_l2_some h; obtain ⟨x, y, r, rfl, h⟩ := h
      replace h := sm_g_some h; obtain ⟨h0, h⟩ := h
      cases sm_nx_some h
      exact sd_lrem hx hb h0 hd k
    case lshl =>
      replace h := sm_g_some h; obtain ⟨rfl, h⟩ := h
      replace h := sm_li_some h; obtain ⟨x, y, r, rfl, h⟩ := h
      cases sm_nx_some h
      exact sd_lshl hx hb hd k
    case lushr =>
      replace h := sm_g_some h; obtain ⟨rfl, h⟩ := h
      replace h := sm_li_some h; obtain ⟨x, y, r, rfl, h⟩ := h
      cases sm_nx_some h
      exact sd_lushr hx hb hd k
    case i2l =>
      replace h := sm_g_some h; obtain ⟨rfl, h⟩ := h
      replace h := sm_i1_some h; obtain ⟨x, r, rfl, h⟩ := h
      cases sm_nx_some h
      exact sd_i2l hx hb hd k
    case l2i =>
      replace h := sm_g_some h; obtain ⟨rfl, h⟩ := h
      replace h := sm_l1_some h; obtain ⟨x, r, rfl, h⟩ := h
      cases sm_nx_some h
      exact sd_l2i hx hb hd k
    case i2c =>
      replace h := sm_g_some h; obtain ⟨rfl, h⟩ := h
      replace h := sm_i1_some h; obtain ⟨x, r, rfl, h⟩ := h
      cases sm_nx_some h
      exact sd_i2c hx hb hd k
    case dup =>
      replace h := sm_g_some h; obtain ⟨rfl, h⟩ := h
      split at h
      · replace h := sm_g_some h; obtain ⟨h0, h⟩ := h
        cases sm_nx_some h
        exact sd_dup hx hb h0 hd k
      · cases h
    case pop =>
      replace h := sm_g_some h; obtain ⟨rfl, h⟩ := h
      split at h
      · replace h := sm_g_some h; obtain ⟨h0, h⟩ := h
        cases sm_nx_some h
        exact sd_pop hx hb h0 hd k
      · cases h
    case dup2 =>
      replace h := sm_g_some h; obtain ⟨rfl, h⟩ := h
      split at h
      · replace h := sm_g_some h; obtain ⟨⟨h0, h1⟩, h⟩ := h
        cases sm_nx_some h
        exact sd_dup2 hx hb h0 h1 hd k
      · cases h
    case goto off =>
      replace h := sm_g_some h; obtain ⟨rfl, h⟩ := h
      replace h := sm_jp_some h; obtain ⟨tgt, ht1, hz⟩ := h
      cases hz
      exact sd_goto hx hb ht1 hd k
    case ifCond cd off =>
      cases cd
      case eq =>
        replace h := sm_g_some h; obtain ⟨rfl, h⟩ := h
        replace h := sm_i1_some h; obtain ⟨x, r, rfl, h⟩ := h
        replace h := sm_br_some h; obtain ⟨tgt, ht1, ⟨hc, hz⟩ | ⟨hc, hz⟩⟩ := h
        · cases hz
          exact sd_if_eq hx hb ht1 hd (fun _ => k) (fun q => absurd hc q)
        · cases hz
          exact sd_if_eq hx hb ht1 hd (fun q => absurd q hc) (fun _ => k)
      case ne =>
        replace h := sm_g_some h; obtain ⟨rfl, h⟩ := h
        replace h := sm_i1_some h; obtain ⟨x, r, rfl, h⟩ := h
        replace h := sm_br_some h; obtain ⟨tgt, ht1, ⟨hc, hz⟩ | ⟨hc, hz⟩⟩ := h
        · cases hz
          exact sd_if_ne hx hb ht1 hd (fun _ => k) (fun q => absurd hc q)
        · cases hz
          exact sd_if_ne hx hb ht1 hd (fun q => absurd q hc) (fun _ => k)
      case lt =>
        replace h := sm_g_some h; obtain ⟨rfl, h⟩ := h
        replace h := sm_i1_some h; obtain ⟨x, r, rfl, h⟩ := h
        replace h := sm_br_some h; obtain ⟨tgt, ht1, ⟨hc, hz⟩ | ⟨hc, hz⟩⟩ := h
        · cases hz
          exact sd_if_lt hx hb ht1 hd (fun _ => k) (fun q => absurd hc q)
        · cases hz
          exact sd_if_lt hx hb ht1 hd (fun q => absurd q hc) (fun _ => k)
      case ge =>
        replace h := sm_g_some h; obtain ⟨rfl, h⟩ := h
        replace h := sm_i1_some h; obtain ⟨x, r, rfl, h⟩ := h
        replace h := sm_br_some h; obtain ⟨tgt, ht1, ⟨hc, hz⟩ | ⟨hc, hz⟩⟩ := h
        · cases hz
          exact sd_if_ge hx hb ht1 hd (fun _ => k) (fun q => absurd hc q)
        · cases hz
          exact sd_if_ge hx hb ht1 hd (fun q => absurd q hc) (fun _ => k)
      case gt =>
        replace h := sm_g_some h; obtain ⟨rfl, h⟩ := h
        replace h := sm_i1_some h; obtain ⟨x, r, rfl, h⟩ := h
        replace h := sm_br_some h; obtain ⟨tgt, ht1, ⟨hc, hz⟩ | ⟨hc, hz⟩⟩ := h
        · cases hz
          exact sd_if_gt hx hb ht1 hd (fun _ => k) (fun q => absurd hc q)
        · cases hz
          exact sd_if_gt hx hb ht1 hd (fun q => absurd q hc) (fun _ => k)
      case le =>
        replace h := sm_g_some h; obtain ⟨rfl, h⟩ := h
        replace h := sm_i1_some h; obtain ⟨x, r, rfl, h⟩ := h
        replace h := sm_br_some h; obtain ⟨tgt, ht1, ⟨hc, hz⟩ | ⟨hc, hz⟩⟩ := h
        · cases hz
          exact sd_if_le hx hb ht1 hd (fun _ => k) (fun q => absurd hc q)
        · cases hz
          exact sd_if_le hx hb ht1 hd (fun q => absurd q hc) (fun _ => k)
    case if_icmp cd off =>
      cases cd
      case eq =>
        replace h := sm_g_some h; obtain ⟨rfl, h⟩ := h
        replace h := sm_i2_some h; obtain ⟨x, y, r, rfl, h⟩ := h
        replace h := sm_br_some h; obtain ⟨tgt, ht1, ⟨hc, hz⟩ | ⟨hc, hz⟩⟩ := h
        · cases hz
          exact sd_icmp_eq hx hb ht1 hd (fun _ => k) (fun q => absurd hc q)
        · cases hz
          exact sd_icmp_eq hx hb ht1 hd (fun q => absurd q hc) (fun _ => k)
      case ne =>
        replace h := sm_g_some h; obtain ⟨rfl, h⟩ := h
        replace h := sm_i2_some h; obtain ⟨x, y, r, rfl, h⟩ := h
        replace h := sm_br_some h; obtain ⟨tgt, ht1, ⟨hc, hz⟩ | ⟨hc, hz⟩⟩ := h
        · cases hz
          exact sd_icmp_ne hx hb ht1 hd (fun _ => k) (fun q => absurd hc q)
        · cases hz
          exact sd_icmp_ne hx hb ht1 hd (fun q => absurd q hc) (fun _ => k)
      case lt =>
        replace h := sm_g_some h; obtain ⟨rfl, h⟩ := h
        replace h := sm_i2_some h; obtain ⟨x, y, r, rfl, h⟩ := h
        replace h := sm_br_some h; obtain ⟨tgt, ht1, ⟨hc, hz⟩ | ⟨hc, hz⟩⟩ := h
        · cases hz
          exact sd_icmp_lt hx hb ht1 hd (fun _ => k) (fun q => absurd hc q)
        · cases hz
          exact sd_icmp_lt hx hb ht1 hd (fun q => absurd q hc) (fun _ => k)
      case ge =>
        replace h := sm_g_some h; obtain ⟨rfl, h⟩ := h
        replace h := sm_i2_some h; obtain ⟨x, y, r, rfl, h⟩ := h
        replace h := sm_br_some h; obtain ⟨tgt, ht1, ⟨hc, hz⟩ | ⟨hc, hz⟩⟩ := h
        · cases hz
          exact sd_icmp_ge hx hb ht1 hd (fun _ => k) (fun q => absurd hc q)
        · cases hz
          exact sd_icmp_ge hx hb ht1 hd (fun q => absurd q hc) (fun _ => k)
      case gt =>
        replace h := sm_g_some h; obtain ⟨rfl, h⟩ := h
        replace h := sm_i2_some h; obtain ⟨x, y, r, rfl, h⟩ := h
        replace h := sm_br_some h; obtain ⟨tgt, ht1, ⟨hc, hz⟩ | ⟨hc, hz⟩⟩ := h
        · cases hz
          exact sd_icmp_gt hx hb ht1 hd (fun _ => k) (fun q => absurd hc q)
        · cases hz
          exact sd_icmp_gt hx hb ht1 hd (fun q => absurd q hc) (fun _ => k)
      case le =>
        replace h := sm_g_some h; obtain ⟨rfl, h⟩ := h
        replace h := sm_i2_some h; obtain ⟨x, y, r, rfl, h⟩ := h
        replace h := sm_br_some h; obtain ⟨tgt, ht1, ⟨hc, hz⟩ | ⟨hc, hz⟩⟩ := h
        · cases hz
          exact sd_icmp_le hx hb ht1 hd (fun _ => k) (fun q => absurd hc q)
        · cases hz
          exact sd_icmp_le hx hb ht1 hd (fun q => absurd q hc) (fun _ => k)
    case tableswitch d lo hi offs =>
      replace h := sm_i1_some h; obtain ⟨x, r, rfl, h⟩ := h
      split at h
      · rename_i off hq
        replace h := sm_jp_some h; obtain ⟨tgt, ht1, hz⟩ := h
        cases hz
        exact sd_switch hx hb hq ht1 hd k
      · cases h
    case getfield x =>
      replace h := sm_g_some h; obtain ⟨rfl, h⟩ := h
      replace h := sm_r1_some h; obtain ⟨c, k1, i1, r, rfl, h⟩ := h
      split at h
      · rename_i ci f hq
        replace h := sm_g_some h; obtain ⟨rfl, h⟩ := h
        split at h
        · rename_i n hf
          cases sm_nx_some h
          exact sd_getR hI hx hb hts hown hW (hT.2.1 _ _ _ hq) hf hd k
        · rename_i a j hf
          cases sm_nx_some h
          exact sd_getI hx hb hts hown hW (hT.2.1 _ _ _ hq) hf hd k
        · cases h
      · cases h
    case putfield x =>
      replace h := sm_g_some h; obtain ⟨rfl, h⟩ := h
      replace h := sm_ir_some h; obtain ⟨v, c, k1, i1, r, rfl, h⟩ := h
      split at h
      · rename_i ci f hq
        replace h := sm_g_some h; obtain ⟨⟨rfl, hz⟩, h⟩ := h
        split at h
        · rename_i a j hf
          cases sm_nx_some h
          exact sd_put hx hb hts hown hW hI (hT.2.1 _ _ _ hq) hf hz hd k
        · cases h
      · cases h
    case getstatic x =>
      replace h := sm_g_some h; obtain ⟨rfl, h⟩ := h
      split at h
      · rename_i c hq
        cases sm_nx_some h
        obtain ⟨rfl, hl⟩ := hT.2.2.2.2.2.2.2 _ _ hq
        exact sd_gets hx hb hts hown hW hl hd k
      · cases h
    case arraylength =>
      replace h := sm_g_some h; obtain ⟨rfl, h⟩ := h
      replace h := sm_r1_some h; obtain ⟨c, k1, i1, r, rfl, h⟩ := h
      replace h := sm_g_some h; obtain ⟨rfl, h⟩ := h
      split at h
      · rename_i n hq
        cases sm_nx_some h
        unfold sm_ln at hq
        split at hq
        · rename_i t n1 rg o s1 ha
          cases hq
          exact sd_alen hx hb hW ha hd k
        · rename_i ha
          split at hq
          · rename_i n1 f hr
            cases hq
            intro H locs LS cells slots hrel
            obtain ⟨hv1, hv2⟩ := hro _ _ _ hr
            cases sm_ro_k (sm_okl_cons.mp hrel.2.2.2.2.1).1 hv2
            exact sd_roln hx hb hv1 hd k H locs LS cells slots hrel
          · cases hq
      · cases h
    case iaload =>
      replace h := sm_g_some h; obtain ⟨rfl, h⟩ := h
      replace h := sm_ir_some h; obtain ⟨j, c, k1, i1, r, rfl, h⟩ := h
      replace h := sm_g_some h; obtain ⟨rfl, h⟩ := h
      split at h
      · rename_i v hq
        cases sm_nx_some h
        rcases sm_ld_some hq with ⟨n, rg, o, s1, ha, hin, rfl⟩ | ⟨n, f, ha, hr, -, hin, rfl⟩
        · exact sd_iald hx hb hW ha hin hd k
        · intro H locs LS cells slots hrel
          obtain ⟨hv1, hv2⟩ := hro _ _ _ hr
          cases sm_ro_k (sm_okl_cons.mp (sm_okl_cons.mp hrel.2.2.2.2.1).2).1 hv2
          exact sd_rold hx hb hv1 hin hd k H locs LS cells slots hrel
      · cases h
    case baload =>
      replace h := sm_g_some h; obtain ⟨rfl, h⟩ := h
      replace h := sm_ir_some h; obtain ⟨j, c, k1, i1, r, rfl, h⟩ := h
      replace h := sm_g_some h; obtain ⟨rfl, h⟩ := h
      split at h
      · rename_i v hq
        cases sm_nx_some h
        rcases sm_ld_some hq with ⟨n, rg, o, s1, ha, hin, rfl⟩ | ⟨n, f, ha, hr, h9, hin, rfl⟩
        · exact sd_zald hx hb hW ha hin hd k
        · cases h9
      · cases h
    case caload =>
      replace h := sm_g_some h; obtain ⟨rfl, h⟩ := h
      replace h := sm_ir_some h; obtain ⟨j, c, k1, i1, r, rfl, h⟩ := h
      replace h := sm_g_some h; obtain ⟨rfl, h⟩ := h
      split at h
      · rename_i v hq
        cases sm_nx_some h
        rcases sm_ld_some hq with ⟨n, rg, o, s1, ha, hin, rfl⟩ | ⟨n, f, ha, hr, h9, hin, rfl⟩
        · exact sd_cald hx hb hW ha hin hd k
        · cases h9
      · cases h
    case aaload =>
      replace h := sm_g_some h; obtain ⟨rfl, h⟩ := h
      replace h := sm_ir_some h; obtain ⟨j, c, k1, i1, r, rfl, h⟩ := h
      replace h := sm_g_some h; obtain ⟨rfl, h⟩ := h
      split at h
      · rename_i t n f hq
        replace h := sm_g_some h; obtain ⟨hin, h⟩ := h
        cases sm_nx_some h
        exact sd_aald hI hx hb hW hq hin hd k
      · cases h
    case iastore =>
      replace h := sm_g_some h; obtain ⟨rfl, h⟩ := h
      replace h := sm_iir_some h; obtain ⟨x, j, c, k1, i1, r, rfl, h⟩ := h
      replace h := sm_g_some h; obtain ⟨rfl, h⟩ := h
      split at h
      · rename_i M1 hq
        cases sm_nx_some h
        obtain ⟨n, rg, o, s1, ha, hin, h1, h2, rfl⟩ := sm_sr_some hq
        exact sd_iast hx hb hW hI ha hin hd k
      · cases h
    case bastore =>
      replace h := sm_g_some h; obtain ⟨rfl, h⟩ := h
      replace h := sm_iir_some h; obtain ⟨x, j, c, k1, i1, r, rfl, h⟩ := h
      replace h := sm_g_some h; obtain ⟨rfl, h⟩ := h
      split at h
      · rename_i M1 hq
        cases sm_nx_some h
        obtain ⟨n, rg, o, s1, ha, hin, h1, h2, rfl⟩ := sm_sr_some hq
        exact sd_zast hx hb hW hI ha hin (h1 rfl) hd k
      · cases h
    case castore =>
      replace h := sm_g_some h; obtain ⟨rfl, h⟩ := h
      replace h := sm_iir_some h; obtain ⟨x, j, c, k1, i1, r, rfl, h⟩ := h
      replace h := sm_g_some h; obtain ⟨rfl, h⟩ := h
      split at h
      · rename_i M1 hq
        cases sm_nx_some h
        obtain ⟨n, rg, o, s1, ha, hin, h1, h2, rfl⟩ := sm_sr_some hq
        exact sd_cast hx hb hW hI ha hin (h2 rfl) hd k
      · cases h
    case invokevirtual x =>
      replace h := sm_g_some h; obtain ⟨rfl, h⟩ := h
      unfold sm_in at h
      split at h
      · cases h
      · rename_i kd n cost cy f hq
        replace h := sm_g_some h; obtain ⟨⟨hn, hr4, hcost, hv1, hv2⟩, h⟩ := h
        obtain ⟨hkd, hv3⟩ := hv1 rfl
        subst hkd
        obtain ⟨y, bytes, maxL, ret, hh, lev1, hcs, hcon, hlev⟩ := hC _ _ _ _ _ _ hq
        unfold sm_bk at h
        cases hf : f M (st.take n).reverse with
        | none => rw [hf] at h; cases h
        | some o =>
          rw [hf] at h
          have hlv : lev1 + 1 ≤ R.frames ∧ maxL + 30 * lev1 + 119 ≤ R.locals := ⟨by omega, by omega⟩
          have kx : ∀ M1 x1, o = (M1, .error x1) → sm_GoX p l e R s m args below meth c0 Q G nL (b - cost, pc, M1, ls, st.drop n) x1 := by
            rintro M1 x1 rfl
            simp only at h
            split at h
            · rename_i pc1 kv hh1
              replace h := sm_g_some h; obtain ⟨hlk, h⟩ := h
              cases sm_nx_some h
              exact sd_catch hx hb hts hown hWf (hH _ _ _ _ hh1) hlk k
            · replace h := sm_g_some h; obtain ⟨-, h⟩ := h
              cases h
          have kk : ∀ M1 v, o = (M1, .ok v) → sm_Go p l e R s m args below meth c0 Q G nL (b - cost, pc + 3, M1, ls, v.toList ++ st.drop n) := by
            rintro M1 v rfl
            have hs := sm_nx_some h
            cases hs
            exact k
          have hsplit : (∃ as, cy = 9 ∧ (st.take n).reverse = .inr (.inr (109, 0, 0)) :: as) ∨ ∃ k1 i1 as, (st.take n).reverse = .inr (.inr (cy, k1, i1)) :: as := by
            unfold sm_cv at hv3
            split at hv3
            · rename_i c1 k1 i1 as he
              rcases (Bool.or_eq_true _ _).mp hv3 with hz | hz
              · right
                have : c1 = cy := by simpa using hz
                subst this
                exact ⟨k1, i1, as, he⟩
              · left
                have hz1 : ((cy = 9 ∧ c1 = 109) ∧ k1 = 0) ∧ i1 = 0 := by simpa using hz
                obtain ⟨⟨⟨q1, q2⟩, q3⟩, q4⟩ := hz1
                subst q2 q3 q4
                exact ⟨as, q1, he⟩
            · cases hv3
          rcases hsplit with ⟨as, hcy9, he⟩ | ⟨k1, i1, as, he⟩
          · subst hcy9
            have hst : st = as.reverse ++ .inr (.inr (109, 0, 0)) :: st.drop n := by
              have h1 : st.take n = as.reverse ++ [.inr (.inr (109, 0, 0))] := by
                have := congrArg List.reverse he
                simpa using this
              calc st = st.take n ++ st.drop n := (List.take_append_drop n st).symm
                _ = _ := by rw [h1]; simp
            have hlen : as.length + 1 = n := by
              have := congrArg List.length he
              simp only [List.length_reverse, List.length_take, List.length_cons] at this
              omega
            rw [he] at hf
            rw [hst]
            exact sd_callW hx hb hml hts hown hWf hcs hcon hlv hlen hr4 hcost hf hd kk kx
          · have hst : st = as.reverse ++ .inr (.inr (cy, k1, i1)) :: st.drop n := by
              have h1 : st.take n = as.reverse ++ [.inr (.inr (cy, k1, i1))] := by
                have := congrArg List.reverse he
                simpa using this
              calc st = st.take n ++ st.drop n := (List.take_append_drop n st).symm
                _ = _ := by rw [h1]; simp
            have hlen : as.length + 1 = n := by
              have := congrArg List.length he
              simp only [List.length_reverse, List.length_take, List.length_cons] at this
              omega
            rw [he] at hf
            rw [hst]
            exact sd_callV hx hb hml hts hown hWf hcs hcon hlv hlen hr4 hcost hf hd kk kx
    case invokestatic x =>
      replace h := sm_g_some h; obtain ⟨rfl, h⟩ := h
      split at h
      · unfold sm_in at h
        split at h
        · cases h
        · rename_i kd n cost cy f hq
          replace h := sm_g_some h; obtain ⟨⟨hn, hr4, hcost, hv1, hv2⟩, h⟩ := h
          obtain ⟨y, bytes, maxL, ret, hh, lev1, hcs, hcon, hlev⟩ := hC _ _ _ _ _ _ hq
          unfold sm_bk at h
          cases hf : f M (st.take n).reverse with
          | none => rw [hf] at h; cases h
          | some o =>
            rw [hf] at h
            have hlv : lev1 + 1 ≤ R.frames ∧ maxL + 30 * lev1 + 119 ≤ R.locals := ⟨by omega, by omega⟩
            have kx : ∀ M1 x1, o = (M1, .error x1) → sm_GoX p l e R s m args below meth c0 Q G nL (b - cost, pc, M1, ls, st.drop n) x1 := by
              rintro M1 x1 rfl
              simp only at h
              split at h
              · rename_i pc1 kv hh1
                replace h := sm_g_some h; obtain ⟨hlk, h⟩ := h
                cases sm_nx_some h
                exact sd_catch hx hb hts hown hWf (hH _ _ _ _ hh1) hlk k
              · replace h := sm_g_some h; obtain ⟨-, h⟩ := h
                cases h
            have kk : ∀ M1 v, o = (M1, .ok v) → sm_Go p l e R s m args below meth c0 Q G nL (b - cost, pc + 3, M1, ls, v.toList ++ st.drop n) := by
              rintro M1 v rfl
              have hs := sm_nx_some h
              cases hs
              exact k
            have hst : st = (st.take n).reverse.reverse ++ st.drop n := by rw [List.reverse_reverse, List.take_append_drop]
            have hlen : (st.take n).reverse.length = n := by simp only [List.length_reverse, List.length_take]; omega
            rw [hst]
            exact sd_callS hx hb hml hts hown hWf (hv2 rfl) hcs hcon hlv hlen hr4 hcost hf hd kk kx
      · rename_i hq
        replace h := sm_i2_some h; obtain ⟨x1, y1, r, rfl, h⟩ := h
        replace h := sm_g_some h; obtain ⟨hr4, h⟩ := h
        cases sm_nx_some h
        exact sd_min hx hb hml hts hown (hT.2.2.2.2.1 _ hq) sm_lib.1 hR1 hr4 hd k
      · rename_i hq
        replace h := sm_i2_some h; obtain ⟨x1, y1, r, rfl, h⟩ := h
        replace h := sm_g_some h; obtain ⟨hr4, h⟩ := h
        cases sm_nx_some h
        exact sd_max hx hb hml hts hown (hT.2.2.2.2.2.1 _ hq) sm_lib.2.1 hR1 hr4 hd k
      · rename_i hq
        replace h := sm_ac_some h; obtain ⟨c, k1, sp, c2, k2, dp, n, r, rfl, h⟩ := h
        replace h := sm_g_some h; obtain ⟨hr4, h⟩ := h
        split at h
        · rename_i M1 hq1
          cases sm_nx_some h
          exact sd_copy hx hb hml hts hown hW hI (hT.2.2.2.2.2.2.1 _ hq) sm_lib.2.2 hR1 hr4 hq1 hd k
        · cases h
      · cases h
    case new x =>
      replace h := sm_g_some h; obtain ⟨rfl, h⟩ := h
      split at h
      · replace h := sm_g_some h; obtain ⟨-, h⟩ := h
        cases h
      · cases h
    case ireturn =>
      replace h := sm_g_some h; obtain ⟨rfl, h⟩ := h
      split at h
      · replace h := sm_g_some h; obtain ⟨-, h⟩ := h
        cases h
      · cases h
    case lreturn =>
      replace h := sm_g_some h; obtain ⟨rfl, h⟩ := h
      split at h
      · replace h := sm_g_some h; obtain ⟨-, h⟩ := h
        cases h
      · cases h
    case areturn =>
      replace h := sm_g_some h; obtain ⟨rfl, h⟩ := h
      split at h
      · replace h := sm_g_some h; obtain ⟨-, h⟩ := h
        cases h
      · cases h
    case return_ =>
      replace h := sm_g_some h; obtain ⟨rfl, h⟩ := h
      split at h
      · replace h := sm_g_some h; obtain ⟨-, h⟩ := h
        cases h
      · cases h
    all_goals exact absurd (show (none : sm_X) = some _ from h) (fun q => by cases q)
end SMP
