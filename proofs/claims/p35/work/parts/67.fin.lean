/-! HOW A RUN ENDS -/
theorem sm_fin {T : sm_T} {b pc : Nat} {M : sm_M} {ls : sm_L} {st : List sm_V} {M1 : sm_M} {v : Option sm_V} (h : sm_ex T (b, pc, M, ls, st) = some (.inr (M1, .ok v))) : (sm_tab T pc = some (.return_, 1) ∧ M1 = M ∧ v = none ∧ st = []) ∨ (∃ x, sm_tab T pc = some (.ireturn, 1) ∧ M1 = M ∧ v = some (.inl x) ∧ st = [.inl x]) ∨ sm_tab T pc = some (.lreturn, 1) ∨ sm_tab T pc = some (.areturn, 1) := by
  unfold sm_ex at h
  cases ht : sm_tab T pc with
  | none => simp only [ht] at h; cases h
  | some q =>
    obtain ⟨i, len⟩ := q
    simp only [ht] at h
    cases i
    case ireturn =>
      replace h := sm_g_some h; obtain ⟨rfl, h⟩ := h
      split at h
      · replace h := sm_g_some h; obtain ⟨hk, h⟩ := h
        cases Sum.inr.inj (Option.some.inj h)
        exact Or.inr (Or.inl ⟨_, rfl, rfl, rfl, rfl⟩)
      · cases h
    case lreturn =>
      replace h := sm_g_some h; obtain ⟨rfl, h⟩ := h
      split at h
      · replace h := sm_g_some h; obtain ⟨hk, h⟩ := h
        cases Sum.inr.inj (Option.some.inj h)
        exact Or.inr (Or.inr (Or.inl rfl))
      · cases h
    case areturn =>
      replace h := sm_g_some h; obtain ⟨rfl, h⟩ := h
      split at h
      · replace h := sm_g_some h; obtain ⟨hk, h⟩ := h
        cases Sum.inr.inj (Option.some.inj h)
        exact Or.inr (Or.inr (Or.inr rfl))
      · cases h
    case return_ =>
      replace h := sm_g_some h; obtain ⟨rfl, h⟩ := h
      split at h
      · replace h := sm_g_some h; obtain ⟨hk, h⟩ := h
        cases Sum.inr.inj (Option.some.inj h)
        exact Or.inl ⟨rfl, rfl, rfl, rfl⟩
      · cases h
    case new x =>
      replace h := sm_g_some h; obtain ⟨rfl, h⟩ := h
      split at h
      · replace h := sm_g_some h; obtain ⟨-, h⟩ := h
        cases Sum.inr.inj (Option.some.inj h)
      · cases h
    case invokevirtual x =>
      replace h := sm_g_some h; obtain ⟨rfl, h⟩ := h
      unfold sm_in at h
      cases hq : sm_cal T x with
      | none => simp only [hq] at h; cases h
      | some k9 =>
        obtain ⟨kd, n, cost, cy, f⟩ := k9
        simp only [hq] at h
        replace h := sm_g_some h; obtain ⟨⟨hn, hr4, hcost, hv1, hv2⟩, h⟩ := h
        unfold sm_bk at h
        cases hf : f M (st.take n).reverse with
        | none => rw [hf] at h; cases h
        | some o1 =>
          rw [hf] at h
          obtain ⟨M2, r2⟩ := o1
          cases r2 with
          | ok r2 => cases sm_nx_some h
          | error e2 =>
            simp only at h
            split at h
            · obtain ⟨-, h⟩ := sm_g_some h
              cases sm_nx_some h
            · obtain ⟨hk, h⟩ := sm_g_some h
              cases Sum.inr.inj (Option.some.inj h)
    case invokestatic x =>
      replace h := sm_g_some h; obtain ⟨rfl, h⟩ := h
      split at h
      · unfold sm_in at h
        cases hq : sm_cal T x with
        | none => simp only [hq] at h; cases h
        | some k9 =>
          obtain ⟨kd, n, cost, cy, f⟩ := k9
          simp only [hq] at h
          replace h := sm_g_some h; obtain ⟨⟨hn, hr4, hcost, hv1, hv2⟩, h⟩ := h
          unfold sm_bk at h
          cases hf : f M (st.take n).reverse with
          | none => rw [hf] at h; cases h
          | some o1 =>
            rw [hf] at h
            obtain ⟨M2, r2⟩ := o1
            cases r2 with
            | ok r2 => cases sm_nx_some h
            | error e2 =>
              simp only at h
              split at h
              · obtain ⟨-, h⟩ := sm_g_some h
                cases sm_nx_some h
              · obtain ⟨hk, h⟩ := sm_g_some h
                cases Sum.inr.inj (Option.some.inj h)
      · replace h := sm_i2_some h; obtain ⟨x1, y1, r, rfl, h⟩ := h
        obtain ⟨-, h⟩ := sm_g_some h
        cases sm_nx_some h
      · replace h := sm_i2_some h; obtain ⟨x1, y1, r, rfl, h⟩ := h
        obtain ⟨-, h⟩ := sm_g_some h
        cases sm_nx_some h
      · replace h := sm_ac_some h; obtain ⟨c, k1, sp, c2, k2, dp, n, r, rfl, h⟩ := h
        obtain ⟨-, h⟩ := sm_g_some h
        split at h
        · cases sm_nx_some h
        · cases h
      · cases h
    case ifCond cd off =>
      cases cd <;> (replace h := sm_g_some h; obtain ⟨rfl, h⟩ := h; replace h := sm_i1_some h; obtain ⟨x, r, rfl, h⟩ := h; obtain ⟨tgt, ht1, ⟨hc, hz⟩ | ⟨hc, hz⟩⟩ := sm_br_some h <;> cases hz)
    case if_icmp cd off =>
      cases cd <;> (replace h := sm_g_some h; obtain ⟨rfl, h⟩ := h; replace h := sm_i2_some h; obtain ⟨x, y, r, rfl, h⟩ := h; obtain ⟨tgt, ht1, ⟨hc, hz⟩ | ⟨hc, hz⟩⟩ := sm_br_some h <;> cases hz)
    case tableswitch d lo hi offs =>
      replace h := sm_i1_some h; obtain ⟨x, r, rfl, h⟩ := h
      split at h
      · obtain ⟨tgt, ht1, hz⟩ := sm_jp_some h
        cases hz
      · cases h
    case goto off =>
      replace h := sm_g_some h; obtain ⟨rfl, h⟩ := h
      obtain ⟨tgt, ht1, hz⟩ := sm_jp_some h
      cases hz
    case iconst n =>
      replace h := sm_g_some h; obtain ⟨rfl, h⟩ := h
      cases sm_nx_some h
    case bipush n =>
      replace h := sm_g_some h; obtain ⟨rfl, h⟩ := h
      cases sm_nx_some h
    case sipush n =>
      replace h := sm_g_some h; obtain ⟨rfl, h⟩ := h
      cases sm_nx_some h
    case lconst n =>
      replace h := sm_g_some h; obtain ⟨rfl, h⟩ := h
      cases sm_nx_some h
    case ldc x =>
      replace h := sm_g_some h; obtain ⟨rfl, h⟩ := h
      cases hq : sm_k32 T x with
      | none => rw [hq] at h; cases h
      | some v =>
        rw [hq] at h
        cases sm_nx_some h
    case ldc_w x =>
      replace h := sm_g_some h; obtain ⟨rfl, h⟩ := h
      cases hq : sm_k32 T x with
      | none => rw [hq] at h; cases h
      | some v =>
        rw [hq] at h
        cases sm_nx_some h
    case ldc2_w x =>
      replace h := sm_g_some h; obtain ⟨rfl, h⟩ := h
      cases hq : sm_k64 T x with
      | none => rw [hq] at h; cases h
      | some v =>
        rw [hq] at h
        cases sm_nx_some h
    case iload_n i =>
      replace h := sm_g_some h; obtain ⟨rfl, h⟩ := h
      split at h
      · rename_i x hq
        cases sm_nx_some h
      · cases h
    case iload i =>
      replace h := sm_g_some h; obtain ⟨rfl, h⟩ := h
      split at h
      · rename_i x hq
        cases sm_nx_some h
      · cases h
    case lload_n i =>
      replace h := sm_g_some h; obtain ⟨rfl, h⟩ := h
      split at h
      · rename_i x hq
        cases sm_nx_some h
      · cases h
    case lload i =>
      replace h := sm_g_some h; obtain ⟨rfl, h⟩ := h
      split at h
      · rename_i x hq
        cases sm_nx_some h
      · cases h
    case aload_n i =>
      replace h := sm_g_some h; obtain ⟨rfl, h⟩ := h
      split at h
      · rename_i x hq
        cases sm_nx_some h
      · cases h
    case aload i =>
      replace h := sm_g_some h; obtain ⟨rfl, h⟩ := h
      split at h
      · rename_i x hq
        cases sm_nx_some h
      · cases h
    case istore_n i =>
      replace h := sm_g_some h; obtain ⟨rfl, h⟩ := h
      replace h := sm_i1_some h; obtain ⟨x, r, rfl, h⟩ := h
      split at h
      · rename_i l1 hq
        cases sm_nx_some h
      · cases h
    case istore i =>
      replace h := sm_g_some h; obtain ⟨rfl, h⟩ := h
      replace h := sm_i1_some h; obtain ⟨x, r, rfl, h⟩ := h
      split at h
      · rename_i l1 hq
        cases sm_nx_some h
      · cases h
    case lstore_n i =>
      replace h := sm_g_some h; obtain ⟨rfl, h⟩ := h
      replace h := sm_l1_some h; obtain ⟨x, r, rfl, h⟩ := h
      split at h
      · rename_i l1 hq
        cases sm_nx_some h
      · cases h
    case lstore i =>
      replace h := sm_g_some h; obtain ⟨rfl, h⟩ := h
      replace h := sm_l1_some h; obtain ⟨x, r, rfl, h⟩ := h
      split at h
      · rename_i l1 hq
        cases sm_nx_some h
      · cases h
    case astore_n i =>
      replace h := sm_g_some h; obtain ⟨rfl, h⟩ := h
      replace h := sm_r1_some h; obtain ⟨c, n, i1, r, rfl, h⟩ := h
      split at h
      · rename_i l1 hq
        cases sm_nx_some h
      · cases h
    case astore i =>
      replace h := sm_g_some h; obtain ⟨rfl, h⟩ := h
      replace h := sm_r1_some h; obtain ⟨c, n, i1, r, rfl, h⟩ := h
      split at h
      · rename_i l1 hq
        cases sm_nx_some h
      · cases h
    case iinc i n =>
      replace h := sm_g_some h; obtain ⟨rfl, h⟩ := h
      split at h
      · rename_i x hq
        split at h
        · rename_i l1 hq1
          cases sm_nx_some h
        · cases h
      · cases h
    case iadd =>
      replace h := sm_g_some h; obtain ⟨rfl, h⟩ := h
      replace h := sm_i2_some h; obtain ⟨x, y, r, rfl, h⟩ := h
      cases sm_nx_some h
    case isub =>
      replace h := sm_g_some h; obtain ⟨rfl, h⟩ := h
      replace h := sm_i2_some h; obtain ⟨x, y, r, rfl, h⟩ := h
      cases sm_nx_some h
    case imul =>
      replace h := sm_g_some h; obtain ⟨rfl, h⟩ := h
      replace h := sm_i2_some h; obtain ⟨x, y, r, rfl, h⟩ := h
      cases sm_nx_some h
    case iand =>
      replace h := sm_g_some h; obtain ⟨rfl, h⟩ := h
      replace h := sm_i2_some h; obtain ⟨x, y, r, rfl, h⟩ := h
      cases sm_nx_some h
    case ior =>
      replace h := sm_g_some h; obtain ⟨rfl, h⟩ := h
      replace h := sm_i2_some h; obtain ⟨x, y, r, rfl, h⟩ := h
      cases sm_nx_some h
    case ishl =>
      replace h := sm_g_some h; obtain ⟨rfl, h⟩ := h
      replace h := sm_i2_some h; obtain ⟨x, y, r, rfl, h⟩ := h
      cases sm_nx_some h
    case idiv =>
      replace h := sm_g_some h; obtain ⟨rfl, h⟩ := h
      replace h := sm_i2_some h; obtain ⟨x, y, r, rfl, h⟩ := h
      replace h := sm_g_some h; obtain ⟨h0, h⟩ := h
      cases sm_nx_some h
    case irem =>
      replace h := sm_g_some h; obtain ⟨rfl, h⟩ := h
      replace h := sm_i2_some h; obtain ⟨x, y, r, rfl, h⟩ := h
      replace h := sm_g_some h; obtain ⟨h0, h⟩ := h
      cases sm_nx_some h
    case newarray t =>
      cases t
      case int =>
        replace h := sm_g_some h; obtain ⟨rfl, h⟩ := h
        split at h
        · split at h
          · replace h := sm_g_some h; obtain ⟨-, h⟩ := h
            cases sm_nx_some h
          · cases h
        · cases h
      all_goals exact absurd (show (none : sm_X) = some _ from h) (fun q => by cases q)
    case ineg =>
      replace h := sm_g_some h; obtain ⟨rfl, h⟩ := h
      replace h := sm_i1_some h; obtain ⟨x, r, rfl, h⟩ := h
      cases sm_nx_some h
    case ladd =>
      replace h := sm_g_some h; obtain ⟨rfl, h⟩ := h
      replace h := sm_l2_some h; obtain ⟨x, y, r, rfl, h⟩ := h
      cases sm_nx_some h
    case lsub =>
      replace h := sm_g_some h; obtain ⟨rfl, h⟩ := h
      replace h := sm_l2_some h; obtain ⟨x, y, r, rfl, h⟩ := h
      cases sm_nx_some h
    case lmul =>
      replace h := sm_g_some h; obtain ⟨rfl, h⟩ := h
      replace h := sm_l2_some h; obtain ⟨x, y, r, rfl, h⟩ := h
      cases sm_nx_some h
    case land =>
      replace h := sm_g_some h; obtain ⟨rfl, h⟩ := h
      replace h := sm_l2_some h; obtain ⟨x, y, r, rfl, h⟩ := h
      cases sm_nx_some h
    case lor =>
      replace h := sm_g_some h; obtain ⟨rfl, h⟩ := h
      replace h := sm_l2_some h; obtain ⟨x, y, r, rfl, h⟩ := h
      cases sm_nx_some h
    case lcmp =>
      replace h := sm_g_some h; obtain ⟨rfl, h⟩ := h
      replace h := sm_l2_some h; obtain ⟨x, y, r, rfl, h⟩ := h
      cases sm_nx_some h
    case ldiv =>
      replace h := sm_g_some h; obtain ⟨rfl, h⟩ := h
      replace h := sm_l2_some h; obtain ⟨x, y, r, rfl, h⟩ := h
      replace h := sm_g_some h; obtain ⟨h0, h⟩ := h
      cases sm_nx_some h
    case lrem =>
      replace h := sm_g_some h; obtain ⟨rfl, h⟩ := h
      replace h := sm_l2_some h; obtain ⟨x, y, r, rfl, h⟩ := h
      replace h := sm_g_some h; obtain ⟨h0, h⟩ := h
      cases sm_nx_some h
    case lshl =>
      replace h := sm_g_some h; obtain ⟨rfl, h⟩ := h
      replace h := sm_li_some h; obtain ⟨x, y, r, rfl, h⟩ := h
      cases sm_nx_some h
    case lushr =>
      replace h := sm_g_some h; obtain ⟨rfl, h⟩ := h
      replace h := sm_li_some h; obtain ⟨x, y, r, rfl, h⟩ := h
      cases sm_nx_some h
    case i2l =>
      replace h := sm_g_some h; obtain ⟨rfl, h⟩ := h
      replace h := sm_i1_some h; obtain ⟨x, r, rfl, h⟩ := h
      cases sm_nx_some h
    case l2i =>
      replace h := sm_g_some h; obtain ⟨rfl, h⟩ := h
      replace h := sm_l1_some h; obtain ⟨x, r, rfl, h⟩ := h
      cases sm_nx_some h
    case i2c =>
      replace h := sm_g_some h; obtain ⟨rfl, h⟩ := h
      replace h := sm_i1_some h; obtain ⟨x, r, rfl, h⟩ := h
      cases sm_nx_some h
    case dup =>
      replace h := sm_g_some h; obtain ⟨rfl, h⟩ := h
      split at h
      · replace h := sm_g_some h; obtain ⟨h0, h⟩ := h
        cases sm_nx_some h
      · cases h
    case pop =>
      replace h := sm_g_some h; obtain ⟨rfl, h⟩ := h
      split at h
      · replace h := sm_g_some h; obtain ⟨h0, h⟩ := h
        cases sm_nx_some h
      · cases h
    case dup2 =>
      replace h := sm_g_some h; obtain ⟨rfl, h⟩ := h
      split at h
      · replace h := sm_g_some h; obtain ⟨⟨h0, h1⟩, h⟩ := h
        cases sm_nx_some h
      · cases h
    case getfield x =>
      replace h := sm_g_some h; obtain ⟨rfl, h⟩ := h
      replace h := sm_r1_some h; obtain ⟨c, k1, i1, r, rfl, h⟩ := h
      split at h
      · rename_i ci f hq
        replace h := sm_g_some h; obtain ⟨rfl, h⟩ := h
        split at h
        · rename_i n hf
          cases sm_nx_some h
        · rename_i a j hf
          cases sm_nx_some h
        · cases h
      · cases h
    case putfield x =>
      replace h := sm_g_some h; obtain ⟨rfl, h⟩ := h
      replace h := sm_ir_some h; obtain ⟨v, c, k1, i1, r, rfl, h⟩ := h
      split at h
      · rename_i ci f hq
        replace h := sm_g_some h; obtain ⟨⟨rfl, hz⟩, h⟩ := h
        split at h
        · rename_i a j hf
          cases sm_nx_some h
        · cases h
      · cases h
    case getstatic x =>
      replace h := sm_g_some h; obtain ⟨rfl, h⟩ := h
      split at h
      · rename_i c hq
        cases sm_nx_some h
      · cases h
    case arraylength =>
      replace h := sm_g_some h; obtain ⟨rfl, h⟩ := h
      replace h := sm_r1_some h; obtain ⟨c, k1, i1, r, rfl, h⟩ := h
      replace h := sm_g_some h; obtain ⟨rfl, h⟩ := h
      split at h
      · rename_i n hq
        cases sm_nx_some h
      · cases h
    case iaload =>
      replace h := sm_g_some h; obtain ⟨rfl, h⟩ := h
      replace h := sm_ir_some h; obtain ⟨j, c, k1, i1, r, rfl, h⟩ := h
      replace h := sm_g_some h; obtain ⟨rfl, h⟩ := h
      split at h
      · rename_i v hq
        cases sm_nx_some h
      · cases h
    case baload =>
      replace h := sm_g_some h; obtain ⟨rfl, h⟩ := h
      replace h := sm_ir_some h; obtain ⟨j, c, k1, i1, r, rfl, h⟩ := h
      replace h := sm_g_some h; obtain ⟨rfl, h⟩ := h
      split at h
      · rename_i v hq
        cases sm_nx_some h
      · cases h
    case caload =>
      replace h := sm_g_some h; obtain ⟨rfl, h⟩ := h
      replace h := sm_ir_some h; obtain ⟨j, c, k1, i1, r, rfl, h⟩ := h
      replace h := sm_g_some h; obtain ⟨rfl, h⟩ := h
      split at h
      · rename_i v hq
        cases sm_nx_some h
      · cases h
    case aaload =>
      replace h := sm_g_some h; obtain ⟨rfl, h⟩ := h
      replace h := sm_ir_some h; obtain ⟨j, c, k1, i1, r, rfl, h⟩ := h
      replace h := sm_g_some h; obtain ⟨rfl, h⟩ := h
      split at h
      · rename_i t n f hq
        replace h := sm_g_some h; obtain ⟨hin, h⟩ := h
        cases sm_nx_some h
      · cases h
    case iastore =>
      replace h := sm_g_some h; obtain ⟨rfl, h⟩ := h
      replace h := sm_iir_some h; obtain ⟨x, j, c, k1, i1, r, rfl, h⟩ := h
      replace h := sm_g_some h; obtain ⟨rfl, h⟩ := h
      split at h
      · rename_i M1 hq
        cases sm_nx_some h
      · cases h
    case bastore =>
      replace h := sm_g_some h; obtain ⟨rfl, h⟩ := h
      replace h := sm_iir_some h; obtain ⟨x, j, c, k1, i1, r, rfl, h⟩ := h
      replace h := sm_g_some h; obtain ⟨rfl, h⟩ := h
      split at h
      · rename_i M1 hq
        cases sm_nx_some h
      · cases h
    case castore =>
      replace h := sm_g_some h; obtain ⟨rfl, h⟩ := h
      replace h := sm_iir_some h; obtain ⟨x, j, c, k1, i1, r, rfl, h⟩ := h
      replace h := sm_g_some h; obtain ⟨rfl, h⟩ := h
      split at h
      · rename_i M1 hq
        cases sm_nx_some h
      · cases h
    all_goals exact absurd (show (none : sm_X) = some _ from h) (fun q => by cases q)
