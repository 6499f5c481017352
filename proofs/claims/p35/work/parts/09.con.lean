/-! SOUNDNESS: all steps; the ends; contracts out of tables -/
section SMQ
variable {p : Program} {l : Launch} {e : Env} {R : Room} {s : State} {m : MethodId} {args : Array Value} {below : List Frame} {meth : Method} {c0 : Code} {Q : State → Prop} {G : sm_G} {nL : Nat}
variable {cc : ByteArray} {own : String} {T : sm_T} {lev : Nat}
theorem sm_steps (hx : p.tables.exec = Jvm.exec) (hb : c0.code = cc) (hml : c0.maxLocals = nL) (hts : ∀ w ∈ sm_W, w.before args s = true) (hown : s.vm.findClass own = some m.cls) (hWf : sm_Wf G s) (hI : sm_Inj G) (hT : sm_Tok T own cc) (hN : ∀ pc, sm_exn T pc ≠ some 60) (hC : sm_Cal l G T own lev) (hro : sm_Ro G T s) (hR : lev ≤ R.frames ∧ 30 * lev + 100 ≤ R.locals ∧ 1 ≤ R.frames)
    (hH : ∀ pc x pc1 k, sm_hnd T pc x = some (pc1, k) → sm_Hn own cc c0.exceptionTable.toList pc x pc1 k nL) {o : sm_O} (hend : ∀ S, sm_ex T S = some (.inr o) → sm_Go p l e R s m args below meth c0 Q G nL S) : ∀ (n : Nat) (S : sm_S), sm_run T n S = some o → sm_Go p l e R s m args below meth c0 Q G nL S
  | 0, _, h => by cases h
  | n + 1, S, h => by
    simp only [sm_run] at h
    cases hz : sm_ex T S with
    | none => rw [hz] at h; cases h
    | some z =>
      rw [hz] at h
      cases z with
      | inl S1 => exact sm_step hx hb hml hts hown hWf hI hT hC hro hR hH (hN _) hz (sm_steps hx hb hml hts hown hWf hI hT hN hC hro hR hH hend n S1 h)
      | inr o1 =>
        cases h
        exact hend S hz
def sm_rets (k : Nat) (ret : Option FieldType) : Prop := (k = 0 → ret = none) ∧ (k = 1 → ret = some .int) ∧ (k = 11 → ret = some .int) ∧ (k = 2 → ret = some .boolean) ∧ (k = 3 → ret = some .long) ∧ (k = 4 → ∃ n, ret = some (.object n))
/-- the ends of a method -/
theorem sm_term {mc ms : Nat} (hx : p.tables.exec = Jvm.exec) (hb : c0.code = cc) (hml : c0.maxLocals = nL) (hfl : l.stackTraces = false) (hts : ∀ w ∈ sm_W, w.before args s = true) (hown : s.vm.findClass own = some m.cls) (hWf : sm_Wf G s) (hT : sm_Tok T own cc) (hC : sm_Cal l G T own lev) (hR : lev ≤ R.frames ∧ 30 * lev + 100 ≤ R.locals) (hmc : R.cells ≤ mc ∧ R.slots ≤ ms) (hlocks : meth.locks = false)
    (hr : sm_rets (sm_rk T) meth.sig.returnType) (hnt : sm_rk T < 10 → ∀ x ∈ c0.exceptionTable.toList, False) (hX : ∀ pc x, sm_exn T pc = some x → x ≠ 60 → sm_rk T < 10 ∧ 6 ≤ R.frames ∧ sm_Xt own cc pc x) {S : sm_S} {o : sm_O} (h : sm_ex T S = some (.inr o)) : sm_Go p l e R s m args below meth c0 (vx_MQ below (sm_Qc G o) (sm_XC G o) args s mc ms (sm_A G)) G nL S := by
  obtain ⟨b, pc, M, ls, st⟩ := S
  unfold sm_ex at h
  cases ht : sm_tab T pc with
  | none => simp only [ht] at h; cases h
  | some q =>
    obtain ⟨i, len⟩ := q
    simp only [ht] at h
    have hd := hT.1 pc i len ht
    have hret : ∀ (v : Option sm_V) (H : Heap) (locs : List Loc) (LS : Array Slot) (cells slots : Nat), sm_Rl R s G nL (b, pc, M, ls, st) H locs LS cells slots → o = (M, .ok v) → sm_okl G v.toList → ∀ t : State, t.heap = H → s.WarmedH t.vm → sm_Qc G o args s (.returned (v.map (sm_c G))) t := fun v H locs LS cells slots hrel ho hv t ht hW =>
      ⟨v, by rw [ho], rfl, hv, by rw [ho, ht]; exact hrel.1, hrel.2.1.F ht⟩
    cases i
    case ireturn =>
      replace h := sm_g_some h; obtain ⟨rfl, h⟩ := h
      split at h
      · rename_i x
        replace h := sm_g_some h; obtain ⟨hk, h⟩ := h
        have ho : o = (M, .ok (some (.inl x))) := (Sum.inr.inj (Option.some.inj h)).symm
        intro H locs LS cells slots hrel
        have hcs : cells ≤ mc ∧ slots ≤ ms := ⟨by have := hrel.2.2.2.2.2.1; simp only at this; omega, by have := hrel.2.2.2.2.2.2; simp only at this; omega⟩
        refine W.widen (k := mc) (n := ms) hcs.1 hcs.2 (vx_ret ?_)
        have hq := hret (some (.inl x)) H locs LS cells slots hrel ho (sm_okl_cons.mpr ⟨trivial, sm_okl_nil.mpr trivial⟩)
        rcases hk with hk | hk | ⟨hk, hz⟩
        · exact W.iret hx hb (hr.2.1 hk) hq hrel.2.1.2.2 hd hlocks
        · exact W.iret hx hb (hr.2.2.1 hk) hq hrel.2.1.2.2 hd hlocks
        · exact W.zret hx hb (hr.2.2.2.1 hk) (sm_fit_b hz).1 hq hrel.2.1.2.2 hd hlocks
      · cases h
    case lreturn =>
      replace h := sm_g_some h; obtain ⟨rfl, h⟩ := h
      split at h
      · rename_i x
        replace h := sm_g_some h; obtain ⟨hk, h⟩ := h
        have ho : o = (M, .ok (some (.inr (.inl x)))) := (Sum.inr.inj (Option.some.inj h)).symm
        intro H locs LS cells slots hrel
        have hcs : cells ≤ mc ∧ slots ≤ ms := ⟨by have := hrel.2.2.2.2.2.1; simp only at this; omega, by have := hrel.2.2.2.2.2.2; simp only at this; omega⟩
        refine W.widen (k := mc) (n := ms) hcs.1 hcs.2 (vx_ret ?_)
        exact W.lret hx hb (hr.2.2.2.2.1 hk) (hret (some (.inr (.inl x))) H locs LS cells slots hrel ho (sm_okl_cons.mpr ⟨trivial, sm_okl_nil.mpr trivial⟩)) hrel.2.1.2.2 hd hlocks
      · cases h
    case areturn =>
      replace h := sm_g_some h; obtain ⟨rfl, h⟩ := h
      split at h
      · rename_i x
        replace h := sm_g_some h; obtain ⟨hk, h⟩ := h
        have ho : o = (M, .ok (some (.inr (.inr x)))) := (Sum.inr.inj (Option.some.inj h)).symm
        intro H locs LS cells slots hrel
        have hcs : cells ≤ mc ∧ slots ≤ ms := ⟨by have := hrel.2.2.2.2.2.1; simp only at this; omega, by have := hrel.2.2.2.2.2.2; simp only at this; omega⟩
        refine W.widen (k := mc) (n := ms) hcs.1 hcs.2 (vx_ret ?_)
        obtain ⟨n, hn⟩ := hr.2.2.2.2.2 hk
        obtain ⟨c1, k1, i1⟩ := x
        exact W.aret hx hb hn (Or.inl ⟨n, rfl⟩) (Or.inr ⟨_, rfl⟩) (hret (some (.inr (.inr (c1, k1, i1)))) H locs LS cells slots hrel ho hrel.2.2.2.2.1) hrel.2.1.2.2 hd hlocks
      · cases h
    case return_ =>
      replace h := sm_g_some h; obtain ⟨rfl, h⟩ := h
      split at h
      · replace h := sm_g_some h; obtain ⟨hk, h⟩ := h
        have ho : o = (M, .ok none) := (Sum.inr.inj (Option.some.inj h)).symm
        intro H locs LS cells slots hrel
        have hcs : cells ≤ mc ∧ slots ≤ ms := ⟨by have := hrel.2.2.2.2.2.1; simp only at this; omega, by have := hrel.2.2.2.2.2.2; simp only at this; omega⟩
        refine W.widen (k := mc) (n := ms) hcs.1 hcs.2 (vx_ret ?_)
        exact W.vret hx hb (hr.1 hk) (hret none H locs LS cells slots hrel ho (sm_okl_nil.mpr trivial)) hrel.2.1.2.2 hd hlocks
      · cases h
    case new x =>
      replace h := sm_g_some h; obtain ⟨rfl, h⟩ := h
      split at h
      · rename_i x1 hq
        replace h := sm_g_some h; obtain ⟨⟨h4, h1, h60⟩, h⟩ := h
        have ho : o = (M, .error x1) := (Sum.inr.inj (Option.some.inj h)).symm
        obtain ⟨hk, hf, hxt⟩ := hX pc x1 hq h60
        exact sd_throw hx hb hml hfl hts hown hWf hlocks (hnt hk) ⟨hf, by omega⟩ hmc h4 h1 ho hxt
      · cases h
    case invokevirtual x =>
      replace h := sm_g_some h; obtain ⟨rfl, h⟩ := h
      unfold sm_in at h
      split at h
      · cases h
      · rename_i kd n cost cy f hq
        replace h := sm_g_some h; obtain ⟨⟨hn, hr4, hcost, hv1, hv2⟩, h⟩ := h
        obtain ⟨hkd, hv3⟩ := hv1 rfl
        subst hkd
        obtain ⟨y, bytes, maxL, ret, hh, lev1, hcs, hcon, hlev⟩ := hC _ _ _ _ _ _ hq
        unfold sm_bk at h
        cases hf : f M (st.take n).reverse with
        | none => rw [hf] at h; cases h
        | some o1 =>
          rw [hf] at h
          have hlv : lev1 + 1 ≤ R.frames ∧ maxL + 30 * lev1 + 119 ≤ R.locals := ⟨by omega, by omega⟩
          have kk : ∀ M1 v, o1 = (M1, .ok v) → sm_Go p l e R s m args below meth c0 (vx_MQ below (sm_Qc G o) (sm_XC G o) args s mc ms (sm_A G)) G nL (b - cost, pc + 3, M1, ls, v.toList ++ st.drop n) := by
            rintro M1 v rfl
            have hs := sm_nx_some h
            cases hs
          have kx : ∀ M1 x1, o1 = (M1, .error x1) → sm_GoX p l e R s m args below meth c0 (vx_MQ below (sm_Qc G o) (sm_XC G o) args s mc ms (sm_A G)) G nL (b - cost, pc, M1, ls, st.drop n) x1 := by
            rintro M1 x1 rfl
            simp only at h
            split at h
            · obtain ⟨-, h⟩ := sm_g_some h
              cases sm_nx_some h
            · obtain ⟨hk, h⟩ := sm_g_some h
              have ho : o = (M1, .error x1) := (Sum.inr.inj (Option.some.inj h)).symm
              intro H locs LS cells slots q ce hrel hce hcv hcl
              exact vx_out (fun z hz => (hnt hk z hz).elim) hlocks hce hcv hcl (fun t ht hal => ⟨x1, by rw [ho], rfl, by rw [ho, ht]; exact hrel.1, hrel.2.1.F ht⟩) hrel.2.1.2.2 (by have := hrel.2.2.2.2.2.1; simp only at this; omega) (by have := hrel.2.2.2.2.2.2; simp only at this; omega)
          have hsplit : (∃ as, cy = 9 ∧ (st.take n).reverse = .inr (.inr (109, 0, 0)) :: as) ∨ ∃ k1 i1 as, (st.take n).reverse = .inr (.inr (cy, k1, i1)) :: as := by
            unfold sm_cv at hv3
            split at hv3
            · rename_i c1 k1 i1 as he
              rcases (Bool.or_eq_true _ _).mp hv3 with hz | hz
              · right
                have : c1 = cy := by simpa using hz
                subst this
                exact ⟨k1, i1, as, he⟩
              · left
                have hz1 : ((cy = 9 ∧ c1 = 109) ∧ k1 = 0) ∧ i1 = 0 := by simpa using hz
                obtain ⟨⟨⟨q1, q2⟩, q3⟩, q4⟩ := hz1
                subst q2 q3 q4
                exact ⟨as, q1, he⟩
            · cases hv3
          rcases hsplit with ⟨as, hcy9, he⟩ | ⟨k1, i1, as, he⟩
          · subst hcy9
            have hst : st = as.reverse ++ .inr (.inr (109, 0, 0)) :: st.drop n := by
              have h1 : st.take n = as.reverse ++ [.inr (.inr (109, 0, 0))] := by
                have := congrArg List.reverse he
                simpa using this
              calc st = st.take n ++ st.drop n := (List.take_append_drop n st).symm
                _ = _ := by rw [h1]; simp
            have hlen : as.length + 1 = n := by
              have := congrArg List.length he
              simp only [List.length_reverse, List.length_take, List.length_cons] at this
              omega
            rw [he] at hf
            rw [hst]
            exact sd_callW hx hb hml hts hown hWf hcs hcon hlv hlen hr4 hcost hf hd kk kx
          · have hst : st = as.reverse ++ .inr (.inr (cy, k1, i1)) :: st.drop n := by
              have h1 : st.take n = as.reverse ++ [.inr (.inr (cy, k1, i1))] := by
                have := congrArg List.reverse he
                simpa using this
              calc st = st.take n ++ st.drop n := (List.take_append_drop n st).symm
                _ = _ := by rw [h1]; simp
            have hlen : as.length + 1 = n := by
              have := congrArg List.length he
              simp only [List.length_reverse, List.length_take, List.length_cons] at this
              omega
            rw [he] at hf
            rw [hst]
            exact sd_callV hx hb hml hts hown hWf hcs hcon hlv hlen hr4 hcost hf hd kk kx
    case invokestatic x =>
      replace h := sm_g_some h; obtain ⟨rfl, h⟩ := h
      split at h
      · unfold sm_in at h
        split at h
        · cases h
        · rename_i kd n cost cy f hq
          replace h := sm_g_some h; obtain ⟨⟨hn, hr4, hcost, hv1, hv2⟩, h⟩ := h
          obtain ⟨y, bytes, maxL, ret, hh, lev1, hcs, hcon, hlev⟩ := hC _ _ _ _ _ _ hq
          unfold sm_bk at h
          cases hf : f M (st.take n).reverse with
          | none => rw [hf] at h; cases h
          | some o1 =>
            rw [hf] at h
            have hlv : lev1 + 1 ≤ R.frames ∧ maxL + 30 * lev1 + 119 ≤ R.locals := ⟨by omega, by omega⟩
            have kk : ∀ M1 v, o1 = (M1, .ok v) → sm_Go p l e R s m args below meth c0 (vx_MQ below (sm_Qc G o) (sm_XC G o) args s mc ms (sm_A G)) G nL (b - cost, pc + 3, M1, ls, v.toList ++ st.drop n) := by
              rintro M1 v rfl
              have hs := sm_nx_some h
              cases hs
            have kx : ∀ M1 x1, o1 = (M1, .error x1) → sm_GoX p l e R s m args below meth c0 (vx_MQ below (sm_Qc G o) (sm_XC G o) args s mc ms (sm_A G)) G nL (b - cost, pc, M1, ls, st.drop n) x1 := by
              rintro M1 x1 rfl
              simp only at h
              split at h
              · obtain ⟨-, h⟩ := sm_g_some h
                cases sm_nx_some h
              · obtain ⟨hk, h⟩ := sm_g_some h
                have ho : o = (M1, .error x1) := (Sum.inr.inj (Option.some.inj h)).symm
                intro H locs LS cells slots q ce hrel hce hcv hcl
                exact vx_out (fun z hz => (hnt hk z hz).elim) hlocks hce hcv hcl (fun t ht hal => ⟨x1, by rw [ho], rfl, by rw [ho, ht]; exact hrel.1, hrel.2.1.F ht⟩) hrel.2.1.2.2 (by have := hrel.2.2.2.2.2.1; simp only at this; omega) (by have := hrel.2.2.2.2.2.2; simp only at this; omega)
            have hst : st = (st.take n).reverse.reverse ++ st.drop n := by rw [List.reverse_reverse, List.take_append_drop]
            have hlen : (st.take n).reverse.length = n := by simp only [List.length_reverse, List.length_take]; omega
            rw [hst]
            exact sd_callS hx hb hml hts hown hWf (hv2 rfl) hcs hcon hlv hlen hr4 hcost hf hd kk kx
      · replace h := sm_i2_some h; obtain ⟨x1, y1, r, rfl, h⟩ := h
        obtain ⟨-, h⟩ := sm_g_some h
        cases sm_nx_some h
      · replace h := sm_i2_some h; obtain ⟨x1, y1, r, rfl, h⟩ := h
        obtain ⟨-, h⟩ := sm_g_some h
        cases sm_nx_some h
      · replace h := sm_ac_some h; obtain ⟨c, k1, sp, c2, k2, dp, n, r, rfl, h⟩ := h
        obtain ⟨-, h⟩ := sm_g_some h
        split at h
        · cases sm_nx_some h
        · cases h
      · cases h
    case ifCond cd off =>
      cases cd <;> (replace h := sm_g_some h; obtain ⟨rfl, h⟩ := h; replace h := sm_i1_some h; obtain ⟨x, r, rfl, h⟩ := h; obtain ⟨tgt, ht1, ⟨hc, hz⟩ | ⟨hc, hz⟩⟩ := sm_br_some h <;> cases hz)
    case if_icmp cd off =>
      cases cd <;> (replace h := sm_g_some h; obtain ⟨rfl, h⟩ := h; replace h := sm_i2_some h; obtain ⟨x, y, r, rfl, h⟩ := h; obtain ⟨tgt, ht1, ⟨hc, hz⟩ | ⟨hc, hz⟩⟩ := sm_br_some h <;> cases hz)
    case tableswitch d lo hi offs =>
      replace h := sm_i1_some h; obtain ⟨x, r, rfl, h⟩ := h
      split at h
      · obtain ⟨tgt, ht1, hz⟩ := sm_jp_some h
        cases hz
      · cases h
    case goto off =>
      replace h := sm_g_some h; obtain ⟨rfl, h⟩ := h
      obtain ⟨tgt, ht1, hz⟩ := sm_jp_some h
      cases hz
    case iconst n =>
      replace h := sm_g_some h; obtain ⟨rfl, h⟩ := h
      cases sm_nx_some h
    case bipush n =>
      replace h := sm_g_some h; obtain ⟨rfl, h⟩ := h
      cases sm_nx_some h
    case sipush n =>
      replace h := sm_g_some h; obtain ⟨rfl, h⟩ := h
      cases sm_nx_some h
    case lconst n =>
      replace h := sm_g_some h; obtain ⟨rfl, h⟩ := h
      cases sm_nx_some h
    case ldc x =>
      replace h := sm_g_some h; obtain ⟨rfl, h⟩ := h
      cases hq : sm_k32 T x with
      | none => rw [hq] at h; cases h
      | some v =>
        rw [hq] at h
        cases sm_nx_some h
    case ldc_w x =>
      replace h := sm_g_some h; obtain ⟨rfl, h⟩ := h
      cases hq : sm_k32 T x with
      | none => rw [hq] at h; cases h
      | some v =>
        rw [hq] at h
        cases sm_nx_some h
    case ldc2_w x =>
      replace h := sm_g_some h; obtain ⟨rfl, h⟩ := h
      cases hq : sm_k64 T x with
      | none => rw [hq] at h; cases h
      | some v =>
        rw [hq] at h
        cases sm_nx_some h
    case iload_n i =>
      replace h := sm_g_some h; obtain ⟨rfl, h⟩ := h
      split at h
      · rename_i x hq
        cases sm_nx_some h
      · cases h
    case iload i =>
      replace h := sm_g_some h; obtain ⟨rfl, h⟩ := h
      split at h
      · rename_i x hq
        cases sm_nx_some h
      · cases h
    case lload_n i =>
      replace h := sm_g_some h; obtain ⟨rfl, h⟩ := h
      split at h
      · rename_i x hq
        cases sm_nx_some h
      · cases h
    case lload i =>
      replace h := sm_g_some h; obtain ⟨rfl, h⟩ := h
      split at h
      · rename_i x hq
        cases sm_nx_some h
      · cases h
    case aload_n i =>
      replace h := sm_g_some h; obtain ⟨rfl, h⟩ := h
      split at h
      · rename_i x hq
        cases sm_nx_some h
      · cases h
    case aload i =>
      replace h := sm_g_some h; obtain ⟨rfl, h⟩ := h
      split at h
      · rename_i x hq
        cases sm_nx_some h
      · cases h
    case istore_n i =>
      replace h := sm_g_some h; obtain ⟨rfl, h⟩ := h
      replace h := sm_i1_some h; obtain ⟨x, r, rfl, h⟩ := h
      split at h
      · rename_i l1 hq
        cases sm_nx_some h
      · cases h
    case istore i =>
      replace h := sm_g_some h; obtain ⟨rfl, h⟩ := h
      replace h := sm_i1_some h; obtain ⟨x, r, rfl, h⟩ := h
      split at h
      · rename_i l1 hq
        cases sm_nx_some h
      · cases h
    case lstore_n i =>
      replace h := sm_g_some h; obtain ⟨rfl, h⟩ := h
      replace h := sm_l1_some h; obtain ⟨x, r, rfl, h⟩ := h
      split at h
      · rename_i l1 hq
        cases sm_nx_some h
      · cases h
    case lstore i =>
      replace h := sm_g_some h; obtain ⟨rfl, h⟩ := h
      replace h := sm_l1_some h; obtain ⟨x, r, rfl, h⟩ := h
      split at h
      · rename_i l1 hq
        cases sm_nx_some h
      · cases h
    case astore_n i =>
      replace h := sm_g_some h; obtain ⟨rfl, h⟩ := h
      replace h := sm_r1_some h; obtain ⟨c, n, i1, r, rfl, h⟩ := h
      split at h
      · rename_i l1 hq
        cases sm_nx_some h
      · cases h
    case astore i =>
      replace h := sm_g_some h; obtain ⟨rfl, h⟩ := h
      replace h := sm_r1_some h; obtain ⟨c, n, i1, r, rfl, h⟩ := h
      split at h
      · rename_i l1 hq
        cases sm_nx_some h
      · cases h
    case iinc i n =>
      replace h := sm_g_some h; obtain ⟨rfl, h⟩ := h
      split at h
      · rename_i x hq
        split at h
        · rename_i l1 hq1
          cases sm_nx_some h
        · cases h
      · cases h
    case iadd =>
      replace h := sm_g_some h; obtain ⟨rfl, h⟩ := h
      replace h := sm_i2_some h; obtain ⟨x, y, r, rfl, h⟩ := h
      cases sm_nx_some h
    case isub =>
      replace h := sm_g_some h; obtain ⟨rfl, h⟩ := h
      replace h := sm_i2_some h; obtain ⟨x, y, r, rfl, h⟩ := h
      cases sm_nx_some h
    case imul =>
      replace h := sm_g_some h; obtain ⟨rfl, h⟩ := h
      replace h := sm_i2_some h; obtain ⟨x, y, r, rfl, h⟩ := h
      cases sm_nx_some h
    case iand =>
      replace h := sm_g_some h; obtain ⟨rfl, h⟩ := h
      replace h := sm_i2_some h; obtain ⟨x, y, r, rfl, h⟩ := h
      cases sm_nx_some h
    case ior =>
      replace h := sm_g_some h; obtain ⟨rfl, h⟩ := h
      replace h := sm_i2_some h; obtain ⟨x, y, r, rfl, h⟩ := h
      cases sm_nx_some h
    case ishl =>
      replace h := sm_g_some h; obtain ⟨rfl, h⟩ := h
      replace h := sm_i2_some h; obtain ⟨x, y, r, rfl, h⟩ := h
      cases sm_nx_some h
    case idiv =>
      replace h := sm_g_some h; obtain ⟨rfl, h⟩ := h
      replace h := sm_i2_some h; obtain ⟨x, y, r, rfl, h⟩ := h
      replace h := sm_g_some h; obtain ⟨h0, h⟩ := h
      cases sm_nx_some h
    case irem =>
      replace h := sm_g_some h; obtain ⟨rfl, h⟩ := h
      replace h := sm_i2_some h; obtain ⟨x, y, r, rfl, h⟩ := h
      replace h := sm_g_some h; obtain ⟨h0, h⟩ := h
      cases sm_nx_some h
    case newarray t =>
      cases t
      case int =>
        replace h := sm_g_some h; obtain ⟨rfl, h⟩ := h
        split at h
        · split at h
          · replace h := sm_g_some h; obtain ⟨-, h⟩ := h
            cases sm_nx_some h
          · cases h
        · cases h
      all_goals exact absurd (show (none : sm_X) = some _ from h) (fun q => by cases q)
    case ineg =>
      replace h := sm_g_some h; obtain ⟨rfl, h⟩ := h
      replace h := sm_i1_some h; obtain ⟨x, r, rfl, h⟩ := h
      cases sm_nx_some h
    case ladd =>
      replace h := sm_g_some h; obtain ⟨rfl, h⟩ := h
      replace h := sm_l2_some h; obtain ⟨x, y, r, rfl, h⟩ := h
      cases sm_nx_some h
    case lsub =>
      replace h := sm_g_some h; obtain ⟨rfl, h⟩ := h
      replace h := sm_l2_some h; obtain ⟨x, y, r, rfl, h⟩ := h
      cases sm_nx_some h
    case lmul =>
      replace h := sm_g_some h; obtain ⟨rfl, h⟩ := h
      replace h := sm_l2_some h; obtain ⟨x, y, r, rfl, h⟩ := h
      cases sm_nx_some h
    case land =>
      replace h := sm_g_some h; obtain ⟨rfl, h⟩ := h
      replace h := sm_l2_some h; obtain ⟨x, y, r, rfl, h⟩ := h
      cases sm_nx_some h
    case lor =>
      replace h := sm_g_some h; obtain ⟨rfl, h⟩ := h
      replace h := sm_l2_some h; obtain ⟨x, y, r, rfl, h⟩ := h
      cases sm_nx_some h
    case lcmp =>
      replace h := sm_g_some h; obtain ⟨rfl, h⟩ := h
      replace h := sm_l2_some h; obtain ⟨x, y, r, rfl, h⟩ := h
      cases sm_nx_some h
    case ldiv =>
      replace h := sm_g_some h; obtain ⟨rfl, h⟩ := h
      replace h := sm_l2_some h; obtain ⟨x, y, r, rfl, h⟩ := h
      replace h := sm_g_some h; obtain ⟨h0, h⟩ := h
      cases sm_nx_some h
    case lrem =>
      replace h := sm_g_some h; obtain ⟨rfl, h⟩ := h
      replace h := sm_l2_some h; obtain ⟨x, y, r, rfl, h⟩ := h
      replace h := sm_g_some h; obtain ⟨h0, h⟩ := h
      cases sm_nx_some h
    case lshl =>
      replace h := sm_g_some h; obtain ⟨rfl, h⟩ := h
      replace h := sm_li_some h; obtain ⟨x, y, r, rfl, h⟩ := h
      cases sm_nx_some h
    case lushr =>
      replace h := sm_g_some h; obtain ⟨rfl, h⟩ := h
      replace h := sm_li_some h; obtain ⟨x, y, r, rfl, h⟩ := h
      cases sm_nx_some h
    case i2l =>
      replace h := sm_g_some h; obtain ⟨rfl, h⟩ := h
      replace h := sm_i1_some h; obtain ⟨x, r, rfl, h⟩ := h
      cases sm_nx_some h
    case l2i =>
      replace h := sm_g_some h; obtain ⟨rfl, h⟩ := h
      replace h := sm_l1_some h; obtain ⟨x, r, rfl, h⟩ := h
      cases sm_nx_some h
    case i2c =>
      replace h := sm_g_some h; obtain ⟨rfl, h⟩ := h
      replace h := sm_i1_some h; obtain ⟨x, r, rfl, h⟩ := h
      cases sm_nx_some h
    case dup =>
      replace h := sm_g_some h; obtain ⟨rfl, h⟩ := h
      split at h
      · replace h := sm_g_some h; obtain ⟨h0, h⟩ := h
        cases sm_nx_some h
      · cases h
    case pop =>
      replace h := sm_g_some h; obtain ⟨rfl, h⟩ := h
      split at h
      · replace h := sm_g_some h; obtain ⟨h0, h⟩ := h
        cases sm_nx_some h
      · cases h
    case dup2 =>
      replace h := sm_g_some h; obtain ⟨rfl, h⟩ := h
      split at h
      · replace h := sm_g_some h; obtain ⟨⟨h0, h1⟩, h⟩ := h
        cases sm_nx_some h
      · cases h
    case getfield x =>
      replace h := sm_g_some h; obtain ⟨rfl, h⟩ := h
      replace h := sm_r1_some h; obtain ⟨c, k1, i1, r, rfl, h⟩ := h
      split at h
      · rename_i ci f hq
        replace h := sm_g_some h; obtain ⟨rfl, h⟩ := h
        split at h
        · rename_i n hf
          cases sm_nx_some h
        · rename_i a j hf
          cases sm_nx_some h
        · cases h
      · cases h
    case putfield x =>
      replace h := sm_g_some h; obtain ⟨rfl, h⟩ := h
      replace h := sm_ir_some h; obtain ⟨v, c, k1, i1, r, rfl, h⟩ := h
      split at h
      · rename_i ci f hq
        replace h := sm_g_some h; obtain ⟨⟨rfl, hz⟩, h⟩ := h
        split at h
        · rename_i a j hf
          cases sm_nx_some h
        · cases h
      · cases h
    case getstatic x =>
      replace h := sm_g_some h; obtain ⟨rfl, h⟩ := h
      split at h
      · rename_i c hq
        cases sm_nx_some h
      · cases h
    case arraylength =>
      replace h := sm_g_some h; obtain ⟨rfl, h⟩ := h
      replace h := sm_r1_some h; obtain ⟨c, k1, i1, r, rfl, h⟩ := h
      replace h := sm_g_some h; obtain ⟨rfl, h⟩ := h
      split at h
      · rename_i n hq
        cases sm_nx_some h
      · cases h
    case iaload =>
      replace h := sm_g_some h; obtain ⟨rfl, h⟩ := h
      replace h := sm_ir_some h; obtain ⟨j, c, k1, i1, r, rfl, h⟩ := h
      replace h := sm_g_some h; obtain ⟨rfl, h⟩ := h
      split at h
      · rename_i v hq
        cases sm_nx_some h
      · cases h
    case baload =>
      replace h := sm_g_some h; obtain ⟨rfl, h⟩ := h
      replace h := sm_ir_some h; obtain ⟨j, c, k1, i1, r, rfl, h⟩ := h
      replace h := sm_g_some h; obtain ⟨rfl, h⟩ := h
      split at h
      · rename_i v hq
        cases sm_nx_some h
      · cases h
    case caload =>
      replace h := sm_g_some h; obtain ⟨rfl, h⟩ := h
      replace h := sm_ir_some h; obtain ⟨j, c, k1, i1, r, rfl, h⟩ := h
      replace h := sm_g_some h; obtain ⟨rfl, h⟩ := h
      split at h
      · rename_i v hq
        cases sm_nx_some h
      · cases h
    case aaload =>
      replace h := sm_g_some h; obtain ⟨rfl, h⟩ := h
      replace h := sm_ir_some h; obtain ⟨j, c, k1, i1, r, rfl, h⟩ := h
      replace h := sm_g_some h; obtain ⟨rfl, h⟩ := h
      split at h
      · rename_i t n f hq
        replace h := sm_g_some h; obtain ⟨hin, h⟩ := h
        cases sm_nx_some h
      · cases h
    case iastore =>
      replace h := sm_g_some h; obtain ⟨rfl, h⟩ := h
      replace h := sm_iir_some h; obtain ⟨x, j, c, k1, i1, r, rfl, h⟩ := h
      replace h := sm_g_some h; obtain ⟨rfl, h⟩ := h
      split at h
      · rename_i M1 hq
        cases sm_nx_some h
      · cases h
    case bastore =>
      replace h := sm_g_some h; obtain ⟨rfl, h⟩ := h
      replace h := sm_iir_some h; obtain ⟨x, j, c, k1, i1, r, rfl, h⟩ := h
      replace h := sm_g_some h; obtain ⟨rfl, h⟩ := h
      split at h
      · rename_i M1 hq
        cases sm_nx_some h
      · cases h
    case castore =>
      replace h := sm_g_some h; obtain ⟨rfl, h⟩ := h
      replace h := sm_iir_some h; obtain ⟨x, j, c, k1, i1, r, rfl, h⟩ := h
      replace h := sm_g_some h; obtain ⟨rfl, h⟩ := h
      split at h
      · rename_i M1 hq
        cases sm_nx_some h
      · cases h
    all_goals exact absurd (show (none : sm_X) = some _ from h) (fun q => by cases q)
end SMQ
/-- the variables at a method's entry -/
def sm_av : List sm_V → sm_L
  | [] => []
  | .inr (.inl x) :: r => some (.inr (.inl x)) :: none :: sm_av r
  | v :: r => some v :: sm_av r
def sm_ent (nL : Nat) (avs : List sm_V) : sm_L := sm_av avs ++ List.replicate (nL - (sm_av avs).length) none
/-- what a method does: its table run from its entry -/
noncomputable def sm_fn (T : sm_T) (nL b : Nat) : sm_F := fun M avs => sm_g ((sm_av avs).length ≤ nL) (sm_R T (b, 0, M, sm_ent nL avs, []))
theorem sm_av_len (G : sm_G) : ∀ avs : List sm_V, (lg_sl (avs.map (sm_c G))).length = (sm_av avs).length
  | [] => rfl
  | .inl x :: r => by
    show (_ :: lg_sl (r.map (sm_c G))).length = (_ :: sm_av r).length
    rw [List.length_cons, List.length_cons, sm_av_len G r]
  | .inr (.inl x) :: r => by
    show (_ :: _ :: lg_sl (r.map (sm_c G))).length = (_ :: _ :: sm_av r).length
    rw [List.length_cons, List.length_cons, List.length_cons, List.length_cons, sm_av_len G r]
  | .inr (.inr (c, k, i)) :: r => by
    show (_ :: lg_sl (r.map (sm_c G))).length = (_ :: sm_av r).length
    rw [List.length_cons, List.length_cons, sm_av_len G r]
theorem sm_av_args (G : sm_G) : ∀ (avs : List sm_V) (k i : Nat) (v : sm_V), (sm_av avs)[i]? = some (some v) → (k + i, sm_c G v) ∈ lv_args k (avs.map (sm_c G))
  | [], k, i, v, h => by cases h
  | .inl x :: r, k, i, v, h => by
    show _ ∈ (k, Value.int x) :: lv_args (k + 1) (r.map (sm_c G))
    cases i with
    | zero => cases h; exact List.mem_cons_self
    | succ i =>
      have := sm_av_args G r (k + 1) i v h
      rw [show k + (i + 1) = k + 1 + i by omega]
      exact List.mem_cons_of_mem _ this
  | .inr (.inl x) :: r, k, i, v, h => by
    show _ ∈ (k, Value.long x) :: lv_args (k + 2) (r.map (sm_c G))
    match i, h with
    | 0, h => cases h; exact List.mem_cons_self
    | 1, h => cases h
    | i + 2, h =>
      have := sm_av_args G r (k + 2) i v h
      rw [show k + (i + 2) = k + 2 + i by omega]
      exact List.mem_cons_of_mem _ this
  | .inr (.inr (c, k1, i1)) :: r, k, i, v, h => by
    show _ ∈ (k, Value.ref (sm_ad G c k1 i1)) :: lv_args (k + 1) (r.map (sm_c G))
    cases i with
    | zero => cases h; exact List.mem_cons_self
    | succ i =>
      have := sm_av_args G r (k + 1) i v h
      rw [show k + (i + 1) = k + 1 + i by omega]
      exact List.mem_cons_of_mem _ this
theorem sm_av_ok {G : sm_G} : ∀ (avs : List sm_V), sm_okl G avs → ∀ (i : Nat) (v : sm_V), (sm_av avs)[i]? = some (some v) → sm_okv G v
  | [], _, i, v, h => by cases h
  | .inl x :: r, ho, i, v, h => by
    cases i with
    | zero => cases h; exact trivial
    | succ i => exact sm_av_ok r (sm_okl_cons.mp ho).2 i v h
  | .inr (.inl x) :: r, ho, i, v, h => by
    match i, h with
    | 0, h => cases h; exact trivial
    | 1, h => cases h
    | i + 2, h => exact sm_av_ok r (sm_okl_cons.mp ho).2 i v h
  | .inr (.inr (c, k1, i1)) :: r, ho, i, v, h => by
    cases i with
    | zero => cases h; exact (sm_okl_cons.mp ho).1
    | succ i => exact sm_av_ok r (sm_okl_cons.mp ho).2 i v h
theorem sm_ent_get {nL i : Nat} {avs : List sm_V} {v : sm_V} (h : sm_lg (sm_ent nL avs) i = some v) : (sm_av avs)[i]? = some (some v) := by
  have h1 := sm_lg_of h
  unfold sm_ent at h1
  by_cases hi : i < (sm_av avs).length
  · rw [List.getElem?_append_left hi] at h1
    exact h1
  · rw [List.getElem?_append_right (by omega), List.getElem?_replicate] at h1
    split at h1 <;> cases h1
theorem sm_entry {G : sm_G} {nL : Nat} {avs : List sm_V} (h : (sm_av avs).length ≤ nL) : sm_LR G ((lg_sl (avs.map (sm_c G)) ++ List.replicate (nL - (lg_sl (avs.map (sm_c G))).length) Slot.unset).toArray) nL (sm_ent nL avs) := by
  have h1 := lv_entry (avs.map (sm_c G)) (n := nL) (by rw [sm_av_len]; exact h)
  refine ⟨by unfold sm_ent; rw [List.length_append, List.length_replicate]; omega, h1.1, h1.2.1, fun i v hv => ?_⟩
  have h2 := sm_av_args G avs 0 i v (sm_ent_get hv)
  rw [Nat.zero_add] at h2
  exact h1.2.2 _ h2
/-- a contract of a method without handlers -/
theorem sm_con0 {l : Launch} {G : sm_G} {y : MethodName} {cc : ByteArray} {nL : Nat} {ret : Option FieldType} {T : sm_T} {lev cost : Nat} (hI : sm_Inj G) (hfl : l.stackTraces = false) (hy : plainName y.cls = true) (hT : sm_Tok T y.cls cc) (hN : ∀ pc, sm_exn T pc ≠ some 60) (hC : sm_Cal l G T y.cls lev) (hr : sm_rets (sm_rk T) ret) (hrk : sm_rk T < 10) (hX : ∀ pc x, sm_exn T pc = some x → 6 ≤ lev ∧ sm_Xt y.cls cc pc x) (hH : ∀ pc x, sm_hnd T pc x = none) (hro : ∀ c n f, sm_ro T c = some (n, f) → (c = 62 ∧ n = 4 ∧ f = sm_most) ∨ (c = 61 ∧ n = (sm_sc G).1 ∧ f = (sm_sc G).2)) (hlev : 1 ≤ lev) : sm_Con l G y (.code y cc nL ret) lev cost (sm_fn T nL cost) := by
  intro M avs o hok hf
  obtain ⟨hlen, hf⟩ := sm_g_some hf
  obtain ⟨n, hn⟩ := sm_R_of hf
  refine vx_ofW (cc := cc) (maxL := nL) (ret := ret) hy rfl ?_
  intro p e s m args below meth c s₁ B hml hnt hP
  obtain ⟨rfl, hRep, hWf⟩ := hP
  have hts0 := atoms_spec (ws := Cond.code y cc nL ret :: sm_W) B.pre
  have hts : ∀ w ∈ sm_W, w.before ((avs.map (sm_c G)).toArray) s = true := fun w hw => hts0 w (List.mem_cons_of_mem _ hw)
  have hown : s.vm.findClass y.cls = some m.cls := findClass_of_methodNamed B.named
  rw [lg_entry_eq]
  refine sm_steps (R := sm_Rm lev cost) (nL := nL) B.exec B.bytes hml hts hown hWf hI hT hN hC ?_ ⟨Nat.le_refl _, Nat.le_refl _, hlev⟩ (fun pc x pc1 k h => by rw [hH] at h; cases h) (fun S hS => sm_term B.exec B.bytes hml hfl hts hown hWf hT hC ⟨Nat.le_refl _, Nat.le_refl _⟩ ⟨Nat.le_refl _, Nat.le_refl _⟩ B.notSynchronized (by rw [B.returns]; exact hr) (fun _ => hnt) (fun pc x h _ => ⟨hrk, hX pc x h⟩) hS) n _ hn s.heap [] _ 0 0 ⟨hRep, va_S.rf, sm_entry hlen, fun i v hv => sm_av_ok avs hok i v (sm_ent_get hv), sm_okl_nil.mpr trivial, by show 0 + cost ≤ cost; omega, by show 0 + 6 * cost ≤ 6 * cost; omega⟩
  intro c1 n1 f1 h1
  rcases hro c1 n1 f1 h1 with ⟨rfl, rfl, rfl⟩ | ⟨rfl, rfl, rfl⟩
  · exact ⟨hWf.1.2.1, fun k h => h.1⟩
  · exact ⟨hWf.2.2.2.2.2, fun k h => h.1⟩
/-- a contract of a method with handlers, that throws nothing -/
theorem sm_con2 {l : Launch} {G : sm_G} {y : MethodName} {cc : ByteArray} {nL : Nat} {ret : Option FieldType} {hh : List (Nat × Nat × Nat × Nat)} {T : sm_T} {lev cost : Nat} (hI : sm_Inj G) (hfl : l.stackTraces = false) (hy : plainName y.cls = true) (hT : sm_Tok T y.cls cc) (hN : ∀ pc, sm_exn T pc ≠ some 60) (hC : sm_Cal l G T y.cls lev) (hr : sm_rets (sm_rk T) ret) (hrk : sm_rk T = 11) (hX : ∀ pc, sm_exn T pc = none) (hH : ∀ pc x pc1 k, sm_hnd T pc x = some (pc1, k) → sm_Hn y.cls cc (tableOf hh) pc x pc1 k nL) (hro : ∀ c, sm_ro T c = none) (hlev : 1 ≤ lev) : sm_Con l G y (.codeWith y cc nL ret hh) lev cost (sm_fn T nL cost) := by
  intro M avs o hok hf
  obtain ⟨hlen, hf⟩ := sm_g_some hf
  obtain ⟨n, hn⟩ := sm_R_of hf
  refine vx_ofWH (cc := cc) (maxL := nL) (ret := ret) (hh := hh) hy rfl ?_
  intro p e s m args below meth c s₁ B hml hP
  obtain ⟨rfl, hRep, hWf⟩ := hP
  have hts0 := atoms_spec (ws := Cond.codeWith y cc nL ret hh :: sm_W) B.pre
  have hts : ∀ w ∈ sm_W, w.before ((avs.map (sm_c G)).toArray) s = true := fun w hw => hts0 w (List.mem_cons_of_mem _ hw)
  have hown : s.vm.findClass y.cls = some m.cls := findClass_of_methodNamed B.named
  have htb : c.exceptionTable.toList = tableOf hh := vx_table (x := y) B (hts0 _ List.mem_cons_self)
  rw [lg_entry_eq]
  exact sm_steps (R := sm_Rm lev cost) (nL := nL) B.exec B.bytes hml hts hown hWf hI hT hN hC (fun c1 n1 f1 h1 => by rw [hro] at h1; cases h1) ⟨Nat.le_refl _, Nat.le_refl _, hlev⟩ (fun pc x pc1 k h => by rw [htb]; exact hH pc x pc1 k h) (fun S hS => sm_term B.exec B.bytes hml hfl hts hown hWf hT hC ⟨Nat.le_refl _, Nat.le_refl _⟩ ⟨Nat.le_refl _, Nat.le_refl _⟩ B.notSynchronized (by rw [B.returns]; exact hr) (fun q => by omega) (fun pc x h _ => by rw [hX] at h; cases h) hS) n _ hn s.heap [] _ 0 0 ⟨hRep, va_S.rf, sm_entry hlen, fun i v hv => sm_av_ok avs hok i v (sm_ent_get hv), sm_okl_nil.mpr trivial, by show 0 + cost ≤ cost; omega, by show 0 + 6 * cost ≤ 6 * cost; omega⟩
