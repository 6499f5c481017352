/-! THE CLAIM OUT OF ONE WALK OF THE LAW'S BODY. Your part is whole_start (and what it stands on); all else here is the same for every law, but numbers. -/
def R_law : String := "SnowGunsLaw"
def lw_P (b : Addr) (xs : List Int32) (args : Array Value) (s : State) : Prop := args = #[.ref b] ∧ s.IntsAt b xs ∧ xs.length ≤ 260 ∧ (Jvm.Cond.and given_1 narrow_1).before args s = true
def lw_Q (_ : Array Value) (s : State) (o : Outcome) (t : State) : Prop := o = .returned (some (.int 1)) ∧ Framed s o t [] 600130 7301080
def lw_Z (below : List Frame) (a : Array Value) (s : State) : State → Prop := fun t => ∃ o, t.status = .running ∧ Ended t below o ∧ lw_Q a s o t
/-- the law's own end, with 1 on the stack, nothing written that was there before, its room as the claim has it -/
theorem lw_ret {p : Program} {l : Launch} {e : Env} {s : State} {m : MethodId} {below : List Frame} {meth : Method} {c : Code} {b : Nat} (hx : p.tables.exec = Jvm.exec) (hb : c.code = code) (hr : meth.sig.returnType = ret) (hlocks : meth.locks = false) {pc : Nat} {H : Heap} {ls : Array Slot} (hdg : decode code pc = .ok (.ireturn, 1)) : W p l e room_1 s m #[Value.ref b] below meth c H [] 600130 7301080 (lw_Z below #[Value.ref b] s) (F0 m pc ls [.int 1]) := by
  intro T hT X
  obtain ⟨fs, hret, hrun, hended, hW, hframe⟩ := X.leave (v := some (.int 1)) (hlocks := hlocks) (fun h => by rw [hr] at h; cases h)
  have hmeth' : T.vm.method? m = some meth := X.method'
  refine ⟨T.setFrames fs, ?_, .returned (some (.int 1)), hrun, hended, rfl, ⟨_, rfl⟩, hW, hframe⟩
  jvm_step X.here [X.here.top, hx, hb, hdg, hmeth', hr, ret, narrow_b1]
  (try refine ⟨rfl, ?_⟩); (try refine ⟨rfl, ?_⟩)
  first | (intro acts; rw [hret _ acts rfl rfl rfl]) | rw [hret _ _ rfl rfl rfl]
  exact Steps.refl _
/-- what holds at the law's entry: the machine, the code, the tables' words (any of lw_tbl by 'hts w (by decide +kernel)'), the script of L ints xs at the cell b, what the Statement gives of the start (any of its parts by flat_of_before) -/
def lw_At (p : Program) (s : State) (m : MethodId) (meth : Method) (c : Code) (b L : Nat) (xs : Nat → Int32) : Prop :=
  p.tables.exec = Jvm.exec ∧ c.code = code ∧ meth.sig.returnType = ret ∧ c.maxLocals = 9 ∧ s.vm.findClass R_law = some m.cls ∧ (∀ w ∈ lw_tbl, w.before #[Value.ref b] s = true) ∧ va_X b L xs s s.heap ∧ b < s.heap.size ∧ meth.locks = false ∧ (Jvm.Cond.and given_1 narrow_1).before #[Value.ref b] s = true
theorem d_law_0 : decode code 0 = .ok (.new 8, 3) := by decide +kernel
theorem d_law_3 : decode code 3 = .ok (.dup, 1) := by decide +kernel
theorem d_law_4 : decode code 4 = .ok (.invokespecial 304, 3) := by decide +kernel
theorem d_law_7 : decode code 7 = .ok (.astore_n 1, 1) := by decide +kernel
theorem d_law_8 : decode code 8 = .ok (.new 8, 3) := by decide +kernel
theorem d_law_11 : decode code 11 = .ok (.dup, 1) := by decide +kernel
theorem d_law_12 : decode code 12 = .ok (.invokespecial 304, 3) := by decide +kernel
theorem d_law_15 : decode code 15 = .ok (.astore_n 2, 1) := by decide +kernel
section Z77
variable {p : Program} {e : Env} {s : State} {m : MethodId} {below : List Frame} {meth : Method} {c : Code} {l : Launch} {b L : Nat} {xs : Nat → Int32} {D : va_G} {ca : Nat → ClassId} {t : Nat}
theorem st_fl (hflags : l.flags = flags0) : l.stackTraces = false := by
  unfold Launch.stackTraces
  rw [hflags]
  decide +kernel
theorem T_L_law_tok {sc : Nat × (Nat → Int32)} : sm_Tok (T_L_law sc) RL code := sm_mk_tok td_L_law fo_L ko_L io_L no_L so_L
theorem st_109 {N0 : Nat} {xp : Nat → Nat → Nat → Prop} {sc : Nat × (Nat → Int32)} : sm_ad (al_GG D ca N0 b t xp sc) 109 0 0 = N0 + 486 := by
  show (if (109 : Nat) = 61 then b else if (109 : Nat) = 62 then t else if (109 : Nat) < 100 then N0 + al_of 109 0 0 else N0 + 486 + al_of (109 - 100) 0 0) = _
  rw [if_neg (by decide), if_neg (by decide), if_neg (by decide)]
  rfl
/-- the law from its own first call on, over a heap that holds two new objects -/
theorem law_go (hflags : l.flags = flags0) (hL : L ≤ 260) (C0 : lw_At p s m meth c b L xs) (hwf : al_Wf s.heap.size (al_GG D ca s.heap.size b t xs_a (L, xs)) s) {H : Heap} {LS : Array Slot} (hrep : sm_Rep (al_GG D ca s.heap.size b t xs_a (L, xs)) w_M2 H) (hS : va_S (fun q => s.heap.size ≤ q) s.heap H [])
    (hl : lv_has LS 9 [(2, .ref (s.heap.size + 486)), (1, .ref s.heap.size), (0, .ref b)]) : W p l e room_1 s m #[Value.ref b] below meth c H [] 972 7242 (lw_Z below #[Value.ref b] s) (F0 m 16 LS []) := by
  obtain ⟨hx, hb, hr, hml, hown, hts, hX, hbl, hlocks, hgv⟩ := id C0
  have hown : s.vm.findClass RL = some m.cls := hown
  have hI := al_Inja (D := D) (ca := ca) (N0 := s.heap.size) (b := b) (t := t) (sc := (L, xs))
  have h2 := al_Two (D := D) (ca := ca) (N0 := s.heap.size) (b := b) (t := t) (sc := (L, xs))
  have h6 : ∀ k i, ¬ sm_xs (al_GG D ca s.heap.size b t xs_a (L, xs)) 60 k i := fun k i z => by
    rcases z with z | z
    · exact z.2 rfl
    · omega
  have h16 : ∀ k i, ¬ sm_xs (al_GG D ca s.heap.size b t xs_a (L, xs)) 160 k i := fun k i z => by
    rcases z with z | z
    · omega
    · exact z.2.2 rfl
  obtain ⟨V2, hrun⟩ := law_run (W := w_W2) (o := 0) (sc := (L, xs)) wa_d wa_low.2.2.2.2.2.2.2.1 wa_pg (by show L ≤ 4000; omega) wa_R2
  obtain ⟨n, hn⟩ := sm_R_of hrun
  have n9 : sm_og (al_GG D ca s.heap.size b t xs_a (L, xs)) 9 0 0 := ⟨⟨rfl, rfl⟩, Or.inl ⟨by decide, by decide⟩⟩
  have n109 : sm_og (sm_up (al_GG D ca s.heap.size b t xs_a (L, xs))) 9 0 0 := ⟨⟨rfl, rfl⟩, Or.inr ⟨by decide, by decide, by decide⟩⟩
  have go := sm_steps (p := p) (l := l) (e := e) (R := room_1) (s := s) (m := m) (args := #[Value.ref b]) (below := below) (meth := meth) (c0 := c) (Q := lw_Z below #[Value.ref b] s) (G := (al_GG D ca s.heap.size b t xs_a (L, xs))) (nL := 9) (cc := code) (own := RL) (T := T_L_law (L, xs)) (lev := 13) hx hb hml (fun w hw => st_in hts hw) hown (al_Wf.sm hwf (fun q => al_AN)) hI T_L_law_tok (fun pc h => by cases h) (sm_mk_cal (cal_L_law hI (st_fl hflags) h2 h6 h16)) (fun c n f h => by cases h) ⟨by decide, by decide, by decide⟩ (fun pc x pc1 k h => by cases h) (o := ((q_I V2, 0), .ok (some (.inl (q_i 1))))) ?_ n _ hn
  · refine go H [] LS 972 7242 ⟨hrep, ⟨hS.1, fun q g1 _ => hS.2.1 q g1 (Nat.not_le.mpr g1), fun z hz => by cases hz⟩, ?_, ?_, sm_okl_nil.mpr trivial, by show 972 + 455653 ≤ 600130; omega, by show 7242 + 6 * 455653 ≤ 7301080; omega⟩
    · refine ⟨rfl, hl.1, hl.2.1, fun i v hi => ?_⟩
      match i, hi with
      | 0, hi =>
        cases Option.some.inj hi
        refine (lv_at hl 2 (i := 0) rfl).trans ?_
        show _ = some (Slot.val (.ref (sm_ad (al_GG D ca s.heap.size b t xs_a (L, xs)) 61 0 0)))
        rw [st_61]
      | 1, hi =>
        cases Option.some.inj hi
        refine (lv_at hl 1 (i := 1) rfl).trans ?_
        show _ = some (Slot.val (.ref (sm_ad (al_GG D ca s.heap.size b t xs_a (L, xs)) 9 0 0)))
        rw [al_ad n9.1]
        rfl
      | 2, hi =>
        cases Option.some.inj hi
        refine (lv_at hl 0 (i := 2) rfl).trans ?_
        show _ = some (Slot.val (.ref (sm_ad (al_GG D ca s.heap.size b t xs_a (L, xs)) 109 0 0)))
        rw [st_109]
      | 3, hi => cases hi
      | 4, hi => cases hi
      | 5, hi => cases hi
      | 6, hi => cases hi
      | 7, hi => cases hi
      | 8, hi => cases hi
      | i + 9, hi => cases hi
    · intro i v hi
      match i, hi with
      | 0, hi =>
        cases Option.some.inj hi
        exact Or.inr (Or.inl ⟨rfl, rfl, rfl⟩)
      | 1, hi =>
        cases Option.some.inj hi
        exact Or.inl n9
      | 2, hi =>
        cases Option.some.inj hi
        exact Or.inr (Or.inr (Or.inr ⟨rfl, rfl, rfl, n109⟩))
      | 3, hi => cases hi
      | 4, hi => cases hi
      | 5, hi => cases hi
      | 6, hi => cases hi
      | 7, hi => cases hi
      | 8, hi => cases hi
      | i + 9, hi => cases hi
  · rintro ⟨b1, pc, M, ls, st⟩ hend
    rcases sm_fin hend with ⟨-, -, hv, -⟩ | ⟨x, ht, hM, hv, rfl⟩ | ht | ht
    · cases hv
    · have hx9 : q_i 1 = x := Sum.inl.inj (Option.some.inj hv)
      subst hx9
      intro H1 locs1 LS1 c1 s1 hrel
      refine va_forget (fun z hz => al_AN (hrel.2.1.2.2 z hz)) ?_
      have h1 : c1 + b1 ≤ 600130 := hrel.2.2.2.2.2.1
      have h2 : s1 + 6 * b1 ≤ 7301080 := hrel.2.2.2.2.2.2
      have e1 : q_i 1 = (1 : Int32) := by decide
      exact W.widen (k := 600130) (n := 7301080) (by omega) (by omega) (W.eq (g2 := F0 m pc LS1 [.int 1]) (by show F0 m pc LS1 [.int (q_i 1)] = _; rw [e1]) (lw_ret hx hb hr hlocks (T_L_law_tok.1 pc _ _ ht)))
    · exact absurd ht (law_nl hend)
    · exact absurd ht (law_na hend)
end Z77
