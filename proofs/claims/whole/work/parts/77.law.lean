/-! THE CLAIM OUT OF ONE WALK OF THE LAW'S BODY. Your part is whole_start (and what it stands on); all else here is the same for every law, but numbers. -/
def R_law : String := "SnowGunsLaw"
def lw_P (b : Addr) (xs : List Int32) (args : Array Value) (s : State) : Prop := args = #[.ref b] ∧ s.IntsAt b xs ∧ xs.length ≤ 2048 ∧ (Jvm.Cond.and given_1 narrow_1).before args s = true
def lw_Q (_ : Array Value) (s : State) (o : Outcome) (t : State) : Prop := o = .returned (some (.int 1)) ∧ Framed s o t [] 601024 7293034
def lw_Z (below : List Frame) (a : Array Value) (s : State) : State → Prop := fun t => ∃ o, t.status = .running ∧ Ended t below o ∧ lw_Q a s o t
/-- the law's own end, with 1 on the stack, nothing written that was there before, its room as the claim has it -/
theorem lw_ret {p : Program} {l : Launch} {e : Env} {s : State} {m : MethodId} {below : List Frame} {meth : Method} {c : Code} {b : Nat} (hx : p.tables.exec = Jvm.exec) (hb : c.code = code) (hr : meth.sig.returnType = ret) (hlocks : meth.locks = false) {pc : Nat} {H : Heap} {ls : Array Slot} (hdg : decode code pc = .ok (.ireturn, 1)) : W p l e room_1 s m #[Value.ref b] below meth c H [] 601024 7293034 (lw_Z below #[Value.ref b] s) (F0 m pc ls [.int 1]) := by
  intro T hT X
  obtain ⟨fs, hret, hrun, hended, hW, hframe⟩ := X.leave (v := some (.int 1)) (hlocks := hlocks) (fun h => by rw [hr] at h; cases h)
  have hmeth' : T.vm.method? m = some meth := X.method'
  refine ⟨T.setFrames fs, ?_, .returned (some (.int 1)), hrun, hended, rfl, ⟨_, rfl⟩, hW, hframe⟩
  jvm_step X.here [X.here.top, hx, hb, hdg, hmeth', hr, ret, narrow_b1]
  (try refine ⟨rfl, ?_⟩); (try refine ⟨rfl, ?_⟩)
  first | (intro acts; rw [hret _ acts rfl rfl rfl]) | rw [hret _ _ rfl rfl rfl]
  exact Steps.refl _
/-- what holds at the law's entry: the machine, the code, the tables' words (any of lw_tbl by 'hts w (by decide +kernel)'), the script of L ints xs at the cell b, what the Statement gives of the start (any of its parts by flat_of_before) -/
def lw_At (p : Program) (s : State) (m : MethodId) (meth : Method) (c : Code) (b L : Nat) (xs : Nat → Int32) : Prop :=
  p.tables.exec = Jvm.exec ∧ c.code = code ∧ meth.sig.returnType = ret ∧ c.maxLocals = 7 ∧ s.vm.findClass R_law = some m.cls ∧ (∀ w ∈ lw_tbl, w.before #[Value.ref b] s = true) ∧ va_X b L xs s s.heap ∧ b < s.heap.size ∧ meth.locks = false ∧ (Jvm.Cond.and given_1 narrow_1).before #[Value.ref b] s = true
theorem w_MA_eq : w_MA = (q_I w_A, 0) := rfl
theorem d_law_0 : decode code 0 = .ok (.new 8, 3) := by decide +kernel
theorem d_law_3 : decode code 3 = .ok (.dup, 1) := by decide +kernel
theorem d_law_4 : decode code 4 = .ok (.invokespecial 112, 3) := by decide +kernel
theorem d_law_7 : decode code 7 = .ok (.astore_n 1, 1) := by decide +kernel
theorem d_law_8 : decode code 8 = .ok (.new 113, 3) := by decide +kernel
theorem d_law_11 : decode code 11 = .ok (.dup, 1) := by decide +kernel
theorem d_law_12 : decode code 12 = .ok (.invokespecial 115, 3) := by decide +kernel
theorem d_law_15 : decode code 15 = .ok (.astore_n 2, 1) := by decide +kernel
theorem d_law_16 : decode code 16 = .ok (.iconst 1, 1) := by decide +kernel
theorem d_law_17 : decode code 17 = .ok (.newarray .long, 2) := by decide +kernel
theorem d_law_19 : decode code 19 = .ok (.astore_n 3, 1) := by decide +kernel
theorem d_law_20 : decode code 20 = .ok (.iconst 0, 1) := by decide +kernel
theorem d_law_21 : decode code 21 = .ok (.istore 4, 2) := by decide +kernel
section Z77
variable {p : Program} {e : Env} {s : State} {m : MethodId} {below : List Frame} {meth : Method} {c : Code} {l : Launch} {b L : Nat} {xs : Nat → Int32} {D : va_G} {ca : Nat → ClassId} {t : Nat}
theorem st_fl (hflags : l.flags = flags0) : l.stackTraces = false := by
  unfold Launch.stackTraces
  rw [hflags]
  decide +kernel
/-- the script: an array that nobody writes -/
theorem st_ro (hX : va_X b L xs s s.heap) (hbl : b < s.heap.size) : sm_Ro (al_G D ca s.heap.size b t xs_a) (T_law L xs) s := fun c n f h => by
  have h : lw_ro L xs c = some (n, f) := h
  unfold lw_ro at h
  split at h
  · rename_i hc
    subst hc
    cases h
    obtain ⟨scr, h1, h2, h3, h4, h5⟩ := hX
    refine ⟨?_, fun k g => g.1⟩
    rw [st_61]
    exact ⟨scr, h1, h2, h3, by omega, by rw [h4], h5, fun z => by have := al_AN z; omega⟩
  · cases h
/-- the loop, from its head on, over the new heap -/
theorem law_go (hflags : l.flags = flags0) (hL : L ≤ 2048) (C0 : lw_At p s m meth c b L xs) (hwf : al_Wf s.heap.size (al_G D ca s.heap.size b t xs_a) s) {H : Heap} {LS : Array Slot} (hrep : sm_Rep (al_G D ca s.heap.size b t xs_a) w_MA H) (hS : va_S (fun q => s.heap.size ≤ q) s.heap H [])
    (hl : lv_has LS 7 [(4, .int (q_i (4 * ((0 : Nat) : Int)))), (3, .ref (s.heap.size + 497)), (2, .ref (s.heap.size + 486)), (1, .ref s.heap.size), (0, .ref b)]) : W p l e room_1 s m #[Value.ref b] below meth c H [] 498 6765 (lw_Z below #[Value.ref b] s) (F0 m 23 LS []) := by
  obtain ⟨hx, hb, hr, hml, hown, hts, hX, hbl, hlocks, hgv⟩ := id C0
  have hown : s.vm.findClass RL = some m.cls := hown
  have hI := al_Inja (D := D) (ca := ca) (N0 := s.heap.size) (b := b) (t := t)
  have hinv : g_inv (99 * ((0 : Nat) : Int)) w_A := wa_inv
  obtain ⟨W2, o1, hrun⟩ := law_run (L := L) (xs := xs) hL 512 0 1536 w_A 0 none none (by omega) (by omega) (by omega) hinv
  obtain ⟨n, hn⟩ := sm_R_of hrun
  have n9 : sm_og (al_G D ca s.heap.size b t xs_a) 9 0 0 := ⟨⟨rfl, rfl⟩, trivial⟩
  have n10 : sm_og (al_G D ca s.heap.size b t xs_a) 10 0 0 := ⟨⟨rfl, rfl⟩, trivial⟩
  have n60 : sm_og (al_G D ca s.heap.size b t xs_a) 60 0 0 := ⟨⟨rfl, rfl⟩, trivial⟩
  have go := sm_steps (p := p) (l := l) (e := e) (R := room_1) (s := s) (m := m) (args := #[Value.ref b]) (below := below) (meth := meth) (c0 := c) (Q := lw_Z below #[Value.ref b] s) (G := al_G D ca s.heap.size b t xs_a) (nL := 7) (cc := code) (own := RL) (T := T_law L xs) (lev := 10) hx hb hml (fun w hw => st_in hts hw) hown (al_Wf.sm hwf (fun q => al_AN)) hI T_law_tok (T_law_cal hI (st_fl hflags)) (st_ro hX hbl) ⟨by decide, by decide, by decide⟩ (fun pc x pc1 k h => by cases (T_law_0.1 pc x).symm.trans h) (o := ((q_I W2, o1), .ok (some (.inl (q_i 1))))) ?_ n _ hn
  · refine go H [] LS 498 6765 ⟨hrep, ⟨hS.1, fun q g1 _ => hS.2.1 q g1 (Nat.not_le.mpr g1), fun z hz => by cases hz⟩, ?_, ?_, sm_okl_nil.mpr trivial, by show 498 + 1536 ≤ 601024; omega, by show 6765 + 6 * 1536 ≤ 7293034; omega⟩
    · refine ⟨rfl, hl.1, hl.2.1, fun i v hi => ?_⟩
      match i, hi with
      | 0, hi =>
        cases Option.some.inj hi
        refine (lv_at hl 4 (i := 0) rfl).trans ?_
        show _ = some (Slot.val (.ref (sm_ad (al_G D ca s.heap.size b t xs_a) 61 0 0)))
        rw [st_61]
      | 1, hi =>
        cases Option.some.inj hi
        refine (lv_at hl 3 (i := 1) rfl).trans ?_
        show _ = some (Slot.val (.ref (sm_ad (al_G D ca s.heap.size b t xs_a) 9 0 0)))
        rw [al_ad n9.1]
        rfl
      | 2, hi =>
        cases Option.some.inj hi
        refine (lv_at hl 2 (i := 2) rfl).trans ?_
        show _ = some (Slot.val (.ref (sm_ad (al_G D ca s.heap.size b t xs_a) 10 0 0)))
        rw [al_ad n10.1]
        rfl
      | 3, hi =>
        cases Option.some.inj hi
        refine (lv_at hl 1 (i := 3) rfl).trans ?_
        show _ = some (Slot.val (.ref (sm_ad (al_G D ca s.heap.size b t xs_a) 60 0 0)))
        rw [al_ad n60.1]
        rfl
      | 4, hi =>
        cases Option.some.inj hi
        exact lv_at hl 0 (i := 4) rfl
      | 5, hi => cases hi
      | 6, hi => cases hi
      | i + 7, hi => cases hi
    · intro i v hi
      match i, hi with
      | 0, hi =>
        cases Option.some.inj hi
        exact Or.inr (Or.inl ⟨rfl, rfl, rfl⟩)
      | 1, hi =>
        cases Option.some.inj hi
        exact Or.inl n9
      | 2, hi =>
        cases Option.some.inj hi
        exact Or.inl n10
      | 3, hi =>
        cases Option.some.inj hi
        exact Or.inl n60
      | 4, hi =>
        cases Option.some.inj hi
        exact trivial
      | 5, hi => cases hi
      | 6, hi => cases hi
      | i + 7, hi => cases hi
  · rintro ⟨b1, pc, M, ls, st⟩ hend
    rcases sm_fin hend with ⟨-, -, hv, -⟩ | ⟨x, ht, hM, hv, rfl⟩ | ht | ht
    · cases hv
    · have hx9 : q_i 1 = x := Sum.inl.inj (Option.some.inj hv)
      subst hx9
      intro H1 locs1 LS1 c1 s1 hrel
      refine va_forget (fun z hz => al_AN (hrel.2.1.2.2 z hz)) ?_
      have h1 : c1 + b1 ≤ 601024 := hrel.2.2.2.2.2.1
      have h2 : s1 + 6 * b1 ≤ 7293034 := hrel.2.2.2.2.2.2
      have e1 : q_i 1 = (1 : Int32) := by decide
      exact W.widen (k := 601024) (n := 7293034) (by omega) (by omega) (W.eq (g2 := F0 m pc LS1 [.int 1]) (by show F0 m pc LS1 [.int (q_i 1)] = _; rw [e1]) (lw_ret hx hb hr hlocks (T_law_tok.1 pc _ _ ht)))
    · exact absurd ht (law_nl hend)
    · exact absurd ht (law_na hend)
end Z77
set_option maxHeartbeats 4000000 in
/-- YOUR PART: from the entry, for every script of at most 2048 ints, the law comes to its end with true ('hflags': the launch's flags, for a law that throws: no stack traces) -/
theorem whole_start {p : Program} {e : Env} {s : State} {m : MethodId} {below : List Frame} {meth : Method} {c : Code} (l : Launch) (hflags : l.flags = flags0) {b L : Nat} {xs : Nat → Int32} (hL : L ≤ 2048) (C0 : lw_At p s m meth c b L xs) : W p l e room_1 s m #[Value.ref b] below meth c s.heap [] 0 0 (lw_Z below #[Value.ref b] s) (entryFrame m ([Value.ref b] : List Value).toArray 7) := by
  obtain ⟨hx, hb, hr, hml, hown, hts, hX, hbl, hlocks, hgv⟩ := id C0
  have hW : ∀ w ∈ sm_W, w.before #[Value.ref b] s = true := fun w hw => st_in hts hw
  have hfl : l.stackTraces = false := st_fl hflags
  obtain ⟨D, ca, t, hwf⟩ := st_wf hts hgv
  have hown : s.vm.findClass RL = some m.cls := hown
  have hl := lv_entry ([.ref b]) (n := 7) (by show 1 ≤ 7; decide)
  rw [lg_entry_eq]
  generalize (lg_sl ([.ref b]) ++ List.replicate (7 - (lg_sl ([.ref b])).length) Slot.unset).toArray = LS at hl ⊢
  have hl : lv_has LS 7 [(0, .ref b)] := hl
  refine st_new (G := al_G D ca s.heap.size b t xs_9) (A := fun q => s.heap.size ≤ q) (ci := 9) (index := 8) (own := RL) (cc := code) (fs := [.null, .null, .null, .null, .null, .null, .null, .null]) hx hb hW hown (hwf b xs_9).1.1 (by decide) ⟨by decide +kernel, by decide +kernel, by decide +kernel⟩ (fun j hj => by rcases (show j = 0 ∨ j = 1 ∨ j = 2 ∨ j = 3 ∨ j = 4 ∨ j = 5 ∨ j = 6 ∨ j = 7 by have : j < 8 := hj; omega) with rfl | rfl | rfl | rfl | rfl | rfl | rfl | rfl <;> rfl) (by show 1 ≤ 601024; omega) (by show 8 ≤ 7293034; omega) d_law_0 rfl va_S.rf (fun H1 z1 o1 e1 h3 => ?_)
  refine W.widen (k := 1) (n := 8) (by decide) (by decide) ?_
  refine lv_dup hx hb d_law_3 rfl ?_
  refine st_call (q := s.heap.size) (q0 := s.heap.size) (nL := 7) (nn := 485) (ns := 3613) (lev := 4) (idx := 112) (cc := code) (own := RL) (maxL := 2) (A := fun q => s.heap.size ≤ q) (B := sm_Rep (al_G D ca s.heap.size b t xs_9) w_M9) hx hb hml hW hown (ct_X9 (D := D) (ca := ca) (N0 := s.heap.size) (b := b) (t := t) hfl) ⟨by decide +kernel, by decide +kernel, by decide +kernel, by decide +kernel, ⟨by decide +kernel, by decide +kernel⟩, rfl, by decide +kernel, by decide⟩ ⟨by decide, by decide⟩ (by show 1 + 485 ≤ 601024; omega) (by show 8 + 3613 ≤ 7293034; omega) d_law_4 (by simp [Value.category]) hl.1 (al_pre (n := s.heap.size + 1) (A := fun q => s.heap.size ≤ q) (hwf b xs_9) (fun _ h => h) rfl (Nat.le_refl _) (fun _ _ h => h) z1 (st_P1 e1) h3) h3 (fun _ h => h) (fun H2 locs2 z2 o2 r2 h3 => ?_)
  have z2 : H2.size = s.heap.size + 486 := by omega
  refine lv_astore_n (lv' := [(1, .ref s.heap.size), (0, .ref b)]) hx hb d_law_7 rfl hl (by decide) rfl (fun LS hl => ?_)
  refine st_new (G := al_G D ca s.heap.size b t xs_9) (A := fun q => s.heap.size ≤ q) (ci := 10) (index := 113) (own := RL) (cc := code) (fs := [.int 0, .null, .int 0, .int 0, .null, .null, .null, .null, .int 0, .null, .null, .null, .null, .null]) hx hb hW hown (hwf b xs_9).1.1 (by decide) ⟨by decide +kernel, by decide +kernel, by decide +kernel⟩ (fun j hj => by rcases (show j = 0 ∨ j = 1 ∨ j = 2 ∨ j = 3 ∨ j = 4 ∨ j = 5 ∨ j = 6 ∨ j = 7 ∨ j = 8 ∨ j = 9 ∨ j = 10 ∨ j = 11 ∨ j = 12 ∨ j = 13 by have : j < 14 := hj; omega) with rfl | rfl | rfl | rfl | rfl | rfl | rfl | rfl | rfl | rfl | rfl | rfl | rfl | rfl <;> rfl) (by show 486 + 1 ≤ 601024; omega) (by show 3621 + 14 ≤ 7293034; omega) d_law_8 z2 h3 (fun H3 z3 o3 e3 h3 => ?_)
  refine W.widen (k := 487) (n := 3635) (by decide) (by decide) ?_
  refine lv_dup hx hb d_law_11 rfl ?_
  have r3 : sm_Rep (al_G D ca s.heap.size b t xs_9) w_M9 H3 := r2.kept (fun c k i g => o3 _ (Nat.lt_of_lt_of_eq (va_at.lt (r2 c k i g)) z2))
  refine st_call (q := s.heap.size + 486) (q0 := s.heap.size) (nL := 7) (nn := 10) (ns := 3129) (lev := 1) (idx := 115) (cc := code) (own := RL) (maxL := 2) (A := fun q => s.heap.size ≤ q) (B := sm_Rep (al_G D ca s.heap.size b t xs_10) w_MA) hx hb hml hW hown (ct_X10 (D := D) (ca := ca) (N0 := s.heap.size) (b := b) (t := t)) ⟨by decide +kernel, by decide +kernel, by decide +kernel, by decide +kernel, ⟨by decide +kernel, by decide +kernel⟩, rfl, by decide +kernel, by decide⟩ ⟨by decide, by decide⟩ (by show 487 + 10 ≤ 601024; omega) (by show 3635 + 3129 ≤ 7293034; omega) d_law_12 (by simp [Value.category]) hl.1 ⟨fun _ _ _ _ h => ⟨⟨h.1.1, h.1.2.1, h.1.2.2.1, h.1.2.2.2.1, h.1.2.2.2.2.call⟩, h.2⟩, fun U hU hW9 => ⟨(al_pre (n := s.heap.size + 486 + 1) (A := fun q => s.heap.size ≤ q) (hwf b xs_9) (fun _ h => h) rfl (Nat.le_add_right _ _) (fun _ _ h => h) z3 (st_P1 e3) h3).2 U hU hW9, by rw [hU]; exact r3⟩⟩ h3 (fun _ h => h) (fun H4 locs4 z4 o4 r4 h3 => ?_)
  have z4 : H4.size = s.heap.size + 497 := by omega
  refine lv_astore_n (lv' := [(2, .ref (s.heap.size + 486)), (1, .ref s.heap.size), (0, .ref b)]) hx hb d_law_15 rfl hl (by decide) rfl (fun LS hl => ?_)
  refine lv_iconst (v := 1) hx hb d_law_16 (by decide) ?_
  refine va_newaK (atype := .long) (N := 1) (n := 1) hx hb (hW _ (by decide +kernel)) rfl d_law_17 rfl (by decide) (by decide) (by decide) (by show 497 + 1 ≤ 601024; omega) (by show 6764 + 1 ≤ 7293034; omega) z4 (fun H5 cA e5 z5 o5 hAr hNm => ?_)
  have hc : cA = ca 3 := Option.some.inj (hNm.symm.trans (show s.vm.findClass ("[" ++ (newarray.typeOf .long).toString) = some (ca 3) from ((hwf b xs_9).1.1.2 3 _ rfl).2))
  subst hc
  refine W.eq (g2 := F0 m 19 LS [.ref (s.heap.size + 497)]) rfl ?_
  refine W.widen (k := 498) (n := 6765) (by decide) (by decide) ?_
  refine lv_astore_n (lv' := [(3, .ref (s.heap.size + 497)), (2, .ref (s.heap.size + 486)), (1, .ref s.heap.size), (0, .ref b)]) hx hb d_law_19 rfl hl (by decide) rfl (fun LS hl => ?_)
  refine lv_iconst (v := q_i (4 * ((0 : Nat) : Int))) hx hb d_law_20 (by decide) ?_
  refine lv_istore (lv' := [(4, .int (q_i (4 * ((0 : Nat) : Int)))), (3, .ref (s.heap.size + 497)), (2, .ref (s.heap.size + 486)), (1, .ref s.heap.size), (0, .ref b)]) hx hb d_law_21 hl (by decide) rfl (fun LS hl => ?_)
  refine va_forget (fun z hz => h3.2.2 z hz) ?_
  have hrep : sm_Rep (al_G D ca s.heap.size b t xs_a) w_MA H5 := by
    intro c k i g
    by_cases h60 : c = 60
    · subst h60
      obtain ⟨rfl, rfl⟩ := g.1
      show H5[sm_ad (al_G D ca s.heap.size b t xs_a) 60 0 0]? = some (vp_cell (ca 3) (1, .inr (.inl (fun _ => 0))))
      rw [al_ad (show sm_ok 60 0 0 from ⟨rfl, rfl⟩)]
      exact e5
    · have z : va_at D vwCl (sm_ad (al_G D ca s.heap.size b t xs_10) c k i, sm_en (al_G D ca s.heap.size b t xs_10) w_MA c k i) H4 := r4 c k i ⟨g.1, h60⟩
      exact z.kept (o5 _ (Nat.lt_of_lt_of_eq (va_at.lt z) z4))
  exact law_go hflags hL C0 (hwf b xs_a) hrep ⟨by have := h3.1; omega, fun q g1 _ => (o5 q (by omega)).trans (h3.2.1 q g1 (Nat.not_le.mpr g1)), fun z hz => by cases hz⟩ hl
