/-! THE FACE'S CONSTRUCTOR: its contract -/
/-- behind a constructor: what is so of the heap -/
def al_Qb (q n : Nat) (B : Heap → Prop) : Array Value → State → Outcome → State → Prop := fun _ st oc t => oc = .returned none ∧ t.heap.size = st.heap.size + n ∧ (∀ x, x < q → t.heap[x]? = st.heap[x]?) ∧ B t.heap
theorem al_ofB {l : Launch} {G : sm_G} {N0 : Nat} {cc : ByteArray} {E0 : al_E} {B : Heap → Prop} {y : MethodName} {maxL lev nn ns q : Nat} (hy : plainName y.cls = true) (h1L : 1 ≤ maxL)
    (body : ∀ (p : Program) (e : Env) (s : State) (m : MethodId) (args : Array Value) (below : List Frame) (meth : Method) (c0 : Code), p.tables.exec = Jvm.exec → c0.code = cc → c0.maxLocals = maxL → meth.sig.returnType = none → meth.locks = false → meth.name = y.name → (∀ w ∈ sm_W, w.before args s = true) → s.vm.findClass y.cls = some m.cls → s.heap.size = q + 1 → N0 ≤ q → al_Wf N0 G s →
      al_Go p l e (al_Rm lev nn ns) s m args below meth c0 (MQ below (al_Qb q nn B) args s nn ns (fun x => N0 ≤ x)) G (fun x => q ≤ x) maxL 0 [(0, .ref q)] [] E0 (q + 1) 0 0) : Met l y (Cond.code y cc maxL none :: sm_W) (al_Rm lev nn ns) (al_Pc G N0 q E0) (al_Qb q nn B) nn ns (fun x => N0 ≤ x) := by
  refine Met.ofW (cc := cc) (maxL := maxL) (ret := none) hy rfl ?_
  intro p e s m args below meth c s₁ B hml hv
  obtain ⟨rfl, hsz, hN, hP, hW⟩ := hv
  have hts := atoms_spec (ws := Cond.code y cc maxL none :: sm_W) B.pre
  have hl := lv_entry ([.ref q]) (n := maxL) (by show 1 ≤ maxL; exact h1L)
  show W p l e _ s m _ below meth c s.heap [] 0 0 _ (entryFrame m ([Value.ref q] : List Value).toArray maxL)
  rw [lg_entry_eq]
  exact body p e s m _ below meth c B.exec B.bytes hml B.returns B.notSynchronized (name_of_methodNamed B.named B.method).1 (fun w hw => hts w (List.mem_cons_of_mem _ hw)) (findClass_of_methodNamed B.named) hsz hN hW s.heap [] _ hsz hP va_S.rf hl
section Z71
variable {D : va_G} {ca : Nat → ClassId} {N0 b t : Nat} {l : Launch} {sc : Nat × (Nat → Int32)}
theorem al_A9 {x : Nat} : sm_A (al_GG D ca N0 b t xs_9 sc) x → N0 ≤ x := by
  rintro (⟨c, k, i, g, rfl⟩ | ⟨c, k, i, g, rfl⟩)
  · rw [al_ad g.1]
    omega
  · rw [al_ad2 g.1]
    omega
/-- the memory of a new face -/
def w_M9 : sm_M := (q_I (q_rg w_Z 0 (w_new 24)), 0)
theorem ct_X9 (hfl : l.stackTraces = false) : Met l yX9_init (Cond.code yX9_init cX9_init 2 none :: sm_W) (al_Rm 4 485 3613) (al_Pc (al_GG D ca N0 b t xs_9 sc) N0 N0 (al_up al_0 N0 (.inr (9, [.null, .null, .null, .null, .null, .null, .null, .null])))) (al_Qb N0 485 (sm_Rep (al_GG D ca N0 b t xs_9 sc) w_M9)) 485 3613 (fun x => N0 ≤ x) := by
  refine al_ofB (by decide +kernel) (by decide) ?_
  intro p e s m args below meth c0 hx hb hml hr hlocks hname hts hown hs hN hWf
  refine face_1 hx hb hml hname hts hown hs hN hWf ?_
  intro H locs LS h1 h2 h3 h4
  have hI := al_Inj9 (D := D) (ca := ca) (N0 := N0) (b := b) (t := t) (sc := sc)
  have hrep : sm_Rep (al_GG D ca N0 b t xs_9 sc) (q_I w_Z, 0) H := al_rep9 h2
  have hwf : sm_Wf (al_GG D ca N0 b t xs_9 sc) s := hWf.sm (fun q => al_A9)
  refine w_relocs (locs' := locs.filter (fun z => decide (z.base < s.heap.size))) (fun z hz hlt => List.mem_filter.mpr ⟨hz, by simpa using hlt⟩) ?_
  have n9 : sm_og (al_GG D ca N0 b t xs_9 sc) 9 0 0 := ⟨⟨rfl, rfl⟩, by decide, by decide⟩
  have a9 : sm_A (al_GG D ca N0 b t xs_9 sc) N0 := Or.inl ⟨9, 0, 0, n9, by rw [al_ad n9.1]; rfl⟩
  have hS : va_S (sm_A (al_GG D ca N0 b t xs_9 sc)) s.heap H (locs.filter (fun z => decide (z.base < s.heap.size))) := by
    refine ⟨h3.1, fun x g1 g2 => h3.2.1 x g1 (fun z => ?_), fun z hz => ?_⟩
    · have z1 : N0 ≤ x := z
      have : x = N0 := by omega
      subst this
      exact g2 a9
    · obtain ⟨z1, z2⟩ := List.mem_filter.mp hz
      have z3 : N0 ≤ z.base := h3.2.2 z z1
      have z4 : z.base < s.heap.size := by simpa using z2
      rw [hs] at z4
      have : z.base = N0 := Nat.le_antisymm (Nat.le_of_lt_succ z4) z3
      rw [this]
      exact a9
  have hno : ∀ q ∈ tb_X9i, q.2 ≠ (.lreturn, 1) ∧ q.2 ≠ (.areturn, 1) := by decide +kernel
  obtain ⟨n, hn⟩ := sm_R_of x9_run
  have go := sm_steps (p := p) (l := l) (e := e) (R := al_Rm 4 485 3613) (s := s) (m := m) (args := args) (below := below) (meth := meth) (c0 := c0) (Q := MQ below (al_Qb N0 485 (sm_Rep (al_GG D ca N0 b t xs_9 sc) w_M9)) args s 485 3613 (fun x => N0 ≤ x)) (G := al_GG D ca N0 b t xs_9 sc) (nL := 2) (cc := cX9_init) (own := RX9) (T := T_X9i) (lev := 4) hx hb hml hts hown hwf hI T_X9i_tok (fun pc h => by cases h) (T_X9i_cal hI hfl) (fun c n f h => by cases h) ⟨by decide, by decide, by decide⟩ (fun pc x pc1 k h => by cases h) (o := (w_M9, .ok none)) ?_ n _ hn
  · refine go H _ LS 485 3613 ⟨hrep, hS, ?_, ?_, sm_okl_nil.mpr trivial, by decide, by decide⟩
    · refine ⟨rfl, h4.1, h4.2.1, fun i v hi => ?_⟩
      match i, hi with
      | 0, hi =>
        cases Option.some.inj hi
        have z := lv_at h4 1 (i := 0) rfl
        rw [z]
        show _ = some (Slot.val (.ref (sm_ad (al_GG D ca N0 b t xs_9 sc) 9 0 0)))
        rw [al_ad n9.1]
        rfl
      | 1, hi =>
        cases Option.some.inj hi
        exact lv_at h4 0 (i := 1) rfl
      | i + 2, hi => cases hi
    · intro i v hi
      match i, hi with
      | 0, hi =>
        cases Option.some.inj hi
        exact Or.inl n9
      | 1, hi =>
        cases Option.some.inj hi
        exact trivial
      | i + 2, hi => cases hi
  · rintro ⟨b1, pc, M, ls, st⟩ hend
    rcases sm_fin hend with ⟨ht, rfl, -, rfl⟩ | ⟨x, -, -, hv, -⟩ | ht | ht
    · intro H1 locs1 LS1 c1 s1 hrel T hT X
      have hsz := X.heapSize
      rw [hT, hs] at hsz
      have c9 : c1 + b1 ≤ 485 := hrel.2.2.2.2.2.1
      have s9 : s1 + 6 * b1 ≤ 3613 := hrel.2.2.2.2.2.2
      have nl : sm_og (al_GG D ca N0 b t xs_9 sc) 1 18 8 := ⟨⟨by decide, by decide⟩, by decide, by decide⟩
      have hlt := va_at.lt (hrel.1.1 1 18 8 nl)
      rw [show sm_ad (al_GG D ca N0 b t xs_9 sc) 1 18 8 = N0 + 485 from (al_ad nl.1).trans rfl] at hlt
      have hlt1 : N0 + 485 < H1.size := hlt
      have hsz1 : H1.size = N0 + 486 := by omega
      exact W.widen (k := 485) (n := 3613) (by omega) (by omega) (W.vret hx hb hr (fun t1 ht1 hW => ⟨rfl, by rw [ht1, hs, hsz1], fun x hx1 => by
        rw [ht1]
        exact hrel.2.1.2.1 x (by omega) (fun z => by have := al_A9 z; omega), by rw [ht1]; exact hrel.1⟩) (fun z hz => al_A9 (hrel.2.1.2.2 z hz)) (T_X9i_tok.1 pc _ _ ht) hlocks) T hT X
    · cases hv
    · exact absurd rfl (hno _ (sm_look ht)).1
    · exact absurd rfl (hno _ (sm_look ht)).2
end Z71
