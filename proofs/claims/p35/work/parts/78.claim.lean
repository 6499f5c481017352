set_option maxHeartbeats 4000000 in
/-- YOUR PART: from the entry, for every script of at most 260 ints, the law comes to its end with true ('hflags': the launch's flags, for a law that throws: no stack traces) -/
theorem whole_start {p : Program} {e : Env} {s : State} {m : MethodId} {below : List Frame} {meth : Method} {c : Code} (l : Launch) (hflags : l.flags = flags0) {b L : Nat} {xs : Nat → Int32} (hL : L ≤ 260) (C0 : lw_At p s m meth c b L xs) : W p l e room_1 s m #[Value.ref b] below meth c s.heap [] 0 0 (lw_Z below #[Value.ref b] s) (entryFrame m ([Value.ref b] : List Value).toArray 9) := by
  obtain ⟨hx, hb, hr, hml, hown, hts, hX, hbl, hlocks, hgv⟩ := id C0
  have hW : ∀ w ∈ sm_W, w.before #[Value.ref b] s = true := fun w hw => st_in hts hw
  have hfl : l.stackTraces = false := st_fl hflags
  obtain ⟨D, ca, t, hwf⟩ := st_wf hts hgv
  have hw9 := hwf b L xs s.heap.size xs_9 (Nat.le_refl _) hX hbl
  have hwB := hwf b L xs (s.heap.size + 486) xs_9 (Nat.le_add_right _ _) hX hbl
  have hown : s.vm.findClass RL = some m.cls := hown
  have hl := lv_entry ([.ref b]) (n := 9) (by show 1 ≤ 9; decide)
  rw [lg_entry_eq]
  generalize (lg_sl ([.ref b]) ++ List.replicate (9 - (lg_sl ([.ref b])).length) Slot.unset).toArray = LS at hl ⊢
  have hl : lv_has LS 9 [(0, .ref b)] := hl
  refine st_new (G := (al_GG D ca s.heap.size b t xs_9 (L, xs))) (A := fun q => s.heap.size ≤ q) (ci := 9) (index := 8) (own := RL) (cc := code) (fs := [.null, .null, .null, .null, .null, .null, .null, .null]) hx hb hW hown hw9.1.1 (by decide) ⟨by decide +kernel, by decide +kernel, by decide +kernel⟩ (fun j hj => (by rcases (show j = 0 ∨ j = 1 ∨ j = 2 ∨ j = 3 ∨ j = 4 ∨ j = 5 ∨ j = 6 ∨ j = 7 by have : j < 8 := hj; omega) with rfl | rfl | rfl | rfl | rfl | rfl | rfl | rfl <;> rfl)) (by show 0 + 1 ≤ 600130; omega) (by show 0 + 8 ≤ 7301080; omega) d_law_0 rfl va_S.rf (fun H1 z1 o1 e1 h3 => ?_)
  refine W.widen (k := 1) (n := 8) (by decide) (by decide) ?_
  refine lv_dup hx hb d_law_3 rfl ?_
  refine st_call (q := s.heap.size) (q0 := s.heap.size) (nL := 9) (nn := 485) (ns := 3613) (lev := 4) (idx := 304) (cc := code) (own := RL) (maxL := 2) (A := fun q => s.heap.size ≤ q) (B := sm_Rep (al_GG D ca s.heap.size b t xs_9 (L, xs)) w_M9) hx hb hml hW hown (ct_X9 (D := D) (ca := ca) (N0 := s.heap.size) (b := b) (t := t) (sc := (L, xs)) hfl) ⟨by decide +kernel, by decide +kernel, by decide +kernel, by decide +kernel, ⟨by decide +kernel, by decide +kernel⟩, rfl, by decide +kernel, by decide⟩ ⟨by decide, by decide⟩ (by show 1 + 485 ≤ 600130; omega) (by show 8 + 3613 ≤ 7301080; omega) d_law_4 (by simp [Value.category]) hl.1 (al_pre (n := s.heap.size + 1) (A := fun q => s.heap.size ≤ q) hw9 (fun _ h => h) rfl (Nat.le_refl _) (fun _ _ h => h) z1 (st_P1 e1) h3) h3 (fun x h => by show s.heap.size ≤ x; omega) (fun H2 locs2 z2 o2 r2 h3 => ?_)
  have z2 : H2.size = s.heap.size + 486 := by omega
  refine lv_astore_n (lv' := [(1, .ref s.heap.size), (0, .ref b)]) hx hb d_law_7 rfl hl (by decide) rfl (fun LS hl => ?_)
  refine st_new (G := (al_GG D ca s.heap.size b t xs_9 (L, xs))) (A := fun q => s.heap.size ≤ q) (ci := 9) (index := 8) (own := RL) (cc := code) (fs := [.null, .null, .null, .null, .null, .null, .null, .null]) hx hb hW hown hw9.1.1 (by decide) ⟨by decide +kernel, by decide +kernel, by decide +kernel⟩ (fun j hj => (by rcases (show j = 0 ∨ j = 1 ∨ j = 2 ∨ j = 3 ∨ j = 4 ∨ j = 5 ∨ j = 6 ∨ j = 7 by have : j < 8 := hj; omega) with rfl | rfl | rfl | rfl | rfl | rfl | rfl | rfl <;> rfl)) (by show 486 + 1 ≤ 600130; omega) (by show 3621 + 8 ≤ 7301080; omega) d_law_8 z2 h3 (fun H3 z3 o3 e3 h3 => ?_)
  refine W.widen (k := 487) (n := 3629) (by decide) (by decide) ?_
  refine lv_dup hx hb d_law_11 rfl ?_
  have kp : ∀ H5 : Heap, (∀ x, x < s.heap.size + 486 → H5[x]? = H2[x]?) → sm_Rep (al_GG D ca s.heap.size b t xs_9 (L, xs)) w_M9 H5 := fun H5 h5 => r2.kept (fun c k i g => h5 _ (Nat.lt_of_lt_of_eq (va_at.lt (r2.1 c k i g)) z2)) (fun c k i g => by
    have z : c + 100 < 100 := g.2.1
    omega)
  refine st_call (q := s.heap.size + 486) (q0 := s.heap.size + 486) (nL := 9) (nn := 485) (ns := 3613) (lev := 4) (idx := 304) (cc := code) (own := RL) (maxL := 2) (A := fun q => s.heap.size ≤ q) (B := sm_Rep (al_GG D ca (s.heap.size + 486) b t xs_9 (L, xs)) w_M9) hx hb hml hW hown (ct_X9 (D := D) (ca := ca) (N0 := s.heap.size + 486) (b := b) (t := t) (sc := (L, xs)) hfl) ⟨by decide +kernel, by decide +kernel, by decide +kernel, by decide +kernel, ⟨by decide +kernel, by decide +kernel⟩, rfl, by decide +kernel, by decide⟩ ⟨by decide, by decide⟩ (by show 487 + 485 ≤ 600130; omega) (by show 3629 + 3613 ≤ 7301080; omega) d_law_12 (by simp [Value.category]) hl.1 ⟨al_blind (al_GG D ca (s.heap.size + 486) b t xs_9 (L, xs)) (s.heap.size + 486) (s.heap.size + 486) (al_up al_0 (s.heap.size + 486) (.inr (9, [.null, .null, .null, .null, .null, .null, .null, .null]))), fun U hU hW9 => (by obtain ⟨y1, y2, y3, y4, y5⟩ := (al_pre (N0 := s.heap.size) (G := (al_GG D ca (s.heap.size + 486) b t xs_9 (L, xs))) (q := s.heap.size + 486) (E0 := al_up al_0 (s.heap.size + 486) (.inr (9, [.null, .null, .null, .null, .null, .null, .null, .null]))) (n := s.heap.size + 486 + 1) (A := fun q => s.heap.size ≤ q) hwB (fun _ h => h) rfl (Nat.le_add_right _ _) (fun _ _ h => h) z3 (st_P1 e3) h3).2 U hU hW9; exact ⟨y1, y2, Nat.le_refl _, y4, y5.narrow (Nat.le_add_right _ _)⟩)⟩ h3 (fun x h => by show s.heap.size ≤ x; omega) (fun H4 locs4 z4 o4 r4 h3 => ?_)
  refine lv_astore_n (lv' := [(2, .ref (s.heap.size + 486)), (1, .ref s.heap.size), (0, .ref b)]) hx hb d_law_15 rfl hl (by decide) rfl (fun LS hl => ?_)
  refine W.widen (k := 972) (n := 7242) (by decide) (by decide) ?_
  refine va_forget (fun z hz => h3.2.2 z hz) ?_
  exact law_go hflags hL C0 (hwf b L xs s.heap.size xs_a (Nat.le_refl _) hX hbl) (al_rep2 (kp H4 (fun x hx => (o4 x hx).trans (o3 x (by omega)))) r4) ⟨h3.1, h3.2.1, fun z hz => by cases hz⟩ hl
set_option maxHeartbeats 4000000 in
theorem lw_walk (l : Launch) (hflags : l.flags = flags0) (b : Addr) (xs : List Int32) : MetFree l x (headSpec (Jvm.Cond.code x code maxLocals ret :: tables_1) room_1) (lw_P b xs) (fun _ _ _ _ _ => True) lw_Q := by
  refine MetFree.of_bodyS (code := code) (maxLocals := maxLocals) (ret := ret) (by decide) ?_ ?_
  · intro args s m h hn
    obtain ⟨meth, c, h1, h2, h3, h4, h5, h6, -, -⟩ := Cond.code_spec hn (atoms_spec (ws := Jvm.Cond.code x code maxLocals ret :: tables_1) h _ List.mem_cons_self)
    exact ⟨meth, c, h1, h2, h3, h4, h5, h6⟩
  · intro p e s m args below meth c s₁ B hml0 hP _
    obtain ⟨rfl, hx, hbd, hgv⟩ := hP
    obtain ⟨scr, harrAt, hlist, hof, hsmall⟩ := hx
    obtain ⟨hcb, hkn, -, -⟩ := State.arrayAt?_spec harrAt
    have hown : s.vm.findClass R_law = some m.cls := findClass_of_methodNamed B.named
    have hts0 : ∀ c ∈ (Jvm.Cond.code x code maxLocals ret :: tables_1), c.before #[Value.ref b] s = true := atoms_spec (ws := Jvm.Cond.code x code maxLocals ret :: tables_1) B.pre
    have hts : ∀ w ∈ lw_tbl, w.before #[Value.ref b] s = true := k2_hts_sels lw_privs (fun w hw => hts0 w (List.mem_cons_of_mem _ hw)) lw_privs_ok
    have hml : c.maxLocals = 9 := B.maxLocals_eq (hts0 _ List.mem_cons_self)
    have X₀ : Stand p l e room_1 s m #[Value.ref b] below meth c s₁ [] 0 0 := Stand.of_body B
    have hh0 : s₁.heap = s.heap := by rw [B.state]; rfl
    have hsz : scr.slots.size = xs.length := by rw [← Array.length_toList, hlist, List.length_map]
    have hval : ∀ j : Nat, j < xs.length → scr.slots[j]? = some (.int (xs.getD j 0)) := fun j hj => by
      rw [← Array.getElem?_toList, hlist]
      simp [hj]
    have hbl : b < s.heap.size := (Array.getElem?_eq_some_iff.mp hcb).1
    have hX : va_X b xs.length (fun j => xs.getD j 0) s s.heap := ⟨scr, hcb, hof, hkn, hsz, hval⟩
    have K : W p l e room_1 s m #[Value.ref b] below meth c s₁.heap [] 0 0 (lw_Z below #[Value.ref b] s) (entryFrame m ([Value.ref b] : List Value).toArray 9) := by
      rw [hh0]
      exact whole_start l hflags hbd ⟨B.exec, B.bytes, B.returns, hml, hown, hts, hX, hbl, B.notSynchronized, hgv⟩
    obtain ⟨t, a1, o, b1, b2, b3⟩ := K s₁ rfl X₀
    exact ⟨t, o, a1, b1, b2, b3⟩
theorem lw_pre_spec {args : Array Value} {s : State} (h : (Jvm.Cond.and given_1 narrow_1).before args s = true) (hr : rest_1_c.before args s = true) : ∃ (b : Addr) (xs : List Int32), lw_P b xs args s := by
  have hs := flat_of_before _ h
  have hq := flat_of_before _ hr
  have hc : (Cond.count 1).before args s = true := hs _ (by decide +kernel)
  have harr : (Cond.arrayOf (.arg 0) .int).before args s = true := hs _ (by decide +kernel)
  have hle : (Cond.le (.length (.arg 0)) (.int 260)).before args s = true := hs _ (by decide +kernel)
  have hlen : (Cond.isInt (.length (.arg 0))).before args s = true := hq _ (by decide +kernel)
  have hall : (Cond.all (.arg 0) (.isInt (.elem (.arg 0) (.index 0)))).before args s = true := hq _ (by decide +kernel)
  obtain ⟨b, xs, hb, hx⟩ := State.ints_of_pre rfl harr hlen hall
  have hsm : xs.length < 2 ^ 31 := hx.choose_spec.2.2.2
  have hev : (Term.length (.arg 0)).eval args s none [] s = some (.int xs.length.toInt32) := hx.length_eval hb
  have hv := Cond.le_ints hev (show (Term.int 260).eval args s none [] s = some (.int 260) from rfl)
  have hd : xs.length.toInt32 ≤ 260 := by
    simpa [Cond.before, Cond.holds, hv] using hle
  have hN : xs.length ≤ 260 := (Int32.ofNat_le_ofNat hsm (by decide)).mp (show Int32.ofNat xs.length ≤ Int32.ofNat 260 from hd)
  exact ⟨b, xs, Cond.one_arg hc (show args[0]? = some (.ref b) from hb), hx, hN, h⟩
theorem lw_comes (l : Launch) (hflags : l.flags = flags0) : Comes l x (Jvm.Cond.code x code maxLocals ret :: tables_1) room_1 (fun tb e args s => Calls_1 tb e args s ∧ rest_1 tb e args s ∧ Pre_1 tb e args s)
    (fun _ _ args s o t => lw_Q args s o t) := by
  intro p e ha hc hk s m args below hf hfit hheap happ hpre
  obtain ⟨b, xs, hP⟩ := lw_pre_spec hpre.2.2 hpre.2.1
  obtain ⟨k, o, h1, h2, h3, hQ⟩ := lw_walk l hflags b xs p e ha hc hk s m args below hf ((Spec.applies_iff_loose hf).mp happ).1 hP trivial
  exact ⟨k, o, h1, h2, h3, hQ⟩
theorem lw_frame {s t : State} {o : Outcome} {args : Array Value} (h : Framed s o t [] 600130 7301080) :
    Framed s o t (fieldLocs frame_1_writes args s ++ arrayLocs frame_1_arrays args s ++ staticLocs frame_1_statics s) 600130 7301080 := h
theorem lw_limb (L : Cond) (hL : ∀ (args : Array Value) (s t : State), L.after args s (.returned (some (.int 1))) t = true) :
    ArmFor flags0 classFile x code maxLocals ret World_1 tables_1 room_1 Calls_1 rest_1 Pre_1
      (fun tb e a s o t => postC L tb e a s o t ∧ Framed s o t (fieldLocs frame_1_writes a s ++ arrayLocs frame_1_arrays a s ++ staticLocs frame_1_statics s) 600130 7301080) := by
  intro l hflags _ _ p e ha hc hk s m args below hf hfit hheap happ hpre
  obtain ⟨k, o, h1, h2, h3, rfl, hF⟩ := lw_comes l hflags p e ha hc hk s m args below hf hfit hheap happ hpre
  exact ⟨k, _, h1, h2, h3, hL args s _, lw_frame hF⟩
theorem i_vc : Claimed_1_1 ∧ Claimed_1_2 := ⟨lw_limb limb_1_1 (fun args s t => by simp [limb_1_1, Cond.after, Cond.holds, Cond.value]), lw_limb limb_1_2 (fun args s t => Cond.after_iff.mpr (by
  first | (rw [show limb_1_2 = Cond.eq .result (.int 1) from rfl, Cond.eq_ints (x := 1) (y := 1) rfl rfl]; simp; done) | (simp [limb_1_2, Cond.value, Term.eval]; done)))⟩
