/-! CONSTRUCTORS, the small ones: by program -/
section Z63
theorem al_RA {D : va_G} {cl : List vw_C} {tys : List (ClassId × FieldType)} {s : State} {t : Nat} {cA : ClassId} {C : String} (h : va_K D cl tys s) (ht : tys[t]? = some (cA, .object C)) : s.vm.findClass ("[" ++ (FieldType.object C).toString) = some cA := by
  obtain ⟨kA, comp, -, -, -, h4⟩ := (h.2 t _ ht).2
  exact h4
section ALM
variable {p : Program} {l : Launch} {e : Env} {R : Room} {s : State} {m : MethodId} {args : Array Value} {below : List Frame} {meth : Method} {c0 : Code} {Q : State → Prop} {G : sm_G} {nL : Nat}
variable {cc : ByteArray} {own : String} {pc : Nat} {E : al_E} {lv : List (Nat × Value)} {st : List Value} {n cells slots N0 q : Nat}
theorem al_gets (hx : p.tables.exec = Jvm.exec) (hb : c0.code = cc) (hts : ∀ w ∈ sm_W, w.before args s = true) (hown : s.vm.findClass own = some m.cls) (hWf : al_Wf N0 G s) (hN : N0 ≤ q) {index : Nat} (hlink : own = "SnowGuns$Water" ∧ index = 9) (hd : decode cc pc = .ok (.getstatic index, 3))
    (kk : al_Go p l e R s m args below meth c0 Q G (fun x => q ≤ x) nL (pc + 3) lv (.ref (sm_ad G 62 0 0) :: st) E n cells slots) : al_Go p l e R s m args below meth c0 Q G (fun x => q ≤ x) nL pc lv st E n cells slots := fun H locs LS h1 h2 h3 h4 =>
  va_getsN hx hb (hWf.1.2.2.1.narrow (B := fun x => q ≤ x) (fun x h => Nat.le_trans hN h)) h3 hown (by rw [hlink.1, hlink.2]; exact va_Nw.use rfl hWf.2.2.2.2.2.2.1) (fun _ h => h) hd (kk H locs LS h1 h2 h3 h4)
theorem al_mlen (hx : p.tables.exec = Jvm.exec) (hb : c0.code = cc) (hWf : al_Wf N0 G s) (hN : N0 ≤ q) (hd : decode cc pc = .ok (.arraylength, 1))
    (kk : al_Go p l e R s m args below meth c0 Q G (fun x => q ≤ x) nL (pc + 1) lv (.int (q_i 4) :: st) E n cells slots) : al_Go p l e R s m args below meth c0 Q G (fun x => q ≤ x) nL pc lv (.ref (sm_ad G 62 0 0) :: st) E n cells slots := fun H locs LS h1 h2 h3 h4 =>
  va_tlen hx hb (hWf.1.2.1.narrow (B := fun x => q ≤ x) (fun x h => Nat.le_trans hN h)) h3 (v := q_i 4) rfl hd (kk H locs LS h1 h2 h3 h4)
end ALM
theorem dX4_init_0 : decode cX4_init 0 = .ok (.aload_n 0, 1) := by decide +kernel
theorem dX4_init_1 : decode cX4_init 1 = .ok (.invokespecial 3, 3) := by decide +kernel
theorem dX4_init_4 : decode cX4_init 4 = .ok (.return_, 1) := by decide +kernel
theorem ct_X4 {l : Launch} {G : sm_G} {N0 q : Nat} : al_C l yX4_init cX4_init 1 1 0 0 G N0 q (al_up al_0 (q) (.inr (4, [.int 0, .int 0, .int 0, .int 0]))) (al_up al_0 (q) (.inr (4, [.int 0, .int 0, .int 0, .int 0]))) := by
  refine al_ofW (by decide +kernel) (by decide) ?_
  intro p e s m args below meth c0 hx hb hml hr hlocks hname hts hown hs hN hWf
  have hA0 : ∀ x, q ≤ x → N0 ≤ x := fun x h => Nat.le_trans hN h
  refine al_aload (j := 0) hx hb dX4_init_0 rfl rfl ?_
  refine al_objInit hx hb hml hts hown ⟨by decide +kernel, by decide +kernel, by decide +kernel⟩ ⟨by decide, by decide⟩ dX4_init_1 ?_
  exact al_ret hx hb hr hlocks hs (by omega) (al_all (by first | (simp (disch := omega) only [al_ue, al_un]; done) | (simp (disch := omega) only [al_ue, al_un]; rfl)) al_all0) ⟨by decide, by decide⟩ dX4_init_4
theorem dX1_init_0 : decode cX1_init 0 = .ok (.aload_n 0, 1) := by decide +kernel
theorem dX1_init_1 : decode cX1_init 1 = .ok (.invokespecial 3, 3) := by decide +kernel
theorem dX1_init_4 : decode cX1_init 4 = .ok (.return_, 1) := by decide +kernel
theorem ct_X1 {l : Launch} {G : sm_G} {N0 q : Nat} : al_C l yX1_init cX1_init 1 1 0 0 G N0 q (al_up al_0 (q) (.inr (1, [.int 0, .int 0, .int 0, .int 0, .int 0, .int 0]))) (al_up al_0 (q) (.inr (1, [.int 0, .int 0, .int 0, .int 0, .int 0, .int 0]))) := by
  refine al_ofW (by decide +kernel) (by decide) ?_
  intro p e s m args below meth c0 hx hb hml hr hlocks hname hts hown hs hN hWf
  have hA0 : ∀ x, q ≤ x → N0 ≤ x := fun x h => Nat.le_trans hN h
  refine al_aload (j := 0) hx hb dX1_init_0 rfl rfl ?_
  refine al_objInit hx hb hml hts hown ⟨by decide +kernel, by decide +kernel, by decide +kernel⟩ ⟨by decide, by decide⟩ dX1_init_1 ?_
  exact al_ret hx hb hr hlocks hs (by omega) (al_all (by first | (simp (disch := omega) only [al_ue, al_un]; done) | (simp (disch := omega) only [al_ue, al_un]; rfl)) al_all0) ⟨by decide, by decide⟩ dX1_init_4
theorem dX0_init_0 : decode cX0_init 0 = .ok (.aload_n 0, 1) := by decide +kernel
theorem dX0_init_1 : decode cX0_init 1 = .ok (.invokespecial 3, 3) := by decide +kernel
theorem dX0_init_4 : decode cX0_init 4 = .ok (.aload_n 0, 1) := by decide +kernel
theorem dX0_init_5 : decode cX0_init 5 = .ok (.bipush 20, 2) := by decide +kernel
theorem dX0_init_7 : decode cX0_init 7 = .ok (.newarray .int, 2) := by decide +kernel
theorem dX0_init_9 : decode cX0_init 9 = .ok (.putfield 9, 3) := by decide +kernel
theorem dX0_init_12 : decode cX0_init 12 = .ok (.aload_n 0, 1) := by decide +kernel
theorem dX0_init_13 : decode cX0_init 13 = .ok (.bipush 20, 2) := by decide +kernel
theorem dX0_init_15 : decode cX0_init 15 = .ok (.newarray .int, 2) := by decide +kernel
theorem dX0_init_17 : decode cX0_init 17 = .ok (.putfield 15, 3) := by decide +kernel
theorem dX0_init_20 : decode cX0_init 20 = .ok (.return_, 1) := by decide +kernel
theorem ct_X0 {l : Launch} {G : sm_G} {N0 q : Nat} : al_C l yX0_init cX0_init 1 1 2 40 G N0 q (al_up al_0 (q) (.inr (0, [.null, .null, .int 0]))) (al_up (al_up (al_up al_0 (q) (.inr (0, [.ref (q + 1), .ref (q + 2), .int 0]))) (q + 1) (.inl (sm_ca G 0, 20, .inl (fun _ => 0)))) (q + 2) (.inl (sm_ca G 0, 20, .inl (fun _ => 0)))) := by
  refine al_ofW (by decide +kernel) (by decide) ?_
  intro p e s m args below meth c0 hx hb hml hr hlocks hname hts hown hs hN hWf
  have hA0 : ∀ x, q ≤ x → N0 ≤ x := fun x h => Nat.le_trans hN h
  refine al_aload (j := 0) hx hb dX0_init_0 rfl rfl ?_
  refine al_objInit hx hb hml hts hown ⟨by decide +kernel, by decide +kernel, by decide +kernel⟩ ⟨by decide, by decide⟩ dX0_init_1 ?_
  refine al_aload (j := 0) hx hb dX0_init_4 rfl rfl ?_
  refine al_bipush (v := q_i (20)) hx hb dX0_init_5 rfl ?_
  refine al_newa (atype := .int) (cA := sm_ca G 0) (N' := 20) (a0 := (20, .inl (fun _ => 0))) hx hb hts (by decide +kernel) (show s.vm.findClass ("[" ++ (newarray.typeOf .int).toString) = some (sm_ca G 0) from (hWf.1.1.2 0 _ rfl).2) rfl (by decide) rfl (by decide) (by decide) (by decide) dX0_init_7 ?_
  refine al_putF (ci := 0) (k := 0) (fs := [.null, .null, .int 0]) hx hb hts hown hWf.1.1 (by decide) (by first | (simp (disch := omega) only [al_ue, al_un]; done) | (simp (disch := omega) only [al_ue, al_un]; rfl)) (Nat.le_refl q) (by decide) (by decide +kernel) rfl rfl hname rfl rfl (by simp) dX0_init_9 ?_
  refine al_mono (E' := (al_up (al_up al_0 (q) (.inr (0, [.ref (q + 1), .null, .int 0]))) (q + 1) (.inl (sm_ca G 0, 20, .inl (fun _ => 0))))) (al_all (by first | (simp (disch := omega) only [al_ue, al_un]; done) | (simp (disch := omega) only [al_ue, al_un]; rfl)) (al_all (by first | (simp (disch := omega) only [al_ue, al_un]; done) | (simp (disch := omega) only [al_ue, al_un]; rfl)) al_all0)) ?_
  refine al_aload (j := 0) hx hb dX0_init_12 rfl rfl ?_
  refine al_bipush (v := q_i (20)) hx hb dX0_init_13 rfl ?_
  refine al_newa (atype := .int) (cA := sm_ca G 0) (N' := 20) (a0 := (20, .inl (fun _ => 0))) hx hb hts (by decide +kernel) (show s.vm.findClass ("[" ++ (newarray.typeOf .int).toString) = some (sm_ca G 0) from (hWf.1.1.2 0 _ rfl).2) rfl (by decide) rfl (by decide) (by decide) (by decide) dX0_init_15 ?_
  refine al_putF (ci := 0) (k := 1) (fs := [.ref (q + 1), .null, .int 0]) hx hb hts hown hWf.1.1 (by decide) (by first | (simp (disch := omega) only [al_ue, al_un]; done) | (simp (disch := omega) only [al_ue, al_un]; rfl)) (Nat.le_refl q) (by decide) (by decide +kernel) rfl rfl hname rfl rfl (by simp) dX0_init_17 ?_
  refine al_mono (E' := (al_up (al_up (al_up al_0 (q) (.inr (0, [.ref (q + 1), .ref (q + 2), .int 0]))) (q + 1) (.inl (sm_ca G 0, 20, .inl (fun _ => 0)))) (q + 2) (.inl (sm_ca G 0, 20, .inl (fun _ => 0))))) (al_all (by first | (simp (disch := omega) only [al_ue, al_un]; done) | (simp (disch := omega) only [al_ue, al_un]; rfl)) (al_all (by first | (simp (disch := omega) only [al_ue, al_un]; done) | (simp (disch := omega) only [al_ue, al_un]; rfl)) (al_all (by first | (simp (disch := omega) only [al_ue, al_un]; done) | (simp (disch := omega) only [al_ue, al_un]; rfl)) al_all0))) ?_
  exact al_ret hx hb hr hlocks hs (by omega) (al_all (by first | (simp (disch := omega) only [al_ue, al_un]; done) | (simp (disch := omega) only [al_ue, al_un]; rfl)) (al_all (by first | (simp (disch := omega) only [al_ue, al_un]; done) | (simp (disch := omega) only [al_ue, al_un]; rfl)) (al_all (by first | (simp (disch := omega) only [al_ue, al_un]; done) | (simp (disch := omega) only [al_ue, al_un]; rfl)) al_all0))) ⟨by decide, by decide⟩ dX0_init_20
theorem dX7_init_0 : decode cX7_init 0 = .ok (.aload_n 0, 1) := by decide +kernel
theorem dX7_init_1 : decode cX7_init 1 = .ok (.invokespecial 3, 3) := by decide +kernel
theorem dX7_init_4 : decode cX7_init 4 = .ok (.aload_n 0, 1) := by decide +kernel
theorem dX7_init_5 : decode cX7_init 5 = .ok (.getstatic 9, 3) := by decide +kernel
theorem dX7_init_8 : decode cX7_init 8 = .ok (.arraylength, 1) := by decide +kernel
theorem dX7_init_9 : decode cX7_init 9 = .ok (.newarray .int, 2) := by decide +kernel
theorem dX7_init_11 : decode cX7_init 11 = .ok (.putfield 13, 3) := by decide +kernel
theorem dX7_init_14 : decode cX7_init 14 = .ok (.return_, 1) := by decide +kernel
theorem ct_X7 {l : Launch} {G : sm_G} {N0 q : Nat} : al_C l yX7_init cX7_init 1 1 1 4 G N0 q (al_up al_0 (q) (.inr (7, [.null, .int 0, .int 0, .int 0, .int 0, .int 0, .int 0]))) (al_up (al_up al_0 (q) (.inr (7, [.ref (q + 1), .int 0, .int 0, .int 0, .int 0, .int 0, .int 0]))) (q + 1) (.inl (sm_ca G 0, 4, .inl (fun _ => 0)))) := by
  refine al_ofW (by decide +kernel) (by decide) ?_
  intro p e s m args below meth c0 hx hb hml hr hlocks hname hts hown hs hN hWf
  have hA0 : ∀ x, q ≤ x → N0 ≤ x := fun x h => Nat.le_trans hN h
  refine al_aload (j := 0) hx hb dX7_init_0 rfl rfl ?_
  refine al_objInit hx hb hml hts hown ⟨by decide +kernel, by decide +kernel, by decide +kernel⟩ ⟨by decide, by decide⟩ dX7_init_1 ?_
  refine al_aload (j := 0) hx hb dX7_init_4 rfl rfl ?_
  refine al_gets hx hb hts hown hWf hN ⟨rfl, rfl⟩ dX7_init_5 ?_
  refine al_mlen hx hb hWf hN dX7_init_8 ?_
  refine al_newa (atype := .int) (cA := sm_ca G 0) (N' := 4) (a0 := (4, .inl (fun _ => 0))) hx hb hts (by decide +kernel) (show s.vm.findClass ("[" ++ (newarray.typeOf .int).toString) = some (sm_ca G 0) from (hWf.1.1.2 0 _ rfl).2) rfl (by decide) rfl (by decide) (by decide) (by decide) dX7_init_9 ?_
  refine al_putF (ci := 7) (k := 0) (fs := [.null, .int 0, .int 0, .int 0, .int 0, .int 0, .int 0]) hx hb hts hown hWf.1.1 (by decide) (by first | (simp (disch := omega) only [al_ue, al_un]; done) | (simp (disch := omega) only [al_ue, al_un]; rfl)) (Nat.le_refl q) (by decide) (by decide +kernel) rfl rfl hname rfl rfl (by simp) dX7_init_11 ?_
  refine al_mono (E' := (al_up (al_up al_0 (q) (.inr (7, [.ref (q + 1), .int 0, .int 0, .int 0, .int 0, .int 0, .int 0]))) (q + 1) (.inl (sm_ca G 0, 4, .inl (fun _ => 0))))) (al_all (by first | (simp (disch := omega) only [al_ue, al_un]; done) | (simp (disch := omega) only [al_ue, al_un]; rfl)) (al_all (by first | (simp (disch := omega) only [al_ue, al_un]; done) | (simp (disch := omega) only [al_ue, al_un]; rfl)) al_all0)) ?_
  exact al_ret hx hb hr hlocks hs (by omega) (al_all (by first | (simp (disch := omega) only [al_ue, al_un]; done) | (simp (disch := omega) only [al_ue, al_un]; rfl)) (al_all (by first | (simp (disch := omega) only [al_ue, al_un]; done) | (simp (disch := omega) only [al_ue, al_un]; rfl)) al_all0)) ⟨by decide, by decide⟩ dX7_init_14
theorem dX8_init_0 : decode cX8_init 0 = .ok (.aload_n 0, 1) := by decide +kernel
theorem dX8_init_1 : decode cX8_init 1 = .ok (.invokespecial 3, 3) := by decide +kernel
theorem dX8_init_4 : decode cX8_init 4 = .ok (.aload_n 0, 1) := by decide +kernel
theorem dX8_init_5 : decode cX8_init 5 = .ok (.bipush 24, 2) := by decide +kernel
theorem dX8_init_7 : decode cX8_init 7 = .ok (.newarray .int, 2) := by decide +kernel
theorem dX8_init_9 : decode cX8_init 9 = .ok (.putfield 9, 3) := by decide +kernel
theorem dX8_init_12 : decode cX8_init 12 = .ok (.return_, 1) := by decide +kernel
theorem ct_X8 {l : Launch} {G : sm_G} {N0 q : Nat} : al_C l yX8_init cX8_init 1 1 1 24 G N0 q (al_up al_0 (q) (.inr (8, [.null, .int 0]))) (al_up (al_up al_0 (q) (.inr (8, [.ref (q + 1), .int 0]))) (q + 1) (.inl (sm_ca G 0, 24, .inl (fun _ => 0)))) := by
  refine al_ofW (by decide +kernel) (by decide) ?_
  intro p e s m args below meth c0 hx hb hml hr hlocks hname hts hown hs hN hWf
  have hA0 : ∀ x, q ≤ x → N0 ≤ x := fun x h => Nat.le_trans hN h
  refine al_aload (j := 0) hx hb dX8_init_0 rfl rfl ?_
  refine al_objInit hx hb hml hts hown ⟨by decide +kernel, by decide +kernel, by decide +kernel⟩ ⟨by decide, by decide⟩ dX8_init_1 ?_
  refine al_aload (j := 0) hx hb dX8_init_4 rfl rfl ?_
  refine al_bipush (v := q_i (24)) hx hb dX8_init_5 rfl ?_
  refine al_newa (atype := .int) (cA := sm_ca G 0) (N' := 24) (a0 := (24, .inl (fun _ => 0))) hx hb hts (by decide +kernel) (show s.vm.findClass ("[" ++ (newarray.typeOf .int).toString) = some (sm_ca G 0) from (hWf.1.1.2 0 _ rfl).2) rfl (by decide) rfl (by decide) (by decide) (by decide) dX8_init_7 ?_
  refine al_putF (ci := 8) (k := 0) (fs := [.null, .int 0]) hx hb hts hown hWf.1.1 (by decide) (by first | (simp (disch := omega) only [al_ue, al_un]; done) | (simp (disch := omega) only [al_ue, al_un]; rfl)) (Nat.le_refl q) (by decide) (by decide +kernel) rfl rfl hname rfl rfl (by simp) dX8_init_9 ?_
  refine al_mono (E' := (al_up (al_up al_0 (q) (.inr (8, [.ref (q + 1), .int 0]))) (q + 1) (.inl (sm_ca G 0, 24, .inl (fun _ => 0))))) (al_all (by first | (simp (disch := omega) only [al_ue, al_un]; done) | (simp (disch := omega) only [al_ue, al_un]; rfl)) (al_all (by first | (simp (disch := omega) only [al_ue, al_un]; done) | (simp (disch := omega) only [al_ue, al_un]; rfl)) al_all0)) ?_
  exact al_ret hx hb hr hlocks hs (by omega) (al_all (by first | (simp (disch := omega) only [al_ue, al_un]; done) | (simp (disch := omega) only [al_ue, al_un]; rfl)) (al_all (by first | (simp (disch := omega) only [al_ue, al_un]; done) | (simp (disch := omega) only [al_ue, al_un]; rfl)) al_all0)) ⟨by decide, by decide⟩ dX8_init_12
theorem dX6_init_0 : decode cX6_init 0 = .ok (.aload_n 0, 1) := by decide +kernel
theorem dX6_init_1 : decode cX6_init 1 = .ok (.invokespecial 3, 3) := by decide +kernel
theorem dX6_init_4 : decode cX6_init 4 = .ok (.aload_n 0, 1) := by decide +kernel
theorem dX6_init_5 : decode cX6_init 5 = .ok (.bipush 120, 2) := by decide +kernel
theorem dX6_init_7 : decode cX6_init 7 = .ok (.newarray .char, 2) := by decide +kernel
theorem dX6_init_9 : decode cX6_init 9 = .ok (.putfield 9, 3) := by decide +kernel
theorem dX6_init_12 : decode cX6_init 12 = .ok (.return_, 1) := by decide +kernel
theorem ct_X6 {l : Launch} {G : sm_G} {N0 q : Nat} : al_C l yX6_init cX6_init 1 1 1 120 G N0 q (al_up al_0 (q) (.inr (6, [.null, .int 0, .int 0, .int 0, .int 0, .int 0]))) (al_up (al_up al_0 (q) (.inr (6, [.ref (q + 1), .int 0, .int 0, .int 0, .int 0, .int 0]))) (q + 1) (.inl (sm_ca G 2, 120, .inl (fun _ => 0)))) := by
  refine al_ofW (by decide +kernel) (by decide) ?_
  intro p e s m args below meth c0 hx hb hml hr hlocks hname hts hown hs hN hWf
  have hA0 : ∀ x, q ≤ x → N0 ≤ x := fun x h => Nat.le_trans hN h
  refine al_aload (j := 0) hx hb dX6_init_0 rfl rfl ?_
  refine al_objInit hx hb hml hts hown ⟨by decide +kernel, by decide +kernel, by decide +kernel⟩ ⟨by decide, by decide⟩ dX6_init_1 ?_
  refine al_aload (j := 0) hx hb dX6_init_4 rfl rfl ?_
  refine al_bipush (v := q_i (120)) hx hb dX6_init_5 rfl ?_
  refine al_newa (atype := .char) (cA := sm_ca G 2) (N' := 120) (a0 := (120, .inl (fun _ => 0))) hx hb hts (by decide +kernel) (show s.vm.findClass ("[" ++ (newarray.typeOf .char).toString) = some (sm_ca G 2) from (hWf.1.1.2 2 _ rfl).2) rfl (by decide) rfl (by decide) (by decide) (by decide) dX6_init_7 ?_
  refine al_putF (ci := 6) (k := 0) (fs := [.null, .int 0, .int 0, .int 0, .int 0, .int 0]) hx hb hts hown hWf.1.1 (by decide) (by first | (simp (disch := omega) only [al_ue, al_un]; done) | (simp (disch := omega) only [al_ue, al_un]; rfl)) (Nat.le_refl q) (by decide) (by decide +kernel) rfl rfl hname rfl rfl (by simp) dX6_init_9 ?_
  refine al_mono (E' := (al_up (al_up al_0 (q) (.inr (6, [.ref (q + 1), .int 0, .int 0, .int 0, .int 0, .int 0]))) (q + 1) (.inl (sm_ca G 2, 120, .inl (fun _ => 0))))) (al_all (by first | (simp (disch := omega) only [al_ue, al_un]; done) | (simp (disch := omega) only [al_ue, al_un]; rfl)) (al_all (by first | (simp (disch := omega) only [al_ue, al_un]; done) | (simp (disch := omega) only [al_ue, al_un]; rfl)) al_all0)) ?_
  exact al_ret hx hb hr hlocks hs (by omega) (al_all (by first | (simp (disch := omega) only [al_ue, al_un]; done) | (simp (disch := omega) only [al_ue, al_un]; rfl)) (al_all (by first | (simp (disch := omega) only [al_ue, al_un]; done) | (simp (disch := omega) only [al_ue, al_un]; rfl)) al_all0)) ⟨by decide, by decide⟩ dX6_init_12
theorem dX3_init_0 : decode cX3_init 0 = .ok (.aload_n 0, 1) := by decide +kernel
theorem dX3_init_1 : decode cX3_init 1 = .ok (.invokespecial 3, 3) := by decide +kernel
theorem dX3_init_4 : decode cX3_init 4 = .ok (.aload_n 0, 1) := by decide +kernel
theorem dX3_init_5 : decode cX3_init 5 = .ok (.bipush 9, 2) := by decide +kernel
theorem dX3_init_7 : decode cX3_init 7 = .ok (.newarray .int, 2) := by decide +kernel
theorem dX3_init_9 : decode cX3_init 9 = .ok (.putfield 9, 3) := by decide +kernel
theorem dX3_init_12 : decode cX3_init 12 = .ok (.aload_n 0, 1) := by decide +kernel
theorem dX3_init_13 : decode cX3_init 13 = .ok (.bipush 9, 2) := by decide +kernel
theorem dX3_init_15 : decode cX3_init 15 = .ok (.newarray .int, 2) := by decide +kernel
theorem dX3_init_17 : decode cX3_init 17 = .ok (.putfield 15, 3) := by decide +kernel
theorem dX3_init_20 : decode cX3_init 20 = .ok (.aload_n 0, 1) := by decide +kernel
theorem dX3_init_21 : decode cX3_init 21 = .ok (.bipush 6, 2) := by decide +kernel
theorem dX3_init_23 : decode cX3_init 23 = .ok (.newarray .boolean, 2) := by decide +kernel
theorem dX3_init_25 : decode cX3_init 25 = .ok (.putfield 18, 3) := by decide +kernel
theorem dX3_init_28 : decode cX3_init 28 = .ok (.return_, 1) := by decide +kernel
theorem ct_X3 {l : Launch} {G : sm_G} {N0 q : Nat} : al_C l yX3_init cX3_init 1 1 3 24 G N0 q (al_up al_0 (q) (.inr (3, [.null, .null, .null]))) (al_up (al_up (al_up (al_up al_0 (q) (.inr (3, [.ref (q + 1), .ref (q + 2), .ref (q + 3)]))) (q + 1) (.inl (sm_ca G 0, 9, .inl (fun _ => 0)))) (q + 2) (.inl (sm_ca G 0, 9, .inl (fun _ => 0)))) (q + 3) (.inl (sm_ca G 1, 6, .inl (fun _ => 0)))) := by
  refine al_ofW (by decide +kernel) (by decide) ?_
  intro p e s m args below meth c0 hx hb hml hr hlocks hname hts hown hs hN hWf
  have hA0 : ∀ x, q ≤ x → N0 ≤ x := fun x h => Nat.le_trans hN h
  refine al_aload (j := 0) hx hb dX3_init_0 rfl rfl ?_
  refine al_objInit hx hb hml hts hown ⟨by decide +kernel, by decide +kernel, by decide +kernel⟩ ⟨by decide, by decide⟩ dX3_init_1 ?_
  refine al_aload (j := 0) hx hb dX3_init_4 rfl rfl ?_
  refine al_bipush (v := q_i (9)) hx hb dX3_init_5 rfl ?_
  refine al_newa (atype := .int) (cA := sm_ca G 0) (N' := 9) (a0 := (9, .inl (fun _ => 0))) hx hb hts (by decide +kernel) (show s.vm.findClass ("[" ++ (newarray.typeOf .int).toString) = some (sm_ca G 0) from (hWf.1.1.2 0 _ rfl).2) rfl (by decide) rfl (by decide) (by decide) (by decide) dX3_init_7 ?_
  refine al_putF (ci := 3) (k := 0) (fs := [.null, .null, .null]) hx hb hts hown hWf.1.1 (by decide) (by first | (simp (disch := omega) only [al_ue, al_un]; done) | (simp (disch := omega) only [al_ue, al_un]; rfl)) (Nat.le_refl q) (by decide) (by decide +kernel) rfl rfl hname rfl rfl (by simp) dX3_init_9 ?_
  refine al_mono (E' := (al_up (al_up al_0 (q) (.inr (3, [.ref (q + 1), .null, .null]))) (q + 1) (.inl (sm_ca G 0, 9, .inl (fun _ => 0))))) (al_all (by first | (simp (disch := omega) only [al_ue, al_un]; done) | (simp (disch := omega) only [al_ue, al_un]; rfl)) (al_all (by first | (simp (disch := omega) only [al_ue, al_un]; done) | (simp (disch := omega) only [al_ue, al_un]; rfl)) al_all0)) ?_
  refine al_aload (j := 0) hx hb dX3_init_12 rfl rfl ?_
  refine al_bipush (v := q_i (9)) hx hb dX3_init_13 rfl ?_
  refine al_newa (atype := .int) (cA := sm_ca G 0) (N' := 9) (a0 := (9, .inl (fun _ => 0))) hx hb hts (by decide +kernel) (show s.vm.findClass ("[" ++ (newarray.typeOf .int).toString) = some (sm_ca G 0) from (hWf.1.1.2 0 _ rfl).2) rfl (by decide) rfl (by decide) (by decide) (by decide) dX3_init_15 ?_
  refine al_putF (ci := 3) (k := 1) (fs := [.ref (q + 1), .null, .null]) hx hb hts hown hWf.1.1 (by decide) (by first | (simp (disch := omega) only [al_ue, al_un]; done) | (simp (disch := omega) only [al_ue, al_un]; rfl)) (Nat.le_refl q) (by decide) (by decide +kernel) rfl rfl hname rfl rfl (by simp) dX3_init_17 ?_
  refine al_mono (E' := (al_up (al_up (al_up al_0 (q) (.inr (3, [.ref (q + 1), .ref (q + 2), .null]))) (q + 1) (.inl (sm_ca G 0, 9, .inl (fun _ => 0)))) (q + 2) (.inl (sm_ca G 0, 9, .inl (fun _ => 0))))) (al_all (by first | (simp (disch := omega) only [al_ue, al_un]; done) | (simp (disch := omega) only [al_ue, al_un]; rfl)) (al_all (by first | (simp (disch := omega) only [al_ue, al_un]; done) | (simp (disch := omega) only [al_ue, al_un]; rfl)) (al_all (by first | (simp (disch := omega) only [al_ue, al_un]; done) | (simp (disch := omega) only [al_ue, al_un]; rfl)) al_all0))) ?_
  refine al_aload (j := 0) hx hb dX3_init_20 rfl rfl ?_
  refine al_bipush (v := q_i (6)) hx hb dX3_init_21 rfl ?_
  refine al_newa (atype := .boolean) (cA := sm_ca G 1) (N' := 6) (a0 := (6, .inl (fun _ => 0))) hx hb hts (by decide +kernel) (show s.vm.findClass ("[" ++ (newarray.typeOf .boolean).toString) = some (sm_ca G 1) from (hWf.1.1.2 1 _ rfl).2) rfl (by decide) rfl (by decide) (by decide) (by decide) dX3_init_23 ?_
  refine al_putF (ci := 3) (k := 2) (fs := [.ref (q + 1), .ref (q + 2), .null]) hx hb hts hown hWf.1.1 (by decide) (by first | (simp (disch := omega) only [al_ue, al_un]; done) | (simp (disch := omega) only [al_ue, al_un]; rfl)) (Nat.le_refl q) (by decide) (by decide +kernel) rfl rfl hname rfl rfl (by simp) dX3_init_25 ?_
  refine al_mono (E' := (al_up (al_up (al_up (al_up al_0 (q) (.inr (3, [.ref (q + 1), .ref (q + 2), .ref (q + 3)]))) (q + 1) (.inl (sm_ca G 0, 9, .inl (fun _ => 0)))) (q + 2) (.inl (sm_ca G 0, 9, .inl (fun _ => 0)))) (q + 3) (.inl (sm_ca G 1, 6, .inl (fun _ => 0))))) (al_all (by first | (simp (disch := omega) only [al_ue, al_un]; done) | (simp (disch := omega) only [al_ue, al_un]; rfl)) (al_all (by first | (simp (disch := omega) only [al_ue, al_un]; done) | (simp (disch := omega) only [al_ue, al_un]; rfl)) (al_all (by first | (simp (disch := omega) only [al_ue, al_un]; done) | (simp (disch := omega) only [al_ue, al_un]; rfl)) (al_all (by first | (simp (disch := omega) only [al_ue, al_un]; done) | (simp (disch := omega) only [al_ue, al_un]; rfl)) al_all0)))) ?_
  exact al_ret hx hb hr hlocks hs (by omega) (al_all (by first | (simp (disch := omega) only [al_ue, al_un]; done) | (simp (disch := omega) only [al_ue, al_un]; rfl)) (al_all (by first | (simp (disch := omega) only [al_ue, al_un]; done) | (simp (disch := omega) only [al_ue, al_un]; rfl)) (al_all (by first | (simp (disch := omega) only [al_ue, al_un]; done) | (simp (disch := omega) only [al_ue, al_un]; rfl)) (al_all (by first | (simp (disch := omega) only [al_ue, al_un]; done) | (simp (disch := omega) only [al_ue, al_un]; rfl)) al_all0)))) ⟨by decide, by decide⟩ dX3_init_28
end Z63
