/-! CONSTRUCTORS: the states that are remembered -/
section Z65
theorem dX2_init_0 : decode cX2_init 0 = .ok (.aload_n 0, 1) := by decide +kernel
theorem dX2_init_1 : decode cX2_init 1 = .ok (.invokespecial 3, 3) := by decide +kernel
theorem dX2_init_4 : decode cX2_init 4 = .ok (.aload_n 0, 1) := by decide +kernel
theorem dX2_init_5 : decode cX2_init 5 = .ok (.bipush 14, 2) := by decide +kernel
theorem dX2_init_7 : decode cX2_init 7 = .ok (.anewarray 9, 3) := by decide +kernel
theorem dX2_init_10 : decode cX2_init 10 = .ok (.putfield 11, 3) := by decide +kernel
theorem dX2_init_13 : decode cX2_init 13 = .ok (.iconst 0, 1) := by decide +kernel
theorem dX2_init_14 : decode cX2_init 14 = .ok (.istore_n 1, 1) := by decide +kernel
theorem dX2_init_15 : decode cX2_init 15 = .ok (.iload_n 1, 1) := by decide +kernel
theorem dX2_init_16 : decode cX2_init 16 = .ok (.bipush 14, 2) := by decide +kernel
theorem dX2_init_18 : decode cX2_init 18 = .ok (.if_icmp .ge 22, 3) := by decide +kernel
theorem dX2_init_21 : decode cX2_init 21 = .ok (.aload_n 0, 1) := by decide +kernel
theorem dX2_init_22 : decode cX2_init 22 = .ok (.getfield 11, 3) := by decide +kernel
theorem dX2_init_25 : decode cX2_init 25 = .ok (.iload_n 1, 1) := by decide +kernel
theorem dX2_init_26 : decode cX2_init 26 = .ok (.new 9, 3) := by decide +kernel
theorem dX2_init_29 : decode cX2_init 29 = .ok (.dup, 1) := by decide +kernel
theorem dX2_init_30 : decode cX2_init 30 = .ok (.invokespecial 17, 3) := by decide +kernel
theorem dX2_init_33 : decode cX2_init 33 = .ok (.aastore, 1) := by decide +kernel
theorem dX2_init_34 : decode cX2_init 34 = .ok (.iinc 1 1, 3) := by decide +kernel
theorem dX2_init_37 : decode cX2_init 37 = .ok (.goto (-22), 3) := by decide +kernel
theorem dX2_init_40 : decode cX2_init 40 = .ok (.return_, 1) := by decide +kernel
/-- the cells of the history at q -/
def al_hi (G : sm_G) (q : Nat) : al_E := al_lp G (al_up al_0 q (.inr (2, [.ref (q + 1), .int 0, .int 0]))) (al_st G) (q + 1) (q + 2) 25 6 14 14
theorem ct_X2 {l : Launch} {G : sm_G} {N0 q : Nat} : al_C l yX2_init cX2_init 2 3 351 2548 G N0 q (al_up al_0 (q) (.inr (2, [.null, .int 0, .int 0]))) (al_hi G q) := by
  refine al_ofW (by decide +kernel) (by decide) ?_
  intro p e s m args below meth c0 hx hb hml hr hlocks hname hts hown hs hN hWf
  have hA0 : ∀ x, q ≤ x → N0 ≤ x := fun x h => Nat.le_trans hN h
  refine al_aload (j := 0) hx hb dX2_init_0 rfl rfl ?_
  refine al_objInit hx hb hml hts hown ⟨by decide +kernel, by decide +kernel, by decide +kernel⟩ ⟨by decide, by decide⟩ dX2_init_1 ?_
  refine al_aload (j := 0) hx hb dX2_init_4 rfl rfl ?_
  refine al_bipush (v := q_i (14)) hx hb dX2_init_5 rfl ?_
  refine al_newq (cA := sm_ca G 6) (N' := 14) hx hb hts hown ⟨by decide +kernel, hWf.2.2.2.2.2.2.2.2.2⟩ (al_RA hWf.1.1 (t := 6) rfl) (by decide) rfl (by decide) (by decide) (by decide) dX2_init_7 ?_
  refine al_putF (ci := 2) (k := 0) (fs := [.null, .int 0, .int 0]) hx hb hts hown hWf.1.1 (by decide) (by first | (simp (disch := omega) only [al_ue, al_un]; done) | (simp (disch := omega) only [al_ue, al_un]; rfl)) (Nat.le_refl q) (by decide) (by decide +kernel) rfl rfl hname rfl rfl (by simp) dX2_init_10 ?_
  refine al_mono (E' := (al_up (al_up al_0 (q) (.inr (2, [.ref (q + 1), .int 0, .int 0]))) (q + 1) (.inl (sm_ca G 6, 14, .inr (.inr (.inr (.inr (fun _ => none)))))))) (al_all (by first | (simp (disch := omega) only [al_ue, al_un]; done) | (simp (disch := omega) only [al_ue, al_un]; rfl)) (al_all (by first | (simp (disch := omega) only [al_ue, al_un]; done) | (simp (disch := omega) only [al_ue, al_un]; rfl)) al_all0)) ?_
  refine al_iconst (v := q_i (0)) hx hb dX2_init_13 rfl ?_
  refine al_istore (lv' := [(1, .int (q_i (0))), (0, .ref (q))]) hx hb dX2_init_14 rfl (by decide) rfl ?_
  refine al_mono (E' := al_lp G (al_up al_0 (q) (.inr (2, [.ref (q + 1), .int 0, .int 0]))) (al_st G) (q + 1) (q + 2) 25 6 14 0) (al_allf (fun j hj => absurd hj (by omega)) (al_all (by rw [al_rf_0]; exact (by first | (simp (disch := omega) only [al_ue, al_un, al_fn]; done) | (simp (disch := omega) only [al_ue, al_un, al_fn]; rfl))) (al_all (by first | (simp (disch := omega) only [al_ue, al_un, al_fn]; done) | (simp (disch := omega) only [al_ue, al_un, al_fn]; rfl)) al_all0))) ?_
  refine (al_fill (q := q) (a := q + 1) (b := q + 2) (nn := 24) (nso := 181) (t := 6) (N := 14) (ci := 5) (cs := 2) (fk := 0) (P0 := 15) (lp := 2) (tgt := 40) (fs := [.ref (q + 1), .int 0, .int 0]) (vs := [.null, .null, .null, .null, .null, .int 0, .int 0, .int 0]) (c00 := 1) (s00 := 14) (y := yX5_init) (Eb := (al_up al_0 (q) (.inr (2, [.ref (q + 1), .int 0, .int 0])))) (En := (fun q' => al_fam al_0 q' 25 (al_st G q'))) (F := al_st G) hx hb hts hown hWf.1.1 (fun z hz => by show q ≤ z; omega) (by show q ≤ _; omega) (by omega) (by decide) (by decide) (by decide) ⟨by omega, by omega, by omega⟩ (al_all ⟨by omega, by omega⟩ al_all0) (by first | (simp (disch := omega) only [al_ue, al_un, al_fn]; done) | (simp (disch := omega) only [al_ue, al_un, al_fn]; rfl)) (by decide) (by decide +kernel) rfl rfl ⟨by decide +kernel, by decide +kernel, by decide +kernel⟩ (fun j hj => by rcases (show j = 0 ∨ j = 1 ∨ j = 2 ∨ j = 3 ∨ j = 4 ∨ j = 5 ∨ j = 6 ∨ j = 7 by have : j < 8 := hj; omega) with rfl | rfl | rfl | rfl | rfl | rfl | rfl | rfl <;> rfl) (fun q' r hr => al_fe hr rfl) (fun q' => ⟨_, rfl⟩) ⟨by decide, by decide⟩ (by decide)
    (fun {lv} {st} {E} {n} {cells} {slots} kk => al_bipush (v := q_i 14) hx hb dX2_init_16 rfl kk)
    (fun {q'} {lv} {st} {E} {cells} {slots} hbq hE hc hsl hcat kk => al_call (En := al_fam al_0 q' 25 (al_st G q')) hx hb hml hts hown hWf hA0 (ct_X5 (l := l) (G := G) (N0 := N0) (q := q')) rfl (fun x hx => by show q ≤ x; omega) (al_all hE al_all0) al_cut_ok ⟨by decide +kernel, by decide +kernel, by decide +kernel, by decide +kernel, ⟨by decide, by decide⟩, rfl, by decide +kernel, by decide⟩ ⟨by decide, by decide⟩ hc hsl dX2_init_30 hcat kk)
    dX2_init_15 dX2_init_18 (by decide) dX2_init_21 dX2_init_22 dX2_init_25 dX2_init_26 dX2_init_29 dX2_init_33 dX2_init_34 dX2_init_37 (by decide) (by decide) ?_ 14 0 rfl)
  exact al_ret hx hb hr hlocks hs (by omega) (fun x e h => h) ⟨by decide, by decide⟩ dX2_init_40
end Z65
