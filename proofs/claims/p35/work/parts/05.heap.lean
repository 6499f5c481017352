/-! SOUNDNESS: rows that read and write the heap -/
def sm_kl (c : Nat) : vw_C := (vwCl[c]?).getD (RX0, TX0, 3)
def sm_ty (c : Nat) : Nat → FieldType := match c with
  | 0 => tyX0 | 1 => tyX1 | 2 => tyX2 | 3 => tyX3 | 4 => tyX4 | 5 => tyX5 | 6 => tyX6 | 7 => tyX7 | 8 => tyX8 | _ => tyX9
theorem sm_11 {P : Nat → Prop} (h : ∀ c, c < 10 → P c) {c : Nat} (hc : c ≤ 9) : P c := h c (by omega)
theorem sm_kl_get {c : Nat} (h : c ≤ 9) : vwCl[c]? = some (sm_kl c) := by
  have h1 : c < vwCl.length := by show c < 10; omega
  unfold sm_kl
  rw [List.getElem?_eq_getElem h1]
  rfl
theorem sm_kl_n : ∀ c, c < 10 → (sm_kl c).2.2 = sm_nf c := by decide +kernel
theorem sm_kl_dec : ∀ c, c < 10 → ∀ f, f < sm_nf c → ((sm_kl c).2.1 f).1 = (sm_kl c).1 := by decide +kernel
theorem sm_kl_ty : ∀ c, c < 10 → ∀ f, f < sm_nf c → parseFieldDescriptor ((sm_kl c).2.1 f).2.2.1 = some (sm_ty c f) := by decide +kernel
theorem sm_kl_nm : ∀ c, c < 10 → ∀ a, a < sm_nf c → ∀ b, b < sm_nf c → a ≠ b → ((sm_kl c).2.1 a).2.1 ≠ ((sm_kl c).2.1 b).2.1 := by decide +kernel
theorem sm_kl_in : ∀ c, c < 10 → ∀ w ∈ u_ws (sm_kl c).1 (sm_kl c).2.1 (sm_kl c).2.2, w ∈ sm_W := by decide +kernel
/-- a field that is a location: its type, and that it isn't final -/
theorem sm_fl_loc {c k i f a j : Nat} (h : sm_fl c k i f = some (.inr (a, j))) : c ≤ 9 ∧ f < sm_nf c ∧ ((sm_kl c).2.1 f).2.2.2 = false ∧ parseFieldDescriptor ((sm_kl c).2.1 f).2.2.1 = some (if c = 1 ∧ f = 2 then .boolean else .int) := by
  unfold sm_fl at h
  split at h
  all_goals (try split at h)
  all_goals first
    | (cases h; done)
    | (refine ⟨by decide, by decide, by decide +kernel, by decide +kernel⟩)
    | (rename_i hf
       have hq : ∀ f, f < 6 → ((sm_kl 1).2.1 f).2.2.2 = false ∧ parseFieldDescriptor ((sm_kl 1).2.1 f).2.2.1 = some (if (1 : Nat) = 1 ∧ f = 2 then .boolean else .int) := by decide +kernel
       exact ⟨by decide, hf, (hq f hf).1, (hq f hf).2⟩)
    | (rename_i hf
       have hq : ∀ f, f < 4 → ((sm_kl 4).2.1 f).2.2.2 = false ∧ parseFieldDescriptor ((sm_kl 4).2.1 f).2.2.1 = some (if (4 : Nat) = 1 ∧ f = 2 then .boolean else .int) := by decide +kernel
       exact ⟨by decide, hf, (hq f hf).1, (hq f hf).2⟩)
theorem sm_fl_lt {c k i f : Nat} {z : sm_N ⊕ (Nat × Nat)} (h : sm_fl c k i f = some z) : c ≤ 9 ∧ f < sm_nf c := by
  unfold sm_fl at h
  split at h
  all_goals (try split at h)
  all_goals first
    | (cases h; done)
    | exact ⟨by decide, by decide⟩
    | (rename_i hf; exact ⟨by decide, hf⟩)
theorem sm_fl_ok {c k i f : Nat} {n : sm_N} (hk : sm_ok c k i) (h : sm_fl c k i f = some (.inl n)) : sm_ok n.1 n.2.1 n.2.2 := by
  unfold sm_fl at h
  split at h
  all_goals (try split at h)
  all_goals (try (cases h; done))
  all_goals (simp only [Option.some.injEq, Sum.inl.injEq, reduceCtorEq] at h)
  all_goals (subst h; dsimp only [sm_ok] at hk ⊢; first | exact hk | exact ⟨hk.1, rfl⟩ | exact ⟨rfl, rfl⟩ | exact ⟨by decide, rfl⟩ | omega)
theorem sm_ra_ok {c k t n : Nat} {f : Nat → sm_N} {j : Nat} (hk : sm_ok c k 0) (h : sm_ra c k = some (t, n, f)) (hj : j < n) : sm_ok (f j).1 (f j).2.1 (f j).2.2 := by
  unfold sm_ra at h
  split at h
  all_goals (try (cases h; done))
  all_goals (simp only [Option.some.injEq, Prod.mk.injEq] at h)
  all_goals (obtain ⟨rfl, rfl, rfl⟩ := h; first | exact ⟨hk.1, hj⟩ | exact ⟨(show 3 + j < 19 by omega), rfl⟩ | exact ⟨(show 17 + j < 19 by omega), rfl⟩)
theorem sm_ra_ar {c k : Nat} {z : Nat × Nat × (Nat → sm_N)} (h : sm_ra c k = some z) : sm_ar c k = none ∧ ¬ c ≤ 9 := by
  unfold sm_ra at h
  split at h
  all_goals (try (cases h; done))
  all_goals exact ⟨rfl, by decide⟩
theorem sm_ra_ty {c k t n : Nat} {f : Nat → sm_N} (h : sm_ra c k = some (t, n, f)) : (t = 4 ∨ t = 5 ∨ t = 6) := by
  unfold sm_ra at h
  split at h
  all_goals (try (cases h; done))
  all_goals (simp only [Option.some.injEq, Prod.mk.injEq] at h)
  all_goals omega
theorem sm_ar_s {c k t n r o s : Nat} (h : sm_ar c k = some (t, n, r, o, s)) : 0 < s ∧ (t = 0 ∨ t = 1 ∨ t = 2) := by
  unfold sm_ar at h
  split at h
  all_goals (try (cases h; done))
  all_goals (simp only [Option.some.injEq, Prod.mk.injEq] at h)
  all_goals omega
theorem sm_okv_obj {G : sm_G} {c k i : Nat} (hc : c ≤ 9) (h : sm_okv G (.inr (.inr (c, k, i)))) : sm_og G c k i := by
  rcases h with h | ⟨h, -⟩ | ⟨h, -⟩ | ⟨h, -⟩
  · exact h
  · omega
  · omega
  · omega
theorem sm_okv_arr {G : sm_G} {c k i : Nat} {z : Nat × Nat × Nat × Nat × Nat} (ha : sm_ar c k = some z) (h : sm_okv G (.inr (.inr (c, k, i)))) : sm_og G c k i := by
  rcases h with h | ⟨h, -⟩ | ⟨h, -⟩ | ⟨h, -⟩
  · exact h
  · subst h; cases ha
  · subst h; cases ha
  · subst h; cases ha
theorem sm_okv_ra {G : sm_G} {c k i : Nat} {z : Nat × Nat × (Nat → sm_N)} (ha : sm_ra c k = some z) (h : sm_okv G (.inr (.inr (c, k, i)))) : sm_og G c k i := by
  rcases h with h | ⟨h, -⟩ | ⟨h, -⟩ | ⟨h, -⟩
  · exact h
  · subst h; cases ha
  · subst h; cases ha
  · subst h; cases ha
theorem sm_one {D : va_G} {cl : List vw_C} {q : Nat × va_E} {H : Heap} (h : va_at D cl q H) : va_P D cl [q] H := fun k z hz => by
  cases k with
  | zero => cases hz; exact h
  | succ k => cases hz
def sm_most (j : Nat) : Int32 := match j with | 0 => 99 | 1 => 9999 | 2 => 9 | _ => 50
/-- what stands beside the memory: the tables, the array that nobody writes, the statics of a throw -/
def sm_Wd (G : sm_G) (U : State) : Prop := va_K G.1 vwCl (sm_tys G) U ∧ va_T .int (sm_ad G 62 0 0) 4 (fun j => .int (sm_most j)) (sm_A G) U U.heap ∧ va_Z "SnowGuns" "MOST_OF_SETTING" "[I" (.ref (sm_ad G 62 0 0)) (sm_A G) U U.heap ∧ vx_Zq Bundle.tN "UNASSIGNED_STACK" Bundle.steD (sm_A G) U U.heap ∧ vx_Zq Bundle.tN "SUPPRESSED_SENTINEL" Bundle.listD (sm_A G) U U.heap
section SMH
variable {p : Program} {l : Launch} {e : Env} {R : Room} {s : State} {m : MethodId} {args : Array Value} {below : List Frame} {meth : Method} {c0 : Code} {Q : State → Prop} {G : sm_G} {nL : Nat}
variable {cc : ByteArray} {b pc : Nat} {M : sm_M} {ls : sm_L} {r : List sm_V} {own : String}
theorem sd_getI (hx : p.tables.exec = Jvm.exec) (hb : c0.code = cc) (hts : ∀ w ∈ sm_W, w.before args s = true) (hown : s.vm.findClass own = some m.cls) (hW : sm_Wd G s) {idx c k i f a j : Nat} (hl : Cond.fieldLink own idx (sm_kl c).1 ((sm_kl c).2.1 f).2.1 ((sm_kl c).2.1 f).2.2.1 ∈ sm_W) (hf : sm_fl c k i f = some (.inr (a, j))) (hd : decode cc pc = .ok (.getfield idx, 3)) (kk : sm_Go p l e R s m args below meth c0 Q G nL (b, pc + 3, M, ls, .inl (M.1 a j) :: r)) : sm_Go p l e R s m args below meth c0 Q G nL (b, pc, M, ls, .inr (.inr (c, k, i)) :: r) := fun H locs LS cells slots h => by
  obtain ⟨hc, hlt⟩ := sm_fl_lt hf
  have hat := h.1.1 c k i (sm_okv_obj hc (sm_okl_cons.mp h.2.2.2.2.1).1)
  rw [sm_en_obj hc] at hat
  refine va_get hx hb (C := (sm_kl c).1) (T := (sm_kl c).2.1) (N := (sm_kl c).2.2) hts (sm_11 sm_kl_in hc) hown hW.1 (sm_one hat) 0 rfl (sm_kl_get hc) f (by rw [sm_11 sm_kl_n hc]; exact hlt) (hts _ hl) (fun x hx9 => by rw [sm_11 sm_kl_dec hc f hlt] at hx9; exact hx9) (v := .int (M.1 a j)) ?_ hd ?_
  · rw [List.getElem?_map, List.getElem?_range hlt]
    simp [sm_fv, hf]
  · exact kk H locs LS cells slots (h.to fun q => sm_okl_cons.mpr ⟨trivial, (sm_okl_cons.mp q).2⟩)
theorem sd_getR (hI : sm_Inj G) (hx : p.tables.exec = Jvm.exec) (hb : c0.code = cc) (hts : ∀ w ∈ sm_W, w.before args s = true) (hown : s.vm.findClass own = some m.cls) (hW : sm_Wd G s) {idx c k i f : Nat} {n : sm_N} (hl : Cond.fieldLink own idx (sm_kl c).1 ((sm_kl c).2.1 f).2.1 ((sm_kl c).2.1 f).2.2.1 ∈ sm_W) (hf : sm_fl c k i f = some (.inl n)) (hd : decode cc pc = .ok (.getfield idx, 3)) (kk : sm_Go p l e R s m args below meth c0 Q G nL (b, pc + 3, M, ls, .inr (.inr n) :: r)) : sm_Go p l e R s m args below meth c0 Q G nL (b, pc, M, ls, .inr (.inr (c, k, i)) :: r) := fun H locs LS cells slots h => by
  obtain ⟨hc, hlt⟩ := sm_fl_lt hf
  have hok := sm_okv_obj hc (sm_okl_cons.mp h.2.2.2.2.1).1
  have hat := h.1.1 c k i hok
  rw [sm_en_obj hc] at hat
  refine va_get hx hb (C := (sm_kl c).1) (T := (sm_kl c).2.1) (N := (sm_kl c).2.2) hts (sm_11 sm_kl_in hc) hown hW.1 (sm_one hat) 0 rfl (sm_kl_get hc) f (by rw [sm_11 sm_kl_n hc]; exact hlt) (hts _ hl) (fun x hx9 => by rw [sm_11 sm_kl_dec hc f hlt] at hx9; exact hx9) (v := sm_c G (.inr (.inr n))) ?_ hd ?_
  · rw [List.getElem?_map, List.getElem?_range hlt]
    simp [sm_fv, hf, sm_c]
  · exact kk H locs LS cells slots (h.to fun q => sm_okl_cons.mpr ⟨Or.inl ⟨sm_fl_ok hok.1 hf, hI.1.2.1 _ _ _ _ _ hok hf⟩, (sm_okl_cons.mp q).2⟩)
theorem sm_fit_b {x : Int32} (h : x = 0 ∨ x = 1) : narrow .boolean (.int x) = .int x ∧ fits .boolean (.int x) = true := by
  rcases h with rfl | rfl <;> exact ⟨rfl, rfl⟩
theorem sd_put (hx : p.tables.exec = Jvm.exec) (hb : c0.code = cc) (hts : ∀ w ∈ sm_W, w.before args s = true) (hown : s.vm.findClass own = some m.cls) (hW : sm_Wd G s) (hI : sm_Inj G) {idx c k i f a j : Nat} {x : Int32} (hl : Cond.fieldLink own idx (sm_kl c).1 ((sm_kl c).2.1 f).2.1 ((sm_kl c).2.1 f).2.2.1 ∈ sm_W) (hf : sm_fl c k i f = some (.inr (a, j))) (hz : c = 1 ∧ f = 2 → x = 0 ∨ x = 1) (hd : decode cc pc = .ok (.putfield idx, 3)) (kk : sm_Go p l e R s m args below meth c0 Q G nL (b, pc + 3, sm_st M a j x, ls, r)) : sm_Go p l e R s m args below meth c0 Q G nL (b, pc, M, ls, .inl x :: .inr (.inr (c, k, i)) :: r) := fun H locs LS cells slots h => by
  obtain ⟨hc, hlt, hfin, hty⟩ := sm_fl_loc hf
  have hst0 := (sm_okl_cons.mp h.2.2.2.2.1).2
  have hok := sm_okv_obj hc (sm_okl_cons.mp hst0).1
  have hat := h.1.1 c k i hok
  rw [sm_en_obj hc] at hat
  have hN := sm_11 sm_kl_n hc
  have hin := sm_11 sm_kl_in hc
  have hcg := sm_kl_get hc
  have hdec := sm_11 sm_kl_dec hc f hlt
  have htys := sm_11 sm_kl_ty hc
  have hnms := sm_11 sm_kl_nm hc
  have hltN : f < (sm_kl c).2.2 := by rw [hN]; exact hlt
  have hap := va_apart (own := own) hts hin (sm_ty c) (fun k hk => htys k (by rw [← hN]; exact hk)) (fun a ha b hb => hnms a (by rw [← hN]; exact ha) b (by rw [← hN]; exact hb)) hW.1 hcg
  obtain ⟨r1, h1, cell, q1, q2, q3, q4⟩ := hat
  have hr : r1 = sm_kl c := Option.some.inj (h1.symm.trans hcg)
  subst hr
  obtain ⟨hS, hfc, kC, hkC, hkind⟩ := hW.1.1 c _ hcg
  obtain ⟨cf, kf, fi, fd, hi, hsl⟩ := hS f hltN
  have hlay := hts _ (hin _ (u_in_lay hltN))
  unfold u_lay at hlay
  rw [if_neg (by rw [hfin]; decide)] at hlay
  have hst := (u_facts hfc hkC (u_lays hts hin hltN) hi).1
  have hnf : narrow (if c = 1 ∧ f = 2 then .boolean else .int) (.int x) = .int x ∧ fits (if c = 1 ∧ f = 2 then .boolean else .int) (.int x) = true := by
    by_cases hq : c = 1 ∧ f = 2
    · rw [if_pos hq]; exact sm_fit_b (hz hq)
    · rw [if_neg hq]; exact ⟨rfl, rfl⟩
  have h6 := u_store hfc hkC hkind hlay hi hty hnf.1 hnf.2
  have hi2 : s.fieldFound? (sm_kl c).1 ((sm_kl c).2.1 f).2.1 ((sm_kl c).2.1 f).2.2.1 = some (cf, kf, fi, fd) := by rw [← hdec]; exact hi
  refine W.putK hx hb (f := fd) ⟨hown, hts _ hl, ⟨_, _, _, hi2⟩, hst⟩ (by rw [q2]; exact h6) q1 q3 (by rw [hsl]; exact k2_hasslot (q4 f hltN)) rfl rfl hd fun H1 e1 e2 e3 => ?_
  have hl2 : f < ((List.range (sm_nf c)).map (sm_fv G M c k i)).length := by simpa using hlt
  refine kk H1 _ LS cells slots ⟨h.1.put hI hok (sm_fl_100 hok.1 hf) (sm_ow_f hok.1 hf) ?_ e3, h.2.1.put e2 e3 (Or.inl ⟨c, k, i, hok, rfl⟩), h.2.2.1, h.2.2.2.1, (sm_okl_cons.mp hst0).2, h.2.2.2.2.2⟩
  rw [sm_en_put hc hf]
  rw [hsl] at e1
  exact ⟨_, hcg, t_OB.to (V := updV (vp_V ((List.range (sm_nf c)).map (sm_fv G M c k i))) f (.int x)) ⟨_, e1, q2, q3, t_set q4 hap hltN (.int x)⟩ (fun j9 _ => vp_updV_set hl2 (.int x) j9)⟩
theorem sm_tyget (G : sm_G) : (sm_tys G)[0]? = some (sm_ca G 0, .int) ∧ (sm_tys G)[1]? = some (sm_ca G 1, .boolean) ∧ (sm_tys G)[2]? = some (sm_ca G 2, .char) ∧ (sm_tys G)[3]? = some (sm_ca G 3, .int) ∧ (sm_tys G)[4]? = some (sm_ca G 4, .object "SnowGuns$Slope") ∧ (sm_tys G)[5]? = some (sm_ca G 5, .object "SnowGuns$Gun") ∧ (sm_tys G)[6]? = some (sm_ca G 6, .object "SnowGuns$State") := ⟨rfl, rfl, rfl, rfl, rfl, rfl, rfl⟩
theorem sd_iald (hx : p.tables.exec = Jvm.exec) (hb : c0.code = cc) (hW : sm_Wd G s) {c k n rg o st : Nat} {j : Int32} (ha : sm_ar c k = some (0, n, rg, o, st)) (hin : ¬ (j < 0 ∨ n ≤ j.toNatClampNeg)) (hd : decode cc pc = .ok (.iaload, 1)) (kk : sm_Go p l e R s m args below meth c0 Q G nL (b, pc + 1, M, ls, .inl (M.1 rg (o + st * j.toNatClampNeg)) :: r)) : sm_Go p l e R s m args below meth c0 Q G nL (b, pc, M, ls, .inl j :: .inr (.inr (c, k, 0)) :: r) := fun H locs LS cells slots h => by
  have h0 := (sm_okl_cons.mp h.2.2.2.2.1).2
  have hat := h.1.1 c k 0 (sm_okv_arr ha (sm_okl_cons.mp h0).1)
  rw [sm_en_arr ha] at hat
  refine va_iald hx hb hW.1 (sm_one hat) 0 0 rfl (sm_tyget G).1 hin hd ?_
  rw [if_pos (Nat.not_le.mp fun q => hin (Or.inr q))]
  exact kk H locs LS cells slots (h.to fun q => sm_okl_cons.mpr ⟨trivial, (sm_okl_cons.mp (sm_okl_cons.mp q).2).2⟩)
theorem sd_zald (hx : p.tables.exec = Jvm.exec) (hb : c0.code = cc) (hW : sm_Wd G s) {c k n rg o st : Nat} {j : Int32} (ha : sm_ar c k = some (1, n, rg, o, st)) (hin : ¬ (j < 0 ∨ n ≤ j.toNatClampNeg)) (hd : decode cc pc = .ok (.baload, 1)) (kk : sm_Go p l e R s m args below meth c0 Q G nL (b, pc + 1, M, ls, .inl (M.1 rg (o + st * j.toNatClampNeg)) :: r)) : sm_Go p l e R s m args below meth c0 Q G nL (b, pc, M, ls, .inl j :: .inr (.inr (c, k, 0)) :: r) := fun H locs LS cells slots h => by
  have h0 := (sm_okl_cons.mp h.2.2.2.2.1).2
  have hat := h.1.1 c k 0 (sm_okv_arr ha (sm_okl_cons.mp h0).1)
  rw [sm_en_arr ha] at hat
  refine va_zald hx hb hW.1 (sm_one hat) 0 1 rfl (sm_tyget G).2.1 hin hd ?_
  rw [if_pos (Nat.not_le.mp fun q => hin (Or.inr q))]
  exact kk H locs LS cells slots (h.to fun q => sm_okl_cons.mpr ⟨trivial, (sm_okl_cons.mp (sm_okl_cons.mp q).2).2⟩)
theorem sd_cald (hx : p.tables.exec = Jvm.exec) (hb : c0.code = cc) (hW : sm_Wd G s) {c k n rg o st : Nat} {j : Int32} (ha : sm_ar c k = some (2, n, rg, o, st)) (hin : ¬ (j < 0 ∨ n ≤ j.toNatClampNeg)) (hd : decode cc pc = .ok (.caload, 1)) (kk : sm_Go p l e R s m args below meth c0 Q G nL (b, pc + 1, M, ls, .inl (M.1 rg (o + st * j.toNatClampNeg)) :: r)) : sm_Go p l e R s m args below meth c0 Q G nL (b, pc, M, ls, .inl j :: .inr (.inr (c, k, 0)) :: r) := fun H locs LS cells slots h => by
  have h0 := (sm_okl_cons.mp h.2.2.2.2.1).2
  have hat := h.1.1 c k 0 (sm_okv_arr ha (sm_okl_cons.mp h0).1)
  rw [sm_en_arr ha] at hat
  refine va_cald hx hb hW.1 (sm_one hat) 0 2 rfl (sm_tyget G).2.2.1 hin hd ?_
  rw [if_pos (Nat.not_le.mp fun q => hin (Or.inr q))]
  exact kk H locs LS cells slots (h.to fun q => sm_okl_cons.mpr ⟨trivial, (sm_okl_cons.mp (sm_okl_cons.mp q).2).2⟩)
/-- an array that nobody writes -/
theorem sd_rold (hx : p.tables.exec = Jvm.exec) (hb : c0.code = cc) {c n : Nat} {f : Nat → Int32} {j : Int32} (hT : va_T .int (sm_ad G c 0 0) n (fun j => .int (f j)) (sm_A G) s s.heap) (hin : ¬ (j < 0 ∨ n ≤ j.toNatClampNeg)) (hd : decode cc pc = .ok (.iaload, 1)) (kk : sm_Go p l e R s m args below meth c0 Q G nL (b, pc + 1, M, ls, .inl (f j.toNatClampNeg) :: r)) : sm_Go p l e R s m args below meth c0 Q G nL (b, pc, M, ls, .inl j :: .inr (.inr (c, 0, 0)) :: r) := fun H locs LS cells slots h => by
  obtain ⟨cell, h1, h2, h3, h4, h5, h6, h7⟩ := va_T.kept hT h.2.1.2.1
  have hlt : j.toNatClampNeg < n := Nat.not_le.mp fun q => hin (Or.inr q)
  exact W.iald (v := .int (f j.toNatClampNeg)) hx hb h1 h2 h3 (fun q => hin (q.imp id fun q => Nat.le_trans h4 q)) (h6 _ hlt) rfl rfl hd (kk H locs LS cells slots (h.to fun q => sm_okl_cons.mpr ⟨trivial, (sm_okl_cons.mp (sm_okl_cons.mp q).2).2⟩))
theorem sd_roln (hx : p.tables.exec = Jvm.exec) (hb : c0.code = cc) {c n : Nat} {f : Nat → Int32} (hT : va_T .int (sm_ad G c 0 0) n (fun j => .int (f j)) (sm_A G) s s.heap) (hd : decode cc pc = .ok (.arraylength, 1)) (kk : sm_Go p l e R s m args below meth c0 Q G nL (b, pc + 1, M, ls, .inl (Int32.ofNat n) :: r)) : sm_Go p l e R s m args below meth c0 Q G nL (b, pc, M, ls, .inr (.inr (c, 0, 0)) :: r) := fun H locs LS cells slots h => by
  obtain ⟨cell, h1, h2, h3, h4, h5, h6, h7⟩ := va_T.kept hT h.2.1.2.1
  exact W.alen (n := Int32.ofNat n) hx hb h1 h2 h5 rfl rfl hd (kk H locs LS cells slots (h.to fun q => sm_okl_cons.mpr ⟨trivial, (sm_okl_cons.mp q).2⟩))
theorem sd_alen (hx : p.tables.exec = Jvm.exec) (hb : c0.code = cc) (hW : sm_Wd G s) {c k t n rg o st : Nat} (ha : sm_ar c k = some (t, n, rg, o, st)) (hd : decode cc pc = .ok (.arraylength, 1)) (kk : sm_Go p l e R s m args below meth c0 Q G nL (b, pc + 1, M, ls, .inl (Int32.ofNat n) :: r)) : sm_Go p l e R s m args below meth c0 Q G nL (b, pc, M, ls, .inr (.inr (c, k, 0)) :: r) := fun H locs LS cells slots h => by
  have hat := h.1.1 c k 0 (sm_okv_arr ha (sm_okl_cons.mp h.2.2.2.2.1).1)
  rw [sm_en_arr ha] at hat
  have k1 := kk H locs LS cells slots (h.to fun q => sm_okl_cons.mpr ⟨trivial, (sm_okl_cons.mp q).2⟩)
  rcases (sm_ar_s ha).2 with rfl | rfl | rfl
  · exact va_alen hx hb hW.1 (sm_one hat) 0 0 rfl (sm_tyget G).1 rfl hd k1
  · exact va_alen hx hb hW.1 (sm_one hat) 0 1 rfl (sm_tyget G).2.1 rfl hd k1
  · exact va_alen hx hb hW.1 (sm_one hat) 0 2 rfl (sm_tyget G).2.2.1 rfl hd k1
theorem sd_aald (hI : sm_Inj G) (hx : p.tables.exec = Jvm.exec) (hb : c0.code = cc) (hW : sm_Wd G s) {c k t n : Nat} {f : Nat → sm_N} {j : Int32} (ha : sm_ra c k = some (t, n, f)) (hin : ¬ (j < 0 ∨ n ≤ j.toNatClampNeg)) (hd : decode cc pc = .ok (.aaload, 1)) (kk : sm_Go p l e R s m args below meth c0 Q G nL (b, pc + 1, M, ls, .inr (.inr (f j.toNatClampNeg)) :: r)) : sm_Go p l e R s m args below meth c0 Q G nL (b, pc, M, ls, .inl j :: .inr (.inr (c, k, 0)) :: r) := fun H locs LS cells slots h => by
  have h0 := (sm_okl_cons.mp h.2.2.2.2.1).2
  have hok := sm_okv_ra ha (sm_okl_cons.mp h0).1
  have hat := h.1.1 c k 0 hok
  have hlt : j.toNatClampNeg < n := Nat.not_le.mp fun q => hin (Or.inr q)
  have hen : sm_en G M c k 0 = .inl (sm_ca G t, n, .inr (.inr (.inr (.inr (fun j => if j < n then some (sm_ad G (f j).1 (f j).2.1 (f j).2.2) else none))))) := by
    unfold sm_en
    rw [if_neg (sm_ra_ar ha).2, (sm_ra_ar ha).1, ha]
  rw [hen] at hat
  have k1 : W p l e R s m args below meth c0 H locs cells slots Q (F0 m (pc + 1) LS (va_rf ((fun j => if j < n then some (sm_ad G (f j).1 (f j).2.1 (f j).2.2) else none) j.toNatClampNeg) :: r.map (sm_c G))) := by
    show W p l e R s m args below meth c0 H locs cells slots Q (F0 m (pc + 1) LS (va_rf (if j.toNatClampNeg < n then _ else none) :: r.map (sm_c G)))
    rw [if_pos hlt]
    exact kk H locs LS cells slots (h.to fun q => sm_okl_cons.mpr ⟨Or.inl ⟨sm_ra_ok hok.1 ha hlt, hI.1.2.2 _ _ _ _ _ _ hok ha hlt⟩, (sm_okl_cons.mp (sm_okl_cons.mp q).2).2⟩)
  rcases sm_ra_ty ha with rfl | rfl | rfl
  · exact va_aldq hx hb hW.1 (sm_one hat) 0 4 rfl (sm_tyget G).2.2.2.2.1 hin hd k1
  · exact va_aldq hx hb hW.1 (sm_one hat) 0 5 rfl (sm_tyget G).2.2.2.2.2.1 hin hd k1
  · exact va_aldq hx hb hW.1 (sm_one hat) 0 6 rfl (sm_tyget G).2.2.2.2.2.2 hin hd k1
theorem sm_cell_st {cA : ClassId} {n j : Nat} {f : Nat → Int32} {x : Int32} : (vp_cell cA (n, .inl f)).setSlot j (.int x) = vp_cell cA (n, .inl (upd f j x)) := by
  rw [vp_cell_i, vp_cell_i, arrV_store]
  congr 1
  funext q
  by_cases hq : q = j
  · subst hq; simp [updV, upd]
  · simp [updV, upd, hq]
theorem sd_iast (hx : p.tables.exec = Jvm.exec) (hb : c0.code = cc) (hW : sm_Wd G s) (hI : sm_Inj G) {c k n rg o st : Nat} {j x : Int32} (ha : sm_ar c k = some (0, n, rg, o, st)) (hin : ¬ (j < 0 ∨ n ≤ j.toNatClampNeg)) (hd : decode cc pc = .ok (.iastore, 1)) (kk : sm_Go p l e R s m args below meth c0 Q G nL (b, pc + 1, sm_st M rg (o + st * j.toNatClampNeg) x, ls, r)) : sm_Go p l e R s m args below meth c0 Q G nL (b, pc, M, ls, .inl x :: .inl j :: .inr (.inr (c, k, 0)) :: r) := fun H locs LS cells slots h => by
  have h0 := (sm_okl_cons.mp (sm_okl_cons.mp h.2.2.2.2.1).2).2
  have hok := sm_okv_arr ha (sm_okl_cons.mp h0).1
  have hat := h.1.1 c k 0 hok
  rw [sm_en_arr ha] at hat
  have hlt : j.toNatClampNeg < n := Nat.not_le.mp fun q => hin (Or.inr q)
  refine W.iast hx hb hat ((hW.1.2 0 _ (sm_tyget G).1).1 n (fun j => .int (if j < n then M.1 rg (o + st * j) else 0))) (fun q => by cases q) (by show ¬ (j < 0 ∨ (arrV _ _ _).slots.size ≤ _); rw [arrV_size]; exact hin) rfl rfl hd fun H1 e1 e2 e3 => ?_
  refine kk H1 _ LS cells slots ⟨h.1.put hI hok (sm_ar_100 hok.1 ha) (sm_ow_a hok.1 ha hlt) ?_ e3, h.2.1.put e2 e3 (Or.inl ⟨c, k, 0, hok, rfl⟩), h.2.2.1, h.2.2.2.1, (sm_okl_cons.mp h0).2, h.2.2.2.2.2⟩
  rw [sm_en_put_a ha (sm_ar_s ha).1 hlt]
  exact e1.trans (congrArg some sm_cell_st)
theorem sd_zast (hx : p.tables.exec = Jvm.exec) (hb : c0.code = cc) (hW : sm_Wd G s) (hI : sm_Inj G) {c k n rg o st : Nat} {j x : Int32} (ha : sm_ar c k = some (1, n, rg, o, st)) (hin : ¬ (j < 0 ∨ n ≤ j.toNatClampNeg)) (hz : x = 0 ∨ x = 1) (hd : decode cc pc = .ok (.bastore, 1)) (kk : sm_Go p l e R s m args below meth c0 Q G nL (b, pc + 1, sm_st M rg (o + st * j.toNatClampNeg) x, ls, r)) : sm_Go p l e R s m args below meth c0 Q G nL (b, pc, M, ls, .inl x :: .inl j :: .inr (.inr (c, k, 0)) :: r) := fun H locs LS cells slots h => by
  have h0 := (sm_okl_cons.mp (sm_okl_cons.mp h.2.2.2.2.1).2).2
  have hok := sm_okv_arr ha (sm_okl_cons.mp h0).1
  have hat := h.1.1 c k 0 hok
  rw [sm_en_arr ha] at hat
  have hlt : j.toNatClampNeg < n := Nat.not_le.mp fun q => hin (Or.inr q)
  refine W.zast hx hb hat ((hW.1.2 1 _ (sm_tyget G).2.1).1 n (fun j => .int (if j < n then M.1 rg (o + st * j) else 0))) (fun q => by cases q) (by show ¬ (j < 0 ∨ (arrV _ _ _).slots.size ≤ _); rw [arrV_size]; exact hin) rfl rfl hd fun H1 e1 e2 e3 => ?_
  rw [(sm_fit_b hz).1] at e1
  refine kk H1 _ LS cells slots ⟨h.1.put hI hok (sm_ar_100 hok.1 ha) (sm_ow_a hok.1 ha hlt) ?_ e3, h.2.1.put e2 e3 (Or.inl ⟨c, k, 0, hok, rfl⟩), h.2.2.1, h.2.2.2.1, (sm_okl_cons.mp h0).2, h.2.2.2.2.2⟩
  rw [sm_en_put_a ha (sm_ar_s ha).1 hlt]
  exact e1.trans (congrArg some sm_cell_st)
theorem sm_fit_c {x : Int32} (h : 0 ≤ x ∧ x ≤ 65535) : narrow .char (.int x) = .int x := by
  obtain ⟨j, hj, rfl⟩ := nI_of2 (M := 65535) (n := 65535) (by decide) (Int32.not_lt.mpr h.1) h.2
  exact (pk_charN (q := j) (by omega)).1
theorem sd_cast (hx : p.tables.exec = Jvm.exec) (hb : c0.code = cc) (hW : sm_Wd G s) (hI : sm_Inj G) {c k n rg o st : Nat} {j x : Int32} (ha : sm_ar c k = some (2, n, rg, o, st)) (hin : ¬ (j < 0 ∨ n ≤ j.toNatClampNeg)) (hz : 0 ≤ x ∧ x ≤ 65535) (hd : decode cc pc = .ok (.castore, 1)) (kk : sm_Go p l e R s m args below meth c0 Q G nL (b, pc + 1, sm_st M rg (o + st * j.toNatClampNeg) x, ls, r)) : sm_Go p l e R s m args below meth c0 Q G nL (b, pc, M, ls, .inl x :: .inl j :: .inr (.inr (c, k, 0)) :: r) := fun H locs LS cells slots h => by
  have h0 := (sm_okl_cons.mp (sm_okl_cons.mp h.2.2.2.2.1).2).2
  have hok := sm_okv_arr ha (sm_okl_cons.mp h0).1
  have hat := h.1.1 c k 0 hok
  rw [sm_en_arr ha] at hat
  have hlt : j.toNatClampNeg < n := Nat.not_le.mp fun q => hin (Or.inr q)
  refine W.cast hx hb hat ((hW.1.2 2 _ (sm_tyget G).2.2.1).1 n (fun j => .int (if j < n then M.1 rg (o + st * j) else 0))) (fun q => by cases q) (by show ¬ (j < 0 ∨ (arrV _ _ _).slots.size ≤ _); rw [arrV_size]; exact hin) rfl rfl hd fun H1 e1 e2 e3 => ?_
  rw [sm_fit_c hz] at e1
  refine kk H1 _ LS cells slots ⟨h.1.put hI hok (sm_ar_100 hok.1 ha) (sm_ow_a hok.1 ha hlt) ?_ e3, h.2.1.put e2 e3 (Or.inl ⟨c, k, 0, hok, rfl⟩), h.2.2.1, h.2.2.2.1, (sm_okl_cons.mp h0).2, h.2.2.2.2.2⟩
  rw [sm_en_put_a ha (sm_ar_s ha).1 hlt]
  exact e1.trans (congrArg some sm_cell_st)
theorem sd_gets (hx : p.tables.exec = Jvm.exec) (hb : c0.code = cc) (hts : ∀ w ∈ sm_W, w.before args s = true) (hown : s.vm.findClass own = some m.cls) (hW : sm_Wd G s) {idx : Nat} (hl : Cond.fieldLink own idx "SnowGuns" "MOST_OF_SETTING" "[I" ∈ sm_W) (hd : decode cc pc = .ok (.getstatic idx, 3)) (kk : sm_Go p l e R s m args below meth c0 Q G nL (b, pc + 3, M, ls, .inr (.inr (62, 0, 0)) :: r)) : sm_Go p l e R s m args below meth c0 Q G nL (b, pc, M, ls, r) := fun H locs LS cells slots h =>
  va_gets hx hb hW.2.2.1 h.2.1 hown (hts _ hl) (fun _ h9 => h9) hd (kk H locs LS cells slots (h.to fun q => sm_okl_cons.mpr ⟨Or.inr (Or.inr (Or.inl ⟨rfl, rfl, rfl⟩)), q⟩))
end SMH
