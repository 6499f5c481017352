/-! THE START: what the words give -/
section Z75
variable {s : State} {args : Array Value}
theorem st_prim {ty : FieldType} (h : (Cond.arrayClass ty).before args s = true) (hp : ∀ cA, s.vm.findClass ("[" ++ ty.toString) = some cA → va_RA s cA ty) : ∃ cA, ArrOfT s cA ty ∧ va_RA s cA ty := by
  obtain ⟨cA, kA, comp, h1, h2, h3⟩ := Cond.arrayClass_spec h
  exact ⟨cA, fun n z => ⟨fun k h => (by cases h), kA, h2, comp, h3⟩, hp cA h1⟩
theorem st_obj {C : String} (h : (Cond.arrayOver (.object C)).before args s = true) : ∃ cA, ArrOfT s cA (.object C) ∧ va_RA s cA (.object C) := by
  obtain ⟨comp, cA, kA, h1, h2, h3, h4, h5⟩ := Cond.arrayOver_spec h
  exact ⟨cA, fun n z => ⟨fun k h => (by cases h), kA, h3, comp, h4⟩, kA, comp, h3, h4, h1, h5⟩
theorem st_ca (hts : ∀ w ∈ lw_tbl, w.before args s = true) : ∃ ca : Nat → ClassId, ∀ (k : Nat) (q : ClassId × FieldType), ([(ca 0, .int), (ca 1, .boolean), (ca 2, .char), (ca 3, .int), (ca 4, .object "SnowGuns$Slope"), (ca 5, .object "SnowGuns$Gun"), (ca 6, .object "SnowGuns$State")] : List (ClassId × FieldType))[k]? = some q → ArrOfT s q.1 q.2 ∧ va_RA s q.1 q.2 := by
  obtain ⟨c0, h0⟩ := st_prim (ty := .int) (hts _ (by decide +kernel)) (fun _ h => h)
  obtain ⟨c1, h1⟩ := st_prim (ty := .boolean) (hts _ (by decide +kernel)) (fun _ h => h)
  obtain ⟨c2, h2⟩ := st_prim (ty := .char) (hts _ (by decide +kernel)) (fun _ h => h)
  obtain ⟨c3, h3⟩ := st_prim (ty := .int) (hts _ (by decide +kernel)) (fun _ h => h)
  obtain ⟨c4, h4⟩ := st_obj (C := "SnowGuns$Slope") (hts _ (by decide +kernel))
  obtain ⟨c5, h5⟩ := st_obj (C := "SnowGuns$Gun") (hts _ (by decide +kernel))
  obtain ⟨c6, h6⟩ := st_obj (C := "SnowGuns$State") (hts _ (by decide +kernel))
  refine ⟨fun k => match k with | 0 => c0 | 1 => c1 | 2 => c2 | 3 => c3 | 4 => c4 | 5 => c5 | _ => c6, fun k q hq => ?_⟩
  match k, hq with
  | 0, hq => cases hq; exact h0
  | 1, hq => cases hq; exact h1
  | 2, hq => cases hq; exact h2
  | 3, hq => cases hq; exact h3
  | 4, hq => cases hq; exact h4
  | 5, hq => cases hq; exact h5
  | 6, hq => cases hq; exact h6
  | k + 7, hq => simp at hq
theorem st_in {w : Cond} (hts : ∀ w ∈ lw_tbl, w.before args s = true) (h : w ∈ sm_W) : w.before args s = true := hts w (List.mem_filter.mp h).1
theorem st_inst : ∀ c, c < 10 → Cond.instantiable (sm_kl c).1 (sm_kl c).2.2 ∈ sm_W := by decide +kernel
theorem st_kn (hts : ∀ w ∈ lw_tbl, w.before args s = true) : ∃ (dC : Nat → ClassId) (dI : Nat → Nat → Nat), ∀ (k : Nat) (q : vw_C), vwCl[k]? = some q → u_Kn s q.1 q.2.1 q.2.2 (dC k) (dI k) := by
  have hk : ∀ c, ∃ (z : ClassId × (Nat → Nat)), c < 10 → u_Kn s (sm_kl c).1 (sm_kl c).2.1 (sm_kl c).2.2 z.1 z.2 := fun c => by
    by_cases hc : c < 10
    · obtain ⟨cC, iS, z⟩ := u_known (s := s) (args := args) (ws := sm_W) (fun w hw => st_in hts hw) (sm_kl_in c hc) (st_in hts (st_inst c hc))
      exact ⟨(cC, iS), fun _ => z⟩
    · exact ⟨(0, fun _ => 0), fun h => absurd h hc⟩
  refine ⟨fun c => (hk c).choose.1, fun c => (hk c).choose.2, fun k q hq => ?_⟩
  have hlt : k < 10 := (List.getElem?_eq_some_iff.mp hq).1
  have e : q = sm_kl k := Option.some.inj (hq.symm.trans (sm_kl_get (by omega)))
  rw [e]
  exact (hk k).choose_spec hlt
theorem st_most (hts : ∀ w ∈ lw_tbl, w.before args s = true) (hgv : (Jvm.Cond.and given_1 narrow_1).before args s = true) : ∃ t : Nat, va_T .int t 4 (fun j => .int (sm_most j)) (fun q => s.heap.size ≤ q) s s.heap ∧ va_Z "SnowGuns" "MOST_OF_SETTING" "[I" (.ref t) (fun q => s.heap.size ≤ q) s s.heap := by
  have hs := flat_of_before _ hgv
  obtain ⟨t, ht, hT⟩ := va_Tof (N := 4) (ty := .int) (f := fun j => .int (sm_most j)) (A := fun q => s.heap.size ≤ q) (tm := .static "SnowGuns" "MOST_OF_SETTING" "[I") (by decide) (hs _ (by decide +kernel)) (va_eqt (z := 4) (hs _ (by decide +kernel))) (fun j hj => by
    have : j = 0 ∨ j = 1 ∨ j = 2 ∨ j = 3 := by omega
    rcases this with rfl | rfl | rfl | rfl
    · exact va_eqt (z := 99) (hs _ (by decide +kernel))
    · exact va_eqt (z := 9999) (hs _ (by decide +kernel))
    · exact va_eqt (z := 9) (hs _ (by decide +kernel))
    · exact va_eqt (z := 50) (hs _ (by decide +kernel))) (fun a h => by omega)
  exact ⟨t, hT, va_Zref (hts _ (by decide +kernel)) (hts _ (by decide +kernel)) ht (fun a h => by omega)⟩
theorem st_zq (hts : ∀ w ∈ lw_tbl, w.before args s = true) (hgv : (Jvm.Cond.and given_1 narrow_1).before args s = true) : vx_Zq Bundle.tN "UNASSIGNED_STACK" Bundle.steD (fun q => s.heap.size ≤ q) s s.heap ∧ vx_Zq Bundle.tN "SUPPRESSED_SENTINEL" Bundle.listD (fun q => s.heap.size ≤ q) s s.heap := by
  have hs := flat_of_before _ hgv
  exact ⟨vx_Zqof (hts _ (by decide +kernel)) (hts _ (by decide +kernel)) (hs _ (by decide +kernel)) (fun a h => by omega), vx_Zqof (hts _ (by decide +kernel)) (hts _ (by decide +kernel)) (hs _ (by decide +kernel)) (fun a h => by omega)⟩
theorem st_nc (hgv : (Jvm.Cond.and given_1 narrow_1).before args s = true) : ∀ e e1, sm_en9 e ≠ sm_en9 e1 → va_Nc (sm_en9 e) (sm_en9 e1) s := by
  have hs := flat_of_before _ hgv
  have h12 : va_Nc "java/lang/IllegalArgumentException" "java/lang/IllegalStateException" s := va_Nc.of (hs _ (by decide +kernel))
  have h13 : va_Nc "java/lang/IllegalArgumentException" "java/lang/IndexOutOfBoundsException" s := va_Nc.of (hs _ (by decide +kernel))
  have h21 : va_Nc "java/lang/IllegalStateException" "java/lang/IllegalArgumentException" s := va_Nc.of (hs _ (by decide +kernel))
  have h23 : va_Nc "java/lang/IllegalStateException" "java/lang/IndexOutOfBoundsException" s := va_Nc.of (hs _ (by decide +kernel))
  have h31 : va_Nc "java/lang/IndexOutOfBoundsException" "java/lang/IllegalArgumentException" s := va_Nc.of (hs _ (by decide +kernel))
  have h32 : va_Nc "java/lang/IndexOutOfBoundsException" "java/lang/IllegalStateException" s := va_Nc.of (hs _ (by decide +kernel))
  have h9 : ∀ e, sm_en9 e = "java/lang/IllegalArgumentException" ∨ sm_en9 e = "java/lang/IllegalStateException" ∨ sm_en9 e = "java/lang/IndexOutOfBoundsException" := fun e => by
    unfold sm_en9
    split
    · exact Or.inl rfl
    · exact Or.inr (Or.inl rfl)
    · exact Or.inr (Or.inr rfl)
  intro e e1 hne
  rcases h9 e with q | q | q <;> rcases h9 e1 with q1 | q1 | q1 <;> rw [q, q1] at hne ⊢ <;> first | assumption | exact absurd rfl hne
theorem st_nm : ∀ q ∈ al_nm, (Cond.methodLinkNest q.1 q.2.1 q.2.2 "SnowGuns") ∈ lw_tbl := by decide +kernel
theorem st_xds : ∀ Y ∈ sm_xd, Cond.declares (Bundle.initS Y) ∈ lw_tbl := by decide +kernel
theorem st_nw (hts : ∀ w ∈ lw_tbl, w.before args s = true) : al_Nw s := ⟨fun q hq => va_Nw.of rfl (hts _ (st_nm q hq)), va_Nw.of rfl (hts _ (by decide +kernel)), va_AO.of (hts _ (by decide +kernel)), va_AO.of (hts _ (by decide +kernel)), va_AO.of (hts _ (by decide +kernel))⟩
theorem st_xd (hts : ∀ w ∈ lw_tbl, w.before args s = true) : ∀ Y ∈ sm_xd, va_Nw (.declares (Bundle.initS Y)) s := fun Y hY => va_Nw.of rfl (hts _ (st_xds Y hY))
theorem st_cast {E : String} (h : (Cond.castable E E).before args s = true) : sm_Ca E s := by
  unfold sm_Ca
  cases hf : s.vm.findClass E with
  | none => simp [Cond.before, Cond.holds, Cond.value, hf] at h
  | some c =>
    refine ⟨c, rfl, ?_⟩
    simpa [Cond.before, Cond.holds, Cond.value, hf] using h
theorem st_ce (hts : ∀ w ∈ lw_tbl, w.before args s = true) : ∀ e, sm_Ca (sm_en9 e) s := fun e => by
  unfold sm_en9
  split
  · exact st_cast (hts (.castable "java/lang/IllegalArgumentException" "java/lang/IllegalArgumentException") (by decide +kernel))
  · exact st_cast (hts (.castable "java/lang/IllegalStateException" "java/lang/IllegalStateException") (by decide +kernel))
  · exact st_cast (hts (.castable "java/lang/IndexOutOfBoundsException" "java/lang/IndexOutOfBoundsException") (by decide +kernel))
end Z75
