/-! THE FACE'S CELLS ARE WHAT THE NAMES SAY -/
section Z69
variable {D : va_G} {ca : Nat → ClassId} {N0 b t : Nat} {xs : Nat → Nat → Nat → Prop} {sc : Nat × (Nat → Int32)} {G : sm_G} {q : Nat}
theorem al_fa_s {k r : Nat} (hk : k < 19) (hr : r < 25) : al_fa G q (q + (al_q k + r)) = some (al_st G (q + al_q k) r) := by
  unfold al_fa al_lp al_fb al_q
  by_cases c1 : k < 3
  · rw [if_pos c1]
    have : k = 0 ∨ k = 1 ∨ k = 2 := by omega
    rcases this with rfl | rfl | rfl
    · simp (disch := omega) only [al_un, al_fn]
      exact al_fe hr (by omega)
    · simp (disch := omega) only [al_un, al_fn]
      exact al_fe hr (by omega)
    · simp (disch := omega) only [al_un, al_fn]
      exact al_fe hr (by omega)
  · rw [if_neg c1]
    by_cases c2 : k < 17
    · rw [if_pos c2]
      simp (disch := omega) only [al_un, al_fn]
      rw [al_fe (j := 25 * (k - 3) + r) (by omega) (by omega), show (25 * (k - 3) + r) / 25 = k - 3 by omega, show (25 * (k - 3) + r) % 25 = r by omega, Nat.add_assoc]
    · rw [if_neg c2, al_fe (j := 25 * (k - 17) + r) (by omega) (by omega), show (25 * (k - 17) + r) / 25 = k - 17 by omega, show (25 * (k - 17) + r) % 25 = r by omega, Nat.add_assoc]
theorem al_z {cA : ClassId} {n : Nat} : (Sum.inl (cA, n, .inl (fun _ => 0)) : va_E) = .inl (cA, n, .inl (fun j => if j < n then (0 : Int32) else 0)) := congrArg (fun f : Nat → Int32 => (Sum.inl (cA, n, .inl f) : va_E)) (funext fun j => (ite_self (0 : Int32)).symm)
theorem al_rf_q {n b k0 : Nat} (h : ∀ j, j < n → b + 25 * j = N0 + (al_q (k0 + j) + 0)) {cA : ClassId} : (Sum.inl (cA, n, .inr (.inr (.inr (.inr (al_rf b 25 n))))) : va_E) = .inl (cA, n, .inr (.inr (.inr (.inr (fun j => if j < n then some (N0 + (al_q (k0 + j) + 0)) else none))))) := by
  congr 7
  funext j
  unfold al_rf
  by_cases c : j < n
  · rw [if_pos c, if_pos c, h j c]
  · rw [if_neg c, if_neg c]
theorem al_fc_0 : al_fa G q (q + 0) = some (.inr (9, [.ref (q + 1), .ref (q + 3), .ref (q + 28), .ref (q + 53), .ref (q + 78), .ref (q + 82), .ref (q + 434), .ref (q + 435)])) := by
  unfold al_fa al_lp al_fb
  first | (simp (disch := omega) only [al_ue, al_un, al_fn]; done) | (simp (disch := omega) only [al_ue, al_un, al_fn]; rfl)
theorem al_fc_1 : al_fa G q (q + 1) = some (.inr (6, [.ref (q + 2), .int 0, .int 0, .int 0, .int 0, .int 0])) := by
  unfold al_fa al_lp al_fb
  first | (simp (disch := omega) only [al_ue, al_un, al_fn]; done) | (simp (disch := omega) only [al_ue, al_un, al_fn]; rfl)
theorem al_fc_2 : al_fa G q (q + 2) = some (.inl (sm_ca G 2, 120, .inl (fun _ => 0))) := by
  unfold al_fa al_lp al_fb
  first | (simp (disch := omega) only [al_ue, al_un, al_fn]; done) | (simp (disch := omega) only [al_ue, al_un, al_fn]; rfl)
theorem al_fc_78 : al_fa G q (q + 78) = some (.inr (3, [.ref (q + 79), .ref (q + 80), .ref (q + 81)])) := by
  unfold al_fa al_lp al_fb
  first | (simp (disch := omega) only [al_ue, al_un, al_fn]; done) | (simp (disch := omega) only [al_ue, al_un, al_fn]; rfl)
theorem al_fc_79 : al_fa G q (q + 79) = some (.inl (sm_ca G 0, 9, .inl (fun _ => 0))) := by
  unfold al_fa al_lp al_fb
  first | (simp (disch := omega) only [al_ue, al_un, al_fn]; done) | (simp (disch := omega) only [al_ue, al_un, al_fn]; rfl)
theorem al_fc_80 : al_fa G q (q + 80) = some (.inl (sm_ca G 0, 9, .inl (fun _ => 0))) := by
  unfold al_fa al_lp al_fb
  first | (simp (disch := omega) only [al_ue, al_un, al_fn]; done) | (simp (disch := omega) only [al_ue, al_un, al_fn]; rfl)
theorem al_fc_81 : al_fa G q (q + 81) = some (.inl (sm_ca G 1, 6, .inl (fun _ => 0))) := by
  unfold al_fa al_lp al_fb
  first | (simp (disch := omega) only [al_ue, al_un, al_fn]; done) | (simp (disch := omega) only [al_ue, al_un, al_fn]; rfl)
theorem al_fc_82 : al_fa G q (q + 82) = some (.inr (2, [.ref (q + 83), .int 0, .int 0])) := by
  unfold al_fa al_lp al_fb
  first | (simp (disch := omega) only [al_ue, al_un, al_fn]; done) | (simp (disch := omega) only [al_ue, al_un, al_fn]; rfl)
theorem al_fc_83 : al_fa G q (q + 83) = some (.inl (sm_ca G 6, 14, .inr (.inr (.inr (.inr (al_rf (q + 84) 25 14)))))) := by
  unfold al_fa al_lp al_fb
  first | (simp (disch := omega) only [al_ue, al_un, al_fn]; done) | (simp (disch := omega) only [al_ue, al_un, al_fn]; rfl)
theorem al_fc_434 : al_fa G q (q + 434) = some (.inl (sm_ca G 6, 2, .inr (.inr (.inr (.inr (al_rf (q + 436) 25 2)))))) := by
  unfold al_fa al_lp al_fb
  first | (simp (disch := omega) only [al_ue, al_un, al_fn]; done) | (simp (disch := omega) only [al_ue, al_un, al_fn]; rfl)
theorem al_fc_435 : al_fa G q (q + 435) = some (.inl (sm_ca G 1, 2, .inl (fun _ => 0))) := by
  unfold al_fa al_lp al_fb
  first | (simp (disch := omega) only [al_ue, al_un, al_fn]; done) | (simp (disch := omega) only [al_ue, al_un, al_fn]; rfl)
theorem al_key {c k i : Nat} (g : sm_ok c k i) (hx : xs_9 c k i) : al_fa (al_GG D ca N0 b t xs sc) N0 (N0 + al_of c k i) = some (sm_en (al_GG D ca N0 b t xs sc) al_M0 c k i) := by
  unfold sm_ok at g
  split at g
  all_goals first
    | (obtain ⟨h1, rfl⟩ := g
       exact (al_fa_s h1 (by decide)).trans (congrArg some (al_st_en h1 (by omega))))
    | (obtain ⟨h1, h2⟩ := g
       exact (al_fa_s h1 (by omega)).trans (congrArg some (al_st_en h1 (by omega))))
    | (obtain ⟨rfl, rfl⟩ := g; exact (al_fc_0 (q := N0)).trans rfl)
    | (obtain ⟨rfl, rfl⟩ := g; exact (al_fc_1 (q := N0)).trans rfl)
    | (obtain ⟨rfl, rfl⟩ := g; exact (al_fc_2 (q := N0)).trans (congrArg some (al_z.trans rfl)))
    | (obtain ⟨rfl, rfl⟩ := g; exact (al_fc_78 (q := N0)).trans rfl)
    | (obtain ⟨rfl, rfl⟩ := g; exact (al_fc_79 (q := N0)).trans (congrArg some (al_z.trans rfl)))
    | (obtain ⟨rfl, rfl⟩ := g; exact (al_fc_80 (q := N0)).trans (congrArg some (al_z.trans rfl)))
    | (obtain ⟨rfl, rfl⟩ := g; exact (al_fc_81 (q := N0)).trans (congrArg some (al_z.trans rfl)))
    | (obtain ⟨rfl, rfl⟩ := g; exact (al_fc_82 (q := N0)).trans rfl)
    | (obtain ⟨rfl, rfl⟩ := g; exact (al_fc_83 (q := N0)).trans (congrArg some ((al_rf_q (k0 := 3) (fun j hj => by unfold al_q; rw [if_neg (by omega), if_pos (by omega)]; omega)).trans rfl)))
    | (obtain ⟨rfl, rfl⟩ := g; exact (al_fc_434 (q := N0)).trans (congrArg some ((al_rf_q (k0 := 17) (fun j hj => by unfold al_q; rw [if_neg (by omega), if_neg (by omega)]; omega)).trans rfl)))
    | (obtain ⟨rfl, rfl⟩ := g; exact (al_fc_435 (q := N0)).trans (congrArg some (al_z.trans rfl)))
    | exact absurd (show (60 : Nat) = 60 from rfl) hx.2
    | exact absurd g (fun q => q)
theorem al_rep9 {H : Heap} (h : al_P D (al_fa (al_GG D ca N0 b t xs_9 sc) N0) H) : sm_Rep (al_GG D ca N0 b t xs_9 sc) al_M0 H := ⟨fun c k i g => by
  have z := h _ _ (al_key (b := b) (t := t) (sc := sc) g.1 g.2)
  rw [← al_ad (D := D) (ca := ca) (N0 := N0) (b := b) (t := t) (xs := xs_9) (sc := sc) g.1] at z
  exact z, fun c k i g => by
  have z : c + 100 < 100 := g.2.1
  omega⟩
end Z69
