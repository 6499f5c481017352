/-! A NEW OBJECT: its slope is ready after 41 hours -/
def y_d (P : Nat → Int) (n st : Int) : Prop := ((P 0 = 20 ∧ P 1 = 500 ∧ P 2 = 2 ∧ P 3 = 10) ∧ P 4 = 1 ∧ P 5 = 1 ∧ P 6 = 24) ∧ (498 ≤ P 7 ∧ P 7 ≤ 500) ∧ 0 ≤ P 8 ∧ (P 15 = 4 ∧ P 17 = 10 ∧ P 18 = n) ∧ (P 39 = 0 ∧ P 40 = 1 ∧ P 41 = 1 ∧ P 42 = st) ∧ ∀ j, 93 ≤ j → j < 117 → P j = -4
section Z61d
variable {P : Nat → Int} {n st : Int}
theorem q_ent_low {s h : Int} {Q : Nat → Int} {j : Nat} (hj : j < 117) (h14 : j ≠ 14) : q_ent Q s h j = Q j := by
  have e1 : ∀ R : Nat → Int, q_ent1 R s h j = R j := fun R => by
    unfold q_ent1
    rw [q_pn h14, q_pn (by omega), q_pn (by omega)]
  unfold q_ent
  split
  · exact e1 Q
  · rw [e1]
    unfold q_bsh
    rw [q_pn h14]
    unfold q_cp
    simp (disch := omega) only [if_neg]
theorem y_hr_low (h4 : (h_M P y_z y_z) 4 = 1) {j : Nat} (hj : j < 117) (h14 : j ≠ 14) : y_hr P j = h_M P y_z y_z j := by
  show q_enter (h_M P y_z y_z) (q_was P y_z) j = _
  unfold q_enter
  rw [h4, show (1 : Int).toNat = 0 + 1 from rfl, q_its, q_it0]
  unfold q_es
  split
  · split
    · exact q_ent_low hj h14
    · rfl
  · rfl
/-- an hour of it -/
theorem d_step (h : y_d P n st) (hn : 0 ≤ n ∧ n < 40) : y_d (y_hr P) (if st = 0 then n else n + 1) (if st = 0 then 1 else 2) := by
  obtain ⟨⟨⟨h0, h1, h2, h3⟩, h4, h5, h6⟩, ⟨h7a, h7b⟩, h8, ⟨h15, h17, h18⟩, ⟨h39, h40, h41, h42⟩, hw⟩ := h
  obtain ⟨F, hF⟩ : ∃ F, q_fill P (P 2) = F := ⟨_, rfl⟩
  have f7 : F 7 = 500 := by
    rw [← hF, h2]
    unfold q_fill q_pour
    rw [q_pn (by decide), q_pe]
    unfold q_amt
    split <;> omega
  have fj : ∀ j, j ≠ 7 → j ≠ 9 → F j = P j := fun j a b => by
    rw [← hF]
    unfold q_fill q_pour
    rw [q_pn b, q_pn a]
  have f8 : F 8 = P 8 := fj 8 (by decide) (by decide)
  have f6 : F 6 = 24 := (fj 6 (by decide) (by decide)).trans h6
  have wet : ∀ Q : Nat → Int, Q 6 = 24 → 0 ≤ Q 8 → (∀ j, 93 ≤ j → j < 117 → Q j = -4) → q_wet Q (Q 8) = -4 := fun Q a b c => by
    unfold q_wet
    rw [a]
    exact c _ (by omega) (by omega)
  have cold : q_cold (q_wet F (F 8)) = 1 := by
    rw [wet F f6 (by omega) (fun j a b => (fj j (by omega) (by omega)).trans (hw j a b))]
    decide
  have u2 : q_use F 0 1 = 2 := by
    unfold q_use
    rw [show F (39 + 6 * 0 + 1) = 1 from (fj 40 (by decide) (by decide)).trans h40]
    decide
  have s0 : (F (39 + 6 * 0)).toNat = 0 := by
    rw [show F (39 + 6 * 0) = 0 from (fj 39 (by decide) (by decide)).trans h39]
    decide
  have why : q_why F 0 0 2 (F 0) = 0 := by
    have g41 : F (39 + 6 * 0 + 2) = 1 := (fj 41 (by decide) (by decide)).trans h41
    have g15 : F (15 + 4 * 0) = 4 := (fj 15 (by decide) (by decide)).trans h15
    have g17 : F (15 + 4 * 0 + 2) = 10 := (fj 17 (by decide) (by decide)).trans h17
    have g18 : F (15 + 4 * 0 + 3) = n := (fj 18 (by decide) (by decide)).trans h18
    have g0 : F 0 = 20 := (fj 0 (by decide) (by decide)).trans h0
    unfold q_why
    rw [if_neg (by rw [g41]; decide), if_neg (by decide), if_neg (by show ¬ F (15 + 4 * 0 + 2) * F (15 + 4 * 0) ≤ F (15 + 4 * 0 + 3); rw [g15, g17, g18]; omega), if_neg (by rw [g0]; decide), if_neg (by rw [f7]; decide)]
  have eo : q_ordC (h_K P y_z) 0 = 0 := by
    have e : h_K P y_z 0 = q_key F 0 := by
      unfold h_K q_keys
      rw [hF, show F 5 = 1 from (fj 5 (by decide) (by decide)).trans h5, show (1 : Int).toNat = 0 + 1 from rfl, q_its, q_it0]
      exact q_pe
    unfold q_ordC
    rw [e]
    unfold q_key
    omega
  have eG : (h_G P y_z y_z).1 = q_shoot F 0 0 2 := by
    unfold h_G q_guns
    rw [hF, show F 5 = 1 from (fj 5 (by decide) (by decide)).trans h5, show (1 : Int).toNat = 0 + 1 from rfl, q_its, q_it0, eo, cold]
    unfold q_gs
    rw [u2, s0]
    show (if q_why F 0 0 2 (F 0) = 0 then _ else _ : (Nat → Int) × Int × (Nat → Int) × Int).1 = _
    rw [if_pos why]
  obtain ⟨S, hS⟩ : ∃ S, q_shoot F 0 0 2 = S := ⟨_, rfl⟩
  have l1 : q_lost F 2 = 1 := by
    unfold q_lost
    rw [show F 3 = 10 from (fj 3 (by decide) (by decide)).trans h3]
    decide
  have g42 : F (39 + 6 * 0 + 3) = st := (fj 42 (by decide) (by decide)).trans h42
  have g18 : F (15 + 4 * 0 + 3) = n := (fj 18 (by decide) (by decide)).trans h18
  have ov : q_over F 0 (2 - 1) = 0 := by
    unfold q_over
    rw [g18, if_neg (by omega)]
  have sj : ∀ j, j ≠ 7 → j ≠ 42 → j ≠ 43 → j ≠ 44 → j ≠ 18 → j ≠ 10 → S j = F j := fun j a7 a42 a43 a44 a18 a10 => by
    rw [← hS]
    unfold q_shoot
    split
    · rw [q_pn a10, q_pn a42, q_pn a7]
    · rw [q_pn a10, q_pn a18, q_pn a44, q_pn a43, q_pn a42, q_pn a7]
  have s7 : S 7 = 498 := by
    rw [← hS]
    unfold q_shoot
    split
    · rw [q_pn (by decide), q_pn (by decide), q_pe, f7]; decide
    · rw [q_pn (by decide), q_pn (by decide), q_pn (by decide), q_pn (by decide), q_pn (by decide), q_pe, f7]; decide
  have s42 : S 42 = if st = 0 then 1 else 2 := by
    rw [← hS]
    unfold q_shoot
    rw [g42]
    split
    · rw [q_pn (by decide)]; exact q_pe
    · rw [q_pn (by decide), q_pn (by decide), q_pn (by decide), q_pn (by decide)]; exact q_pe
  have s18 : S 18 = if st = 0 then n else n + 1 := by
    rw [← hS]
    unfold q_shoot
    rw [g42, l1, ov]
    split
    · rw [q_pn (by decide), q_pn (by decide), q_pn (by decide)]; exact g18
    · rw [q_pn (by decide)]
      refine q_pe.trans ?_
      rw [g18]; omega
  have s8 : S 8 = P 8 := (sj 8 (by decide) (by decide) (by decide) (by decide) (by decide) (by decide)).trans f8
  have sw : ∀ j, 93 ≤ j → j < 117 → S j = -4 := fun j a b => (sj j (by omega) (by omega) (by omega) (by omega) (by omega) (by omega)).trans ((fj j (by omega) (by omega)).trans (hw j a b))
  have s6 : S 6 = 24 := (sj 6 (by decide) (by decide) (by decide) (by decide) (by decide) (by decide)).trans f6
  have eM : h_M P y_z y_z = q_pu S 8 (P 8 + 1) := by
    unfold h_M
    rw [eG, hS]
    have m : q_melt S = S := by
      unfold q_melt
      rw [wet S s6 (by omega) sw, if_pos (by decide)]
    rw [m, s8]
  have low : ∀ j, j < 117 → j ≠ 14 → j ≠ 8 → y_hr P j = S j := fun j a b c => by
    rw [y_hr_low (by rw [eM, q_pn (by decide), sj 4 (by decide) (by decide) (by decide) (by decide) (by decide) (by decide), fj 4 (by decide) (by decide), h4]) a b, eM, q_pn c]
  have n8 : y_hr P 8 = P 8 + 1 := by
    rw [y_hr_low (by rw [eM, q_pn (by decide), sj 4 (by decide) (by decide) (by decide) (by decide) (by decide) (by decide), fj 4 (by decide) (by decide), h4]) (by decide) (by decide), eM, q_pe]
  have old : ∀ j, j < 117 → j ≠ 14 → j ≠ 8 → j ≠ 7 → j ≠ 42 → j ≠ 43 → j ≠ 44 → j ≠ 18 → j ≠ 10 → j ≠ 9 → y_hr P j = P j := fun j a a14 a8 a7 a42 a43 a44 a18 a10 a9 => by
    rw [low j a a14 a8, sj j a7 a42 a43 a44 a18 a10, fj j a7 a9]
  have od : ∀ j v, P j = v → (j < 117 ∧ j ≠ 14 ∧ j ≠ 8 ∧ j ≠ 7 ∧ j ≠ 42 ∧ j ≠ 43 ∧ j ≠ 44 ∧ j ≠ 18 ∧ j ≠ 10 ∧ j ≠ 9) → y_hr P j = v := fun j v e q => by
    rw [old j q.1 q.2.1 q.2.2.1 q.2.2.2.1 q.2.2.2.2.1 q.2.2.2.2.2.1 q.2.2.2.2.2.2.1 q.2.2.2.2.2.2.2.1 q.2.2.2.2.2.2.2.2.1 q.2.2.2.2.2.2.2.2.2, e]
  refine ⟨⟨⟨od 0 _ h0 (by decide), od 1 _ h1 (by decide), od 2 _ h2 (by decide), od 3 _ h3 (by decide)⟩, od 4 _ h4 (by decide), od 5 _ h5 (by decide), od 6 _ h6 (by decide)⟩, ?_, by rw [n8]; omega, ⟨od 15 _ h15 (by decide), od 17 _ h17 (by decide), ?_⟩, ⟨od 39 _ h39 (by decide), od 40 _ h40 (by decide), od 41 _ h41 (by decide), ?_⟩, fun j a b => od j _ (hw j a b) (by omega)⟩
  · rw [low 7 (by decide) (by decide) (by decide), s7]; omega
  · rw [low 18 (by decide) (by decide) (by decide), s18]
  · rw [low 42 (by decide) (by decide) (by decide), s42]
theorem d_rd (h : y_d P n st) : q_rd P 0 ↔ 40 ≤ n := by
  obtain ⟨-, -, -, ⟨h15, h17, h18⟩, -⟩ := h
  show P 17 * P 15 ≤ P 18 ↔ _
  rw [h15, h17, h18]
  omega
theorem ra_d {f : Nat} : ∀ (m : Nat) (c : Int) (P : Nat → Int) (st : Int), m ≤ 40 → st ≠ 0 → y_d P (40 - m) st → y_ra 0 (f + m + 1) c P = c + m
  | 0, c, P, st, hm, hst, h => by
    show (if q_rd P 0 then c else _) = _
    rw [if_pos ((d_rd h).mpr (by omega))]
    omega
  | m + 1, c, P, st, hm, hst, h => by
    have s := d_step h (by omega)
    rw [if_neg hst, if_neg hst, show (40 : Int) - ((m + 1 : Nat) : Int) + 1 = 40 - (m : Int) by omega] at s
    show (if q_rd P 0 then c else y_ra 0 (f + m + 1) (c + 1) (y_hr P)) = _
    rw [if_neg (fun q => by have := (d_rd h).mp q; omega), ra_d m (c + 1) (y_hr P) 2 (by omega) (by decide) s]
    omega
theorem ra_41 (h : y_d P 0 0) : y_ra 0 301 0 P = 41 := by
  have s := d_step h (by omega)
  rw [if_pos rfl, if_pos rfl] at s
  have e := ra_d (f := 259) 40 (0 + 1) (y_hr P) 1 (by omega) (by decide) s
  show (if q_rd P 0 then 0 else y_ra 0 300 (0 + 1) (y_hr P)) = _
  rw [if_neg (fun q => by have := (d_rd h).mp q; omega)]
  exact e
end Z61d
