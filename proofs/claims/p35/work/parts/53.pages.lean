/-! PAGES THAT ARE ALWAYS GOOD -/
section Z53
variable {P Q A : Nat → Int} {σ : x_sp} {H H1 G u v w x a b r t : Int} {g s n m j : Nat}
theorem pg_hr (h : x_pg H P) : x_pg (H + 1) (y_hr P) := by
  obtain ⟨ok, bk, b1, ⟨b2, b3, b4, b5, b6, b7⟩, b8⟩ := h
  have ok9 := ok_9 ok
  have a2 := ok.1.2.2.1
  have a7 := ok.1.2.2.2.2.2.2.2.1
  have a3 := ok.1.2.2.2.1
  obtain ⟨⟨n1, n2, n3, n4, n5⟩, n6, ⟨n7, n8, n9, n10⟩, -, -, n11, -⟩ := hr_N ok9
  have am := q_amt_w (P := P) (u := P 2) (by omega) a7
  have e5 := n1 5 (by omega)
  refine ⟨ok_mono (y_hr_ok ok9) (Int.le_refl _) (by rw [e5]; exact ok.1.2.2.2.2.2.1.2), y_hr_bk bk ok9, by omega, ⟨by omega, by omega, by omega, by omega, by omega, by omega⟩, fun g hg => ?_⟩
  rw [e5] at hg
  obtain ⟨-, -, -, -, -, -, -, n12⟩ := n11 g hg
  have c := b8 g hg
  have gg := ok.2.2.1 g hg
  have uw := q_use_w (P := P) (g := g) (c := q_cold (q_wet P (P 8))) gg.2.1 q_cold_w
  have lw := q_lost_w (P := P) uw a3
  rw [n12]
  split <;> omega
theorem pg_hrs (h : x_pg H P) : ∀ n : Nat, x_pg (H + n) (y_hrs n P)
  | 0 => by rw [show H + ((0 : Nat) : Int) = H by omega]; exact h
  | n + 1 => by
    rw [show H + ((n + 1 : Nat) : Int) = H + n + 1 by omega]
    exact pg_hr (pg_hrs h n)
theorem pg_rel (h : x_pg H P) : p_rel H P (e_rv P) := ⟨rv_sim e_rf, h.1, h.2.1⟩
theorem pg_fill (h : x_pg H P) (hu : 0 ≤ u ∧ u ≤ 20000) : x_pg (H + 1) (q_fill P u) := by
  have r := (fill_rel (pg_rel h) hu).2
  obtain ⟨ok, bk, b1, ⟨b2, b3, b4, b5, b6, b7⟩, b8⟩ := h
  have am := q_amt_w (P := P) (u := u) hu ok.1.2.2.2.2.2.2.2.1
  have f7 := fill_7 (P := P) (u := u)
  have f9 := fill_9 (P := P) (u := u)
  have sn : q_snow (q_fill P u) = q_snow P := snow_c (q_fill_o (by omega)) (fun t ht => q_fill_o (by omega))
  refine ⟨ok_mono r.1 (by omega) r.1.1.2.2.2.2.2.1.2, r.2, ?_, ?_, fun g hg => ?_⟩
  · rw [q_fill_o (j := 10) (by omega), q_fill_o (j := 11) (by omega), q_fill_o (j := 13) (by omega)]; omega
  · rw [q_fill_o (j := 10) (by omega), q_fill_o (j := 11) (by omega), q_fill_o (j := 12) (by omega), q_fill_o (j := 13) (by omega)]; omega
  · rw [q_fill_o (by omega)] at hg
    rw [q_fill_o (by omega)]
    have := b8 g hg
    omega
theorem pg_set (h : x_pg H P) (hj : j ≤ 3) (hv : g_set j v) : x_pg H (q_set P j v) := by
  have r := (set_rel (pg_rel h) hj hv).2
  obtain ⟨ok, bk, b1, ⟨b2, b3, b4, b5, b6, b7⟩, b8⟩ := h
  have rw0 : 0 ≤ q_rest P j v := by unfold q_rest; split <;> omega
  have s7 : q_set P j v 7 = P 7 - q_rest P j v := by unfold q_set; rw [q_pn (by omega), q_pe]
  have s13 : q_set P j v 13 = P 13 + q_rest P j v := by unfold q_set; rw [q_pe]
  have sn : q_snow (q_set P j v) = q_snow P := snow_c (set_o (by omega)) (fun t ht => set_o (by omega))
  refine ⟨r.1, r.2, ?_, ?_, fun g hg => ?_⟩
  · rw [set_o (i := 9) (by omega), set_o (i := 10) (by omega), set_o (i := 11) (by omega)]; omega
  · rw [set_o (i := 9) (by omega), set_o (i := 10) (by omega), set_o (i := 11) (by omega), set_o (i := 12) (by omega)]; omega
  · rw [set_o (by omega)] at hg
    rw [set_o (by omega)]
    exact b8 g hg
/-- cells that no account speaks of -/
def y_fr (j : Nat) : Prop := j < 117 ∧ (j < 4 ∨ j = 8 ∨ 15 ≤ j) ∧ (15 ≤ j → j < 39 → (j - 15) % 4 ≠ 3) ∧ (39 ≤ j → j < 93 → (j - 39) % 6 ≠ 4)
theorem b_cell (h : y_b H P) (h5 : P 5 ≤ 9) (h4 : P 4 ≤ 6) (hj : y_fr j) : y_b H (q_pu P j x) := by
  obtain ⟨b1, ⟨b2, b3, b4, b5, b6, b7⟩, b8⟩ := h
  unfold y_fr at hj
  have sn : q_snow (q_pu P j x) = q_snow P := snow_c (q_pn (by omega)) (fun t ht => q_pn (by omega))
  refine ⟨?_, ?_, fun g hg => ?_⟩
  · rw [q_pn (i := 9) (by omega), q_pn (i := 7) (by omega), q_pn (i := 10) (by omega), q_pn (i := 11) (by omega), q_pn (i := 13) (by omega), sn]; exact b1
  · rw [q_pn (i := 9) (by omega), q_pn (i := 10) (by omega), q_pn (i := 11) (by omega), q_pn (i := 12) (by omega), q_pn (i := 13) (by omega)]; exact ⟨b2, b3, b4, b5, b6, b7⟩
  · rw [q_pn (by omega)] at hg
    rw [q_pn (by omega)]
    exact b8 g hg
theorem bk_cell (h : q_bk P) (hj : j < 117 ∧ j ≠ 14) : q_bk (q_pu P j x) := by
  have e : q_bl (q_pu P j x) = q_bl P := bl_c (q_pn (by omega)) (fun i hi => q_pn (by omega))
  unfold q_bk; rw [e]; exact h
theorem pg_cell (h : x_pg H P) (hj : y_fr j) (ok : q_ok H 8 (q_pu P j x)) : x_pg H (q_pu P j x) :=
  ⟨ok, bk_cell h.2.1 (by unfold y_fr at hj; omega), b_cell h.2.2 (by have := h.1.1.2.2.2.2.2.1; omega) h.1.1.2.2.2.2.1.2 hj⟩
theorem pg_wet (h : x_pg H P) (hj : (j : Int) < P 6) (hv : -9 ≤ v ∧ v ≤ 9) : x_pg H (q_pu P (93 + j) v) := by
  have a6 := h.1.1.2.2.2.2.2.2.1
  have a4 := h.1.1.2.2.2.2.1
  have a5 := h.1.1.2.2.2.2.2.1
  exact pg_cell h (by unfold y_fr; omega) (q_ok_pu h.1 ⟨by omega, by omega, by omega, by omega, fun q => absurd q (by omega), fun q => absurd q (by omega), fun q => absurd q (by omega), fun q => absurd q (by omega), fun q => absurd q (by omega), fun q => absurd q (by omega)⟩ (by first | omega | (intros; omega)) (by first | omega | (intros; omega)) (by first | omega | (intros; omega)))
theorem pg_bring (h : x_pg H P) (hj : (j : Int) < P 5) (hv : 0 ≤ v ∧ v < P 4) : x_pg H (q_pu (q_pu P (39 + 6 * j) v) (39 + 6 * j + 3) 0) := by
  have a5 := h.1.1.2.2.2.2.2.1
  have a4 := h.1.1.2.2.2.2.1
  refine ⟨bring_ok h.1 (by omega) hj hv, bk_cell (bk_cell h.2.1 (by omega)) (by omega), b_cell (b_cell h.2.2 (by omega) a4.2 (by unfold y_fr; omega)) ?_ ?_ (by unfold y_fr; omega)⟩
  · rw [q_pn (by omega)]; omega
  · rw [q_pn (by omega)]; omega
theorem snow_puts : 0 ≤ P 4 → q_snow (q_puts P a r t) = q_snow P := fun h4 => by
  unfold q_snow
  rw [puts_4, show (P 4 + 1).toNat = (P 4).toNat + 1 by omega, q_its]
  have e : q_puts P a r t (15 + 4 * (P 4).toNat + 3) = 0 := by unfold q_puts; rw [q_pn (by omega), q_pe]
  rw [e, Int.add_zero]
  exact q_it_c _ (fun i y hi => by
    have : q_puts P a r t (15 + 4 * i + 3) = P (15 + 4 * i + 3) := by
      unfold q_puts
      rw [q_pn (by omega), q_pn (by omega), q_pn (by omega), q_pn (by omega), q_pn (by omega)]
    rw [this])
theorem puts_g (h4 : P 4 < 6) (hj : 39 ≤ j) : q_puts P a r t j = P j := by
  unfold q_puts
  rw [q_pn (by omega), q_pn (by omega), q_pn (by omega), q_pn (by omega), q_pn (by omega)]
theorem pg_puts (h : x_pg H P) (h4 : P 4 < 6) (hb : 1 ≤ a ∧ a ≤ 9) (hr : 0 ≤ r ∧ r ≤ 9) (ht : 0 ≤ t ∧ t ≤ 99) : x_pg H (q_puts P a r t) := by
  have rr := (puts_rel (pg_rel h) h4 hb hr ht).2
  have sn := snow_puts (P := P) (a := a) (r := r) (t := t) h.1.1.2.2.2.2.1.1
  obtain ⟨ok, bk, b1, ⟨b2, b3, b4, b5, b6, b7⟩, b8⟩ := h
  refine ⟨rr.1, rr.2, ?_, ?_, fun g hg => ?_⟩
  · rw [puts_o (j := 9) (by omega) (by omega), puts_o (j := 7) (by omega) (by omega), puts_o (j := 10) (by omega) (by omega), puts_o (j := 11) (by omega) (by omega), puts_o (j := 13) (by omega) (by omega), sn]; exact b1
  · rw [puts_o (j := 9) (by omega) (by omega), puts_o (j := 10) (by omega) (by omega), puts_o (j := 11) (by omega) (by omega), puts_o (j := 12) (by omega) (by omega), puts_o (j := 13) (by omega) (by omega)]; exact ⟨b2, b3, b4, b5, b6, b7⟩
  · rw [puts_o (by omega) (by omega)] at hg
    rw [puts_g h4 (by omega)]
    exact b8 g hg
theorem putg_v (h5 : 0 ≤ P 5 ∧ P 5 < 9) : q_putg P a r (39 + 6 * g + 4) = if g = (P 5).toNat then 0 else P (39 + 6 * g + 4) := by
  unfold q_putg
  by_cases e : g = (P 5).toNat
  · subst e
    rw [if_pos rfl, q_pn (by omega), q_pn (by omega), q_pe]
  · rw [if_neg e, q_pn (by omega), q_pn (by omega), q_pn (by omega), q_pn (by omega), q_pn (by omega), q_pn (by omega), q_pn (by omega)]
theorem snow_putg (h4 : P 4 ≤ 6) : q_snow (q_putg P a r) = q_snow P := snow_c (putg_o (by omega) (by omega)) (fun t ht => putg_o (by omega) (by omega))
theorem pg_putg (h : x_pg H P) (h5 : P 5 < 8) (hb : 0 ≤ a ∧ a < P 4) (hr : 0 ≤ r ∧ r ≤ 3) (hH : 0 ≤ H) : x_pg H (q_putg P a r) := by
  have rr := (putg_rl (pg_rel h) hb hr).2
  have a4 := h.1.1.2.2.2.2.1
  have a5 := h.1.1.2.2.2.2.2.1
  have sn := snow_putg (P := P) (a := a) (r := r) a4.2
  obtain ⟨ok, bk, b1, ⟨b2, b3, b4, b5, b6, b7⟩, b8⟩ := h
  refine ⟨putg_ok ok (by omega) (by omega) hb hr, rr.2, ?_, ?_, fun g hg => ?_⟩
  · rw [putg_o (j := 9) (by omega) (by omega), putg_o (j := 7) (by omega) (by omega), putg_o (j := 10) (by omega) (by omega), putg_o (j := 11) (by omega) (by omega), putg_o (j := 13) (by omega) (by omega), sn]; exact b1
  · rw [putg_o (j := 9) (by omega) (by omega), putg_o (j := 10) (by omega) (by omega), putg_o (j := 11) (by omega) (by omega), putg_o (j := 12) (by omega) (by omega), putg_o (j := 13) (by omega) (by omega)]; exact ⟨b2, b3, b4, b5, b6, b7⟩
  · rw [putg_5] at hg
    rw [putg_v (by omega)]
    by_cases e : g = (P 5).toNat
    · rw [if_pos e]; omega
    · rw [if_neg e]; exact b8 g (by omega)
/-! a slope that goes -/
theorem su_drop {c : Nat → Int} {s : Nat} : ∀ m, s ≤ m → q_it (fun t y => y + (if s ≤ t then c (t + 1) else c t)) m (0 : Int) = q_it (fun t y => y + c t) (m + 1) 0 - c s
  | 0, h => by
    have e : s = 0 := by omega
    subst e
    show 0 = 0 + c 0 - c 0
    omega
  | m + 1, h => by
    by_cases e : s ≤ m
    · rw [q_its, su_drop m e, if_pos e, q_its (n := m + 1)]; omega
    · have e1 : s = m + 1 := by omega
      subst e1
      rw [q_its (n := m + 1)]
      have : q_it (fun t y => y + (if m + 1 ≤ t then c (t + 1) else c t)) (m + 1) (0 : Int) = q_it (fun t y => y + c t) (m + 1) 0 := q_it_c _ (fun i y hi => by rw [if_neg (by omega)])
      rw [this]; omega
theorem drop_v {s : Nat} (ok : q_ok H 9 P) (hs : (s : Int) < P 4) : q_dropC P s 13 = P 13 + P (15 + 4 * s + 3) ∧ q_dropC P s 4 = P 4 - 1 ∧ (∀ j, j < 117 → j ≠ 4 → j ≠ 13 → j ≠ 14 → (j < 15 ∨ 93 ≤ j ∨ (39 ≤ j ∧ (j - 39) % 6 ≠ 0)) → q_dropC P s j = P j) ∧ (∀ j, 15 ≤ j → j < 39 → q_dropC P s j = if 15 + 4 * s ≤ j ∧ j < 15 + 4 * ((P 4).toNat - 1) then P (j + 4) else P j) ∧ ∀ g : Nat, (g : Int) < P 5 → q_dropC P s (39 + 6 * g) = if P (39 + 6 * g) ≤ s then P (39 + 6 * g) else P (39 + 6 * g) - 1 := by
  obtain ⟨⟨a0, a1, a2, a3, a4, a5, a6, a7, a8, a14⟩, os, og, ow⟩ := id ok
  have c3 : ∀ j, (j < 15 ∧ j ≠ 4) ∨ 93 ≤ j ∨ (39 ≤ j ∧ (j - 39) % 6 ≠ 0) → q_drop3 P s j = P j := fun j hj => by
    unfold q_drop3
    rw [gds_o (by omega) (by omega), q_pn (by omega), q_shfn (by omega)]
  have c4 : q_drop3 P s 4 = P 4 - 1 := by
    unfold q_drop3
    rw [gds_o (by omega) (by omega), q_pe]
  have cs : ∀ j, 15 ≤ j → j < 39 → q_drop3 P s j = if 15 + 4 * s ≤ j ∧ j < 15 + 4 * ((P 4).toNat - 1) then P (j + 4) else P j := fun j h1 h2 => by
    unfold q_drop3
    rw [gds_o (by omega) (by omega), q_pn (by omega)]
    unfold q_shf
    by_cases c : 15 + 4 * s ≤ j ∧ j < 15 + 4 * ((P 4).toNat - 1)
    · rw [if_pos c, if_pos (by omega)]
    · rw [if_neg c, if_neg (by omega)]
  have cg : ∀ g : Nat, (g : Int) < P 5 → q_drop3 P s (39 + 6 * g) = if P (39 + 6 * g) ≤ s then P (39 + 6 * g) else P (39 + 6 * g) - 1 := fun g hg1 => by
    unfold q_drop3
    rw [gds_v, if_pos (by omega), q_pn (by omega), q_shfn (by omega)]
  have c14 : q_drop3 P s 14 = P 14 := c3 14 (by omega)
  obtain ⟨k1, k2, k3⟩ := str_bl (P := q_drop3 P s) (s := s) (by omega)
  have d13 : q_dropC P s 13 = P 13 + P (15 + 4 * s + 3) := by
    unfold q_dropC; rw [q_pe, k3 13 (by omega) (by omega), c3 13 (by omega)]
  have dj : ∀ j, j ≠ 13 → q_dropC P s j = q_strC (q_drop3 P s) s j := fun j hj => by unfold q_dropC; rw [q_pn hj]
  have dl : ∀ j, j < 117 → j ≠ 13 → j ≠ 14 → q_dropC P s j = q_drop3 P s j := fun j h1 h2 h3 => by rw [dj j h2, k3 j h1 h3]
  refine ⟨d13, ?_, fun j h1 h2 h3 h4 h5 => ?_, fun j h1 h2 => ?_, fun g hg => ?_⟩
  · rw [dl 4 (by omega) (by omega) (by omega), c4]
  · rw [dl j h1 h3 h4, c3 j (by omega)]
  · rw [dl j (by omega) (by omega) (by omega), cs j h1 h2]
  · rw [dl _ (by omega) (by omega) (by omega), cg g hg]
theorem snow_drop {s : Nat} (ok : q_ok H 9 P) (hs : (s : Int) < P 4) : q_snow (q_dropC P s) = q_snow P - P (15 + 4 * s + 3) := by
  have a4 := ok.1.2.2.2.2.1
  obtain ⟨-, d4, -, ds, -⟩ := drop_v ok hs
  obtain ⟨m, hm⟩ : ∃ m : Nat, P 4 = (m : Int) + 1 := ⟨(P 4 - 1).toNat, by omega⟩
  have e := su_drop (c := fun t => P (15 + 4 * t + 3)) (s := s) m (by omega)
  unfold q_snow
  rw [d4, show (P 4 - 1).toNat = m by omega, show (P 4).toNat = m + 1 by omega]
  rw [← e]
  refine q_it_c _ (fun i y hi => ?_)
  rw [ds _ (by omega) (by omega)]
  by_cases c : s ≤ i
  · rw [if_pos (by omega), if_pos c, show 15 + 4 * i + 3 + 4 = 15 + 4 * (i + 1) + 3 by omega]
  · rw [if_neg (by omega), if_neg c]
theorem pg_drop {s : Nat} (h : x_pg H P) (hs : (s : Int) < P 4) (hg : q_gat P s ≤ 0) : x_pg H (q_dropC P s) := by
  have rr := (drop_rel (pg_rel h) hs hg).2
  have ok9 := ok_9 h.1
  have sn := snow_drop ok9 hs
  have a5 := h.1.1.2.2.2.2.2.1
  have sc := (h.1.2.1 s hs).2.2.2
  obtain ⟨d13, d4, dj, -, -⟩ := drop_v ok9 hs
  obtain ⟨ok, bk, b1, ⟨b2, b3, b4, b5, b6, b7⟩, b8⟩ := h
  refine ⟨rr.1, rr.2, ?_, ?_, fun g hg => ?_⟩
  · rw [dj 9 (by omega) (by omega) (by omega) (by omega) (by omega), dj 7 (by omega) (by omega) (by omega) (by omega) (by omega), dj 10 (by omega) (by omega) (by omega) (by omega) (by omega), dj 11 (by omega) (by omega) (by omega) (by omega) (by omega), sn, d13]; omega
  · rw [dj 9 (by omega) (by omega) (by omega) (by omega) (by omega), dj 10 (by omega) (by omega) (by omega) (by omega) (by omega), dj 11 (by omega) (by omega) (by omega) (by omega) (by omega), dj 12 (by omega) (by omega) (by omega) (by omega) (by omega), d13]; omega
  · rw [dj 5 (by omega) (by omega) (by omega) (by omega) (by omega)] at hg
    rw [dj _ (by omega) (by omega) (by omega) (by omega) (by omega)]
    exact b8 g hg
/-! what load lays out -/
theorem ld_1 {sg : Int → Int} {s g w : Nat} {j : Nat} (hj : j < 39) (h5 : j ≠ 5) (h6 : j ≠ 6) : f_3 sg s g w P j = f_1 sg s P j := by
  have e3 : ∀ w : Nat, f_3 sg s g w P j = f_2 sg s g P j := fun w => by
    unfold f_3
    induction w with
    | zero => rfl
    | succ n ih => rw [q_its]; unfold f_w; rw [putw_o (by omega) h6]; exact ih
  have e2 : ∀ g : Nat, f_2 sg s g P j = f_1 sg s P j := fun g => by
    unfold f_2
    induction g with
    | zero => rfl
    | succ n ih => rw [q_its]; unfold f_g; rw [putg_o hj h5]; exact ih
  rw [e3, e2]
theorem ld_s {sg : Int → Int} {s g w : Nat} (hs : s ≤ 6) : q_snow (f_3 sg s g w P) = 0 := by
  have a1 : ∀ s : Nat, q_snow (f_1 sg s P) = 0 := fun s => by
    induction s with
    | zero =>
      have b4 : f_0 sg P 4 = 0 := (begin_v (P := P) (p := t_nm sg 1 2) (c := t_nm sg 3 4) (i := t_nm sg 7 1) (l := t_nm sg 8 2)).1
      show q_snow (f_0 sg P) = 0
      unfold q_snow
      rw [b4]; rfl
    | succ n ih =>
      have e4 : f_1 sg n P 4 = n := (f_3_c (sg := sg) (s := n) (g := 0) (w := 0) (P := P)).1
      have e : f_1 sg (n + 1) P = q_puts (f_1 sg n P) (t_nm sg (10 + 5 * (n : Int) + 1) 1) (t_nm sg (10 + 5 * (n : Int) + 2) 1) (t_nm sg (10 + 5 * (n : Int) + 3) 2) := rfl
      rw [e, snow_puts (by rw [e4]; omega), ih]
  have e4 : f_1 sg s P 4 = s := (f_3_c (sg := sg) (s := s) (g := 0) (w := 0) (P := P)).1
  rw [snow_c (P := f_1 sg s P) (ld_1 (by omega) (by omega) (by omega)) (fun t ht => ld_1 (by omega) (by omega) (by omega)), a1 s]
theorem ld_g {sg : Int → Int} {s g w : Nat} (hg : g ≤ 8) {k : Nat} (hk : k < g) : f_3 sg s g w P (39 + 6 * k + 4) = 0 := by
  have e3 : ∀ w : Nat, f_3 sg s g w P (39 + 6 * k + 4) = f_2 sg s g P (39 + 6 * k + 4) := fun w => by
    unfold f_3
    induction w with
    | zero => rfl
    | succ n ih => rw [q_its]; unfold f_w; rw [putw_o (by omega) (by omega)]; exact ih
  have e2 : ∀ g : Nat, g ≤ 8 → k < g → f_2 sg s g P (39 + 6 * k + 4) = 0 := fun g => by
    induction g with
    | zero => exact fun _ hk => absurd hk (by omega)
    | succ n ih =>
      intro hg hk
      have e5 : f_2 sg s n P 5 = n := (f_3_c (sg := sg) (s := s) (g := n) (w := 0) (P := P)).2.1
      have e : f_2 sg s (n + 1) P = q_putg (f_2 sg s n P) (t_nm sg (10 + 5 * (s : Int) + 3 * (n : Int) + 1) 1) (t_nm sg (10 + 5 * (s : Int) + 3 * (n : Int) + 2) 1) := rfl
      rw [e, putg_v (by rw [e5]; omega), e5]
      by_cases c : k = n
      · rw [if_pos (by omega)]
      · rw [if_neg (by omega)]; exact ih (by omega) (by omega)
  rw [e3, e2 g hg hk]
theorem pg_load {sg : Int → Int} {s g w : Nat} {n : Int} (hH : 0 ≤ H) (h : (t_all sg n).1 ≠ 0) (hs : (s : Int) = (tt_S sg).2.2) (hg : (g : Int) = (tt_G sg).2.2) (hw : (w : Int) = (tt_T sg).2.2) : x_pg H (f_3 sg s g w y_z) := by
  have ok := (fill_sim (P := y_z) (R := y_z) hH h hs hg hw).1
  obtain ⟨c4, c5, c6⟩ := f_3_c (sg := sg) (s := s) (g := g) (w := w) (P := y_z)
  obtain ⟨v7, v1, v9, v8, v10, v11, v12, v13⟩ := f_0_v (sg := sg) (P := y_z)
  have v14 : f_0 sg y_z 14 = 0 := by
    unfold f_0 q_begin
    simp [q_pu]
  have e := fun (j : Nat) (h1 : j < 15) (h4 : j ≠ 4) (h5 : j ≠ 5) (h6 : j ≠ 6) => f_3_v (sg := sg) (s := s) (g := g) (w := w) (P := y_z) h1 h4 h5 h6
  have e1 := e 1 (by omega) (by omega) (by omega) (by omega)
  have e7 := e 7 (by omega) (by omega) (by omega) (by omega)
  have e9 := e 9 (by omega) (by omega) (by omega) (by omega)
  have e10 := e 10 (by omega) (by omega) (by omega) (by omega)
  have e11 := e 11 (by omega) (by omega) (by omega) (by omega)
  have e12 := e 12 (by omega) (by omega) (by omega) (by omega)
  have e13 := e 13 (by omega) (by omega) (by omega) (by omega)
  have e14 := e 14 (by omega) (by omega) (by omega) (by omega)
  have a1 := ok.1.2.1
  have a4 := ok.1.2.2.2.2.1
  have a5 := ok.1.2.2.2.2.2.1
  have sn := ld_s (sg := sg) (s := s) (g := g) (w := w) (P := y_z) (by omega)
  refine ⟨ok, ?_, ?_, ?_, fun k hk => ?_⟩
  · intro x hx
    have : q_bl (f_3 sg s g w y_z) = [] := by
      unfold q_bl; rw [e14, v14]; rfl
    rw [this] at hx
    cases hx
  · omega
  · omega
  · rw [ld_g (by omega) (by omega)]; omega
end Z53
