/-! AN HOUR, cell by cell -/
section Z43a
variable {P Q K Z B A : Nat → Int} {H H1 G u v w : Int} {ord : Nat → Nat} {g s n : Nat}
theorem amt_c (h1 : Q 1 = P 1) (h7 : Q 7 = P 7) : q_amt Q u = q_amt P u := by unfold q_amt; rw [h1, h7]
theorem fill_7 : q_fill P u 7 = P 7 + q_amt P u := by
  unfold q_fill q_pour
  rw [q_pn (by omega), q_pe]
theorem fill_9 : q_fill P u 9 = P 9 + q_amt P u := by
  unfold q_fill
  rw [q_pe]
theorem tme_v : q_tme P u 7 = P 7 + q_amt P (u / 2) ∧ q_tme P u 11 = P 11 + (u - q_amt P (u / 2)) ∧ q_tme P u 12 = P 12 + u := by
  have e : q_amt (q_pu P 12 (P 12 + u)) (u / 2) = q_amt P (u / 2) := amt_c (q_pn (by omega)) (q_pn (by omega))
  unfold q_tme q_pour
  refine ⟨?_, ?_, ?_⟩
  · rw [q_pn (by omega), q_pe, q_pn (by omega), e]
  · rw [q_pe]
  · rw [q_pn (by omega), q_pn (by omega), q_pe]
theorem mt_s (ok : q_ok H 9 P) (hw : 0 < w ∧ w ≤ 9) : ∀ n : Nat, (n : Int) ≤ P 4 → (q_it (q_ms w) n P 7 + q_it (q_ms w) n P 11 = P 7 + P 11 + (q_it (q_ms w) n P 12 - P 12) ∧ q_snow (q_it (q_ms w) n P) + q_it (q_ms w) n P 12 = q_snow P + P 12 ∧ P 11 ≤ q_it (q_ms w) n P 11 ∧ q_it (q_ms w) n P 11 - P 11 ≤ q_it (q_ms w) n P 12 - P 12 ∧ q_it (q_ms w) n P 12 ≤ P 12 + 999 * (n : Int)) ∧ ∀ t : Nat, (t : Int) < P 4 → q_it (q_ms w) n P (15 + 4 * t + 3) = if t < n then (if w * P (15 + 4 * t) < P (15 + 4 * t + 3) then P (15 + 4 * t + 3) - w * P (15 + 4 * t) else 0) else P (15 + 4 * t + 3)
  | 0, _ => by
    refine ⟨⟨?_, rfl, Int.le_refl _, ?_, ?_⟩, fun t ht => ?_⟩
    · show P 7 + P 11 = P 7 + P 11 + (P 12 - P 12); omega
    · show P 11 - P 11 ≤ P 12 - P 12; omega
    · show P 12 ≤ P 12 + _; omega
    · rw [if_neg (by omega)]; rfl
  | n + 1, hn => by
    obtain ⟨⟨i1, i2, i3, i4, i5⟩, i6⟩ := mt_s ok hw n (by omega)
    obtain ⟨z1, z2⟩ := q_melt_z ok hw (n := n) (by omega)
    rw [q_its]
    generalize q_it (q_ms w) n P = X at i1 i2 i3 i4 i5 i6 z1 z2 ⊢
    have e4 : X 4 = P 4 := z2 4 (by omega)
    have a4 := z1.1.2.2.2.2.1
    have a7 := z1.1.2.2.2.2.2.2.2.1
    have sn := z1.2.1 n (by omega)
    have ec := i6 n (by omega)
    rw [if_neg (by omega)] at ec
    have ea : X (15 + 4 * n) = P (15 + 4 * n) := z2 _ (by omega)
    have mw := q_mm_w (w := w) (s := n) (P := X) sn.1 sn.2.2.2 hw
    have em : q_mm w n X = if w * P (15 + 4 * n) < P (15 + 4 * n + 3) then w * P (15 + 4 * n) else P (15 + 4 * n + 3) := by
      unfold q_mm; rw [ea, ec]
    have ms : q_ms w n X = q_tme (q_pu X (15 + 4 * n + 3) (X (15 + 4 * n + 3) - q_mm w n X)) (q_mm w n X) := rfl
    obtain ⟨t7, t11, t12⟩ := tme_v (P := q_pu X (15 + 4 * n + 3) (X (15 + 4 * n + 3) - q_mm w n X)) (u := q_mm w n X)
    rw [q_pn (by omega)] at t7 t11 t12
    rw [amt_c (Q := q_pu X (15 + 4 * n + 3) (X (15 + 4 * n + 3) - q_mm w n X)) (P := X) (q_pn (by omega)) (q_pn (by omega))] at t7 t11
    rw [← ms] at t7 t11 t12
    have tc : q_ms w n X (15 + 4 * n + 3) = X (15 + 4 * n + 3) - q_mm w n X := by rw [ms, q_tme_o (by omega), q_pe]
    have am := q_amt_w (P := X) (u := q_mm w n X / 2) (by omega) a7
    have sw := snow_1 (Q := q_ms w n X) (P := X) (s := n) (q_ms_o (by omega)) (by omega) (fun t _ ht => q_ms_o (by omega))
    refine ⟨⟨by omega, by omega, by omega, by omega, by omega⟩, fun t ht => ?_⟩
    by_cases e : t = n
    · subst e
      rw [if_pos (show t < t + 1 by omega), tc, em, ec]
      split <;> omega
    · rw [q_ms_o (by omega), i6 t ht]
      by_cases c : t < n
      · rw [if_pos c, if_pos (show t < n + 1 by omega)]
      · rw [if_neg c, if_neg (show ¬ t < n + 1 by omega)]
theorem mt_f (ok : q_ok H 9 P) (hw : q_wet P (P 8) = w) : (q_melt P 7 + q_melt P 11 = P 7 + P 11 + (q_melt P 12 - P 12) ∧ q_snow (q_melt P) + q_melt P 12 = q_snow P + P 12 ∧ P 11 ≤ q_melt P 11 ∧ q_melt P 11 - P 11 ≤ q_melt P 12 - P 12 ∧ q_melt P 12 ≤ P 12 + 6000) ∧ ((0 < w → ∀ t : Nat, (t : Int) < P 4 → q_melt P (15 + 4 * t + 3) = if w * P (15 + 4 * t) < P (15 + 4 * t + 3) then P (15 + 4 * t + 3) - w * P (15 + 4 * t) else 0) ∧ (w ≤ 0 → q_melt P = P)) := by
  have ww := q_wet_w ok (t := P 8) ok.1.2.2.2.2.2.2.2.2.1.1
  have a4 := ok.1.2.2.2.2.1
  rw [hw] at ww
  by_cases c : w ≤ 0
  · have e : q_melt P = P := by unfold q_melt; rw [hw, if_pos c]
    rw [e]
    refine ⟨⟨by omega, rfl, Int.le_refl _, by omega, by omega⟩, fun h => absurd h (by omega), fun _ => rfl⟩
  · have e : q_melt P = q_it (q_ms w) (P 4).toNat P := by unfold q_melt; rw [hw, if_neg c]
    obtain ⟨⟨i1, i2, i3, i4, i5⟩, i6⟩ := mt_s ok (w := w) (by omega) (P 4).toNat (by omega)
    rw [e]
    refine ⟨⟨i1, i2, i3, i4, by omega⟩, fun h t ht => ?_, fun h => absurd h c⟩
    rw [i6 t ht, if_pos (by omega)]
/-- what the guns use this hour -/
def y_U (P : Nat → Int) : Int := q_it (fun g y => y + (if y_re P g = 0 then q_use P g (q_cold (q_wet P (P 8))) else 0)) (P 5).toNat 0
def y_N (P N : Nat → Int) : Prop :=
  ((∀ j, j < 7 → N j = P j) ∧ N 8 = P 8 + 1 ∧ N 9 = P 9 + q_amt P (P 2) ∧ N 13 = P 13 ∧ (∀ j, 93 ≤ j → j < 117 → N j = P j)) ∧
  (N 7 + N 10 + N 11 + q_snow N = P 7 + q_amt P (P 2) + P 10 + P 11 + q_snow P) ∧
  (P 10 ≤ N 10 ∧ P 11 ≤ N 11 ∧ N 11 - P 11 ≤ N 12 - P 12 ∧ N 12 ≤ P 12 + 6000) ∧
  (∀ s : Nat, (s : Int) < P 4 → (∀ i, i < 3 → N (15 + 4 * s + i) = P (15 + 4 * s + i)) ∧ (0 < q_wet P (P 8) → N (15 + 4 * s + 3) = if q_wet P (P 8) * P (15 + 4 * s) < P (15 + 4 * s + 3) then P (15 + 4 * s + 3) - q_wet P (P 8) * P (15 + 4 * s) else 0) ∧ (q_wet P (P 8) ≤ 0 → P (15 + 4 * s + 3) ≤ N (15 + 4 * s + 3))) ∧
  (N 12 - P 12 = if 0 < q_wet P (P 8) then q_snow P - q_snow N else 0) ∧
  (∀ g : Nat, (g : Int) < P 5 → (N (39 + 6 * g) = P (39 + 6 * g) ∧ N (39 + 6 * g + 1) = P (39 + 6 * g + 1) ∧ N (39 + 6 * g + 2) = P (39 + 6 * g + 2)) ∧
    (0 ≤ y_re P g ∧ y_re P g ≤ 5) ∧ (y_re P g = 1 ↔ P (39 + 6 * g + 2) = 0) ∧ (2 ≤ y_re P g → (y_re P g = 2 ↔ q_cold (q_wet P (P 8)) = 0)) ∧
    (y_re P g = 3 → q_rd P (P (39 + 6 * g)).toNat ∨ 1 < P 5) ∧ (y_re P g = 0 → ¬ q_rd P (P (39 + 6 * g)).toNat ∧ 0 < q_cold (q_wet P (P 8))) ∧
    N (39 + 6 * g + 3) = (if 0 < y_re P g then 0 else if P (39 + 6 * g + 3) = 0 then 1 else 2) ∧
    N (39 + 6 * g + 4) = P (39 + 6 * g + 4) + (if N (39 + 6 * g + 3) = 2 then q_use P g (q_cold (q_wet P (P 8))) - q_lost P (q_use P g (q_cold (q_wet P (P 8)))) else 0)) ∧
  (y_U P ≤ P 0 ∧ P 10 + y_U P - (q_made N - q_made P) ≤ N 10)
theorem hr_N (ok : q_ok H 9 P) : y_N P (y_hr P) := by
  have a2 := ok.1.2.2.1
  have a4 := ok.1.2.2.2.2.1
  have a5 := ok.1.2.2.2.2.2.1
  have a8 := ok.1.2.2.2.2.2.2.2.2.1
  have a6 := ok.1.2.2.2.2.2.2.1
  have am := q_amt_w (P := P) (u := P 2) (by omega) ok.1.2.2.2.2.2.2.2.1
  have okF := q_fill_ok ok (by omega) (u := P 2) (by omega)
  have F : ∀ j, j ≠ 7 → j ≠ 9 → q_fill P (P 2) j = P j := fun j h1 h2 => q_fill_o ⟨h1, h2⟩
  have F7 := fill_7 (P := P) (u := P 2)
  have F9 := fill_9 (P := P) (u := P 2)
  have ho : ∀ i : Nat, (i : Int) < q_fill P (P 2) 5 → ((q_ordC (h_K P y_z) i : Nat) : Int) < q_fill P (P 2) 5 := fun i hi => (or_key (K := y_z) okF hi).2
  have hi : ∀ i j : Nat, (i : Int) < q_fill P (P 2) 5 → (j : Int) < q_fill P (P 2) 5 → q_ordC (h_K P y_z) i = q_ordC (h_K P y_z) j → i = j := fun i j h1 h2 e => or_inj (K := y_z) okF h1 h2 e
  have gN := guns_N (Z := y_z) okF ho hi
  have gz := q_guns_z (Z := y_z) okF ho
  have hG : h_G P y_z y_z = q_guns (q_ordC (h_K P y_z)) (q_fill P (P 2)) y_z := rfl
  rw [← hG] at gN gz
  have kM : q_made (h_M P y_z y_z) = q_made P + (h_G P y_z y_z).2.2.2 := (g_M_k (Z := y_z) ok (fun i hi => by
    have := ho i (by rw [F 5 (by omega) (by omega)]; exact hi)
    rw [F 5 (by omega) (by omega)] at this
    exact this)).2.1
  have hM : h_M P y_z y_z = q_pu (q_melt (h_G P y_z y_z).1) 8 (q_melt (h_G P y_z y_z).1 8 + 1) := rfl
  have hN : q_kb (h_M P y_z y_z) (y_hr P) := (q_enter_z (h_M_ok ok) _).2
  have hz := (h_M_z (K := y_z) (Z := y_z) ok).2.1
  have all : ∀ g : Nat, (g : Int) < P 5 → g_d (q_ordC (h_K P y_z)) g (q_fill P (P 2) 5).toNat = 1 := fun g hg => by
    rcases g_d_1 (ord := q_ordC (h_K P y_z)) (k := g) (q_fill P (P 2) 5).toNat with h | ⟨-, h⟩
    · exact h
    · obtain ⟨i, h1, h2⟩ := or_sur (K := y_z) okF (g := g) (by rw [F 5 (by omega) (by omega)]; exact hg)
      exact absurd h2 (h i (by omega))
  unfold y_N y_U y_re
  rw [hM] at kM hN
  generalize h_G P y_z y_z = R at gN gz kM hN hz ⊢
  generalize y_hr P = N at hN ⊢
  obtain ⟨⟨n1, n2, n3, n4⟩, n5, ⟨n6, n7⟩, n8⟩ := gN
  obtain ⟨okG, lG, kG⟩ := gz
  have gc : ∀ j, j < 7 → R.1 j = P j := fun j hj => by rw [kG.1 j hj, F j (by omega) (by omega)]
  have g8 : R.1 8 = P 8 := by rw [kG.2.1, F 8 (by omega) (by omega)]
  have ew : q_wet R.1 (R.1 8) = q_wet P (P 8) := by
    unfold q_wet
    rw [g8, gc 6 (by omega), n5 _ (by omega), F _ (by omega) (by omega)]
  have ef : q_wet (q_fill P (P 2)) (q_fill P (P 2) 8) = q_wet P (P 8) := by
    unfold q_wet
    rw [F 8 (by omega) (by omega), F 6 (by omega) (by omega), F _ (by omega) (by omega)]
  obtain ⟨⟨m1, m2, m3, m4, m5⟩, m6, m7⟩ := mt_f okG ew
  have snF : q_snow (q_fill P (P 2)) = q_snow P := snow_c (F 4 (by omega) (by omega)) (fun t ht => F _ (by omega) (by omega))
  generalize hw : q_wet P (P 8) = w at *
  rw [ef] at n4 n7 n8
  have hj : ∀ j, j < 117 → j ≠ 14 → j ≠ 8 → N j = q_melt R.1 j := fun j h1 h2 h3 => by rw [hN j h1 h2, q_pn h3]
  have e4 : R.1 4 = P 4 := gc 4 (by omega)
  have t4 : q_melt R.1 4 = P 4 := by rw [hz 4 (by omega), e4]
  have snN : q_snow N = q_snow (q_melt R.1) := snow_c (hj 4 (by omega) (by omega) (by omega)) (fun t ht => hj _ (by omega) (by omega) (by omega))
  have mdN : q_made N = q_made P + R.2.2.2 := by
    rw [← kM]
    have t5 : q_melt R.1 5 = P 5 := by rw [hz 5 (by omega), gc 5 (by omega)]
    exact made_c (by rw [q_pn (by omega)]; exact hj 5 (by omega) (by omega) (by omega)) (fun g hg => by
      rw [q_pn (by omega), t5] at hg
      rw [q_pn (by omega)]
      exact hj _ (by omega) (by omega) (by omega))
  have c9 : q_melt R.1 9 = P 9 + q_amt P (P 2) := by rw [hz 9 (by omega), n5 9 (by omega), F9]
  have c10 : q_melt R.1 10 = R.1 10 := hz 10 (by omega)
  have c13 : q_melt R.1 13 = P 13 := by rw [hz 13 (by omega), n5 13 (by omega), F 13 (by omega) (by omega)]
  have c11 : R.1 11 = P 11 := by rw [n5 11 (by omega), F 11 (by omega) (by omega)]
  have c12 : R.1 12 = P 12 := by rw [n5 12 (by omega), F 12 (by omega) (by omega)]
  have f10 := F 10 (by omega) (by omega)
  have f0 := F 0 (by omega) (by omega)
  have f5 := F 5 (by omega) (by omega)
  have f4 := F 4 (by omega) (by omega)
  have uF : ∀ g : Nat, g < 9 → q_use (q_fill P (P 2)) g (q_cold w) = q_use P g (q_cold w) := fun g hg => by
    unfold q_use; rw [F _ (by omega) (by omega)]
  have lF : ∀ x, q_lost (q_fill P (P 2)) x = q_lost P x := fun x => by unfold q_lost; rw [F 3 (by omega) (by omega)]
  have rF : ∀ s : Nat, s < 6 → (q_rd (q_fill P (P 2)) s ↔ q_rd P s) := fun s hs => by
    unfold q_rd; rw [F _ (by omega) (by omega), F _ (by omega) (by omega), F _ (by omega) (by omega)]
  have hU : q_it (fun g y => y + (if R.2.2.1 g = 0 then q_use P g (q_cold w) else 0)) (P 5).toNat 0 = P 0 - R.2.1 := by
    rw [← f0, n4]
    unfold g_S
    rw [f5]
    refine (q_it_c _ (fun i y hi => ?_)).symm
    rw [uF i (by omega)]
    have d := all i (by omega)
    rw [f5] at d
    by_cases c : R.2.2.1 i = 0
    · rw [if_pos c, if_pos ⟨d, c⟩]
    · rw [if_neg c, if_neg (fun q => c q.2)]
  have cold0 : 0 < w → q_cold w = 0 := fun h => by unfold q_cold; rw [if_neg (by omega)]
  refine ⟨⟨fun j hj1 => ?_, ?_, ?_, ?_, fun j h1 h2 => ?_⟩, ?_, ⟨?_, ?_, ?_, ?_⟩, fun s hs => ⟨fun i hi => ?_, fun h => ?_, fun h => ?_⟩, ?_, fun g hg => ?_, ?_, ?_⟩
  · rw [hj j (by omega) (by omega) (by omega), hz j (by omega), gc j hj1]
  · rw [hN 8 (by omega) (by omega), q_pe, hz 8 (by omega), g8]
  · rw [hj 9 (by omega) (by omega) (by omega), c9]
  · rw [hj 13 (by omega) (by omega) (by omega), c13]
  · rw [hj j (by omega) (by omega) (by omega), hz j (by omega), n5 j (by omega), F j (by omega) (by omega)]
  · rw [hj 7 (by omega) (by omega) (by omega), hj 10 (by omega) (by omega) (by omega), hj 11 (by omega) (by omega) (by omega), snN, c10]
    omega
  · rw [hj 10 (by omega) (by omega) (by omega), c10]; omega
  · rw [hj 11 (by omega) (by omega) (by omega)]; omega
  · rw [hj 11 (by omega) (by omega) (by omega), hj 12 (by omega) (by omega) (by omega)]; omega
  · rw [hj 12 (by omega) (by omega) (by omega)]; omega
  · rw [hj _ (by omega) (by omega) (by omega), hz _ (by omega), n5 _ (by omega), F _ (by omega) (by omega)]
  · rw [hj _ (by omega) (by omega) (by omega), m6 h s (by rw [e4]; exact hs), n5 (15 + 4 * s) (by omega), F (15 + 4 * s) (by omega) (by omega), n7 (Or.inl (cold0 h)) s (by rw [f4]; exact hs), F (15 + 4 * s + 3) (by omega) (by omega)]
  · rw [hj _ (by omega) (by omega) (by omega), m7 h]
    have := n6 s (by rw [f4]; exact hs)
    rw [F (15 + 4 * s + 3) (by omega) (by omega)] at this
    exact this
  · rw [hj 12 (by omega) (by omega) (by omega), snN]
    by_cases c : 0 < w
    · rw [if_pos c]
      have : q_snow R.1 = q_snow P := snow_c e4 (fun t ht => by rw [n7 (Or.inl (cold0 c)) t (by rw [f4]; exact ht), F _ (by omega) (by omega)])
      omega
    · rw [if_neg c, m7 (by omega), c12]; omega
  · have b := ok.2.2.1 g hg
    obtain ⟨r1, -, r3⟩ := n8 g (by rw [f5]; exact hg)
    have r := r3 (all g hg)
    have k := kG.2.2.2 g (by omega)
    unfold g_D at r
    rw [uF g (by omega), lF, F (39 + 6 * g) (by omega) (by omega), rF _ (by omega), F (39 + 6 * g + 2) (by omega) (by omega), F (39 + 6 * g + 3) (by omega) (by omega), F (39 + 6 * g + 4) (by omega) (by omega), f5] at r
    rw [F (39 + 6 * g) (by omega) (by omega), F (39 + 6 * g + 1) (by omega) (by omega)] at k
    rw [F (39 + 6 * g + 2) (by omega) (by omega)] at r1
    refine ⟨⟨?_, ?_, ?_⟩, ?_⟩
    · rw [hj _ (by omega) (by omega) (by omega), hz _ (by omega), k.1]
    · rw [hj _ (by omega) (by omega) (by omega), hz _ (by omega), k.2]
    · rw [hj _ (by omega) (by omega) (by omega), hz _ (by omega), r1]
    · rw [hj (39 + 6 * g + 3) (by omega) (by omega) (by omega), hj (39 + 6 * g + 4) (by omega) (by omega) (by omega), hz (39 + 6 * g + 3) (by omega), hz (39 + 6 * g + 4) (by omega)]
      exact r
  · rw [hU]; omega
  · rw [hU, mdN, hj 10 (by omega) (by omega) (by omega), c10]; omega
/-! the book of a slope that has become ready -/
theorem bl_len : (q_bl P).length = (P 14).toNat := by rw [bl_en, List.length_map, List.length_range]
theorem ent_0 {a t : Int} (h : 0 ≤ P 14 ∧ P 14 ≤ 20) : (q_bl (q_ent P a t)).reverse[0]? = some (a, t) := by
  rw [q_bl_ent h, List.reverse_append]; rfl
theorem ent_1 {a t : Int} {i : Nat} {e : Int × Int} (h : 0 ≤ P 14 ∧ P 14 ≤ 20) (hi : i < 19) (he : (q_bl P).reverse[i]? = some e) : (q_bl (q_ent P a t)).reverse[i + 1]? = some e := by
  rw [q_bl_ent h, List.reverse_append]
  show ((a, t) :: _)[i + 1]? = _
  rw [List.getElem?_cons_succ]
  split
  · exact he
  · rename_i c
    have e : (q_bl P).tail.reverse = (q_bl P).reverse.dropLast := by
      have e1 := List.tail_reverse (l := (q_bl P).reverse)
      rw [List.reverse_reverse] at e1
      rw [e1, List.reverse_reverse]
    have l : (q_bl P).reverse.length = 20 := by rw [List.length_reverse, bl_len]; omega
    rw [e]
    show ((q_bl P).reverse.dropLast)[i]? = _
    rw [List.getElem?_dropLast, l, if_pos (by omega), he]
theorem en_bk (ok : q_ok H 9 P) : ∀ n : Nat, n ≤ 6 → ∀ s : Nat, s < n → B s = 0 → q_rd P s → ∃ j, j < n ∧ (q_bl (q_it (q_es B) n P)).reverse[j]? = some ((s : Int), P 8)
  | 0, _, s, hs, _, _ => absurd hs (by omega)
  | n + 1, hn, s, hs, hB, hr => by
    obtain ⟨z1, z2⟩ := q_enter_z (B := B) ok n
    have ih := en_bk ok n (by omega) s
    rw [q_its]
    generalize q_it (q_es B) n P = X at z1 z2 ih ⊢
    have a14 := z1.1.2.2.2.2.2.2.2.2.2
    have e8 : X 8 = P 8 := z2 8 (by omega) (by omega)
    have rX : ∀ t : Nat, t < 6 → (q_rd X t ↔ q_rd P t) := fun t ht => by
      unfold q_rd
      rw [z2 _ (by omega) (by omega), z2 _ (by omega) (by omega), z2 _ (by omega) (by omega)]
    by_cases e : s = n
    · subst e
      refine ⟨0, by omega, ?_⟩
      unfold q_es
      rw [if_pos ((rX s (by omega)).mpr hr), if_pos hB, ent_0 a14, e8]
    · obtain ⟨j, h1, h2⟩ := ih (by omega) hB hr
      unfold q_es
      split
      · split
        · exact ⟨j + 1, by omega, ent_1 a14 (by omega) h2⟩
        · exact ⟨j, by omega, h2⟩
      · exact ⟨j, by omega, h2⟩
theorem was_v : ∀ n s : Nat, s < n → q_it (q_wsd P) n B s = q_b (q_rd P s)
  | 0, s, hs => absurd hs (by omega)
  | n + 1, s, hs => by
    rw [q_its]
    unfold q_wsd
    by_cases e : s = n
    · subst e; rw [q_pe]
    · rw [q_pn e]; exact was_v n s (by omega)
theorem hr_bk (ok : q_ok H 9 P) {s : Nat} (hs : (s : Int) < P 4) (h0 : ¬ q_rd P s) (h1 : q_rd (y_hr P) s) : ∃ j, j < 20 ∧ (q_bl (y_hr P)).reverse[j]? = some ((s : Int), P 8 + 1) := by
  have a4 := ok.1.2.2.2.2.1
  have okM := h_M_ok (K := y_z) (Z := y_z) ok
  have e4 : h_M P y_z y_z 4 = P 4 := h_M_c ok (by omega)
  have hN : q_kb (h_M P y_z y_z) (y_hr P) := (q_enter_z okM _).2
  have e8 : h_M P y_z y_z 8 = P 8 + 1 := by rw [← hN 8 (by omega) (by omega)]; exact (hr_N ok).1.2.1
  have hr : q_rd (h_M P y_z y_z) s := by
    have h2 := h1
    unfold q_rd at h2 ⊢
    rw [hN _ (by omega) (by omega), hN _ (by omega) (by omega), hN _ (by omega) (by omega)] at h2
    exact h2
  obtain ⟨j, j1, j2⟩ := en_bk (B := q_was P y_z) okM (h_M P y_z y_z 4).toNat (by omega) s (by omega) (by
    unfold q_was; rw [was_v _ s (by omega), q_bf h0]) hr
  rw [e8] at j2
  exact ⟨j, by omega, j2⟩
end Z43a
