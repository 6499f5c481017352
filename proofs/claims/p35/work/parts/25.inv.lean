/-! what a page keeps -/
section Z25
variable {H G : Int} {P : Nat → Int}
theorem q_ok_pu {j : Nat} {x : Int} (h : q_ok H G P) (h0 : j ≠ 1 ∧ j ≠ 4 ∧ j ≠ 5 ∧ j ≠ 6 ∧ (j = 0 → 0 ≤ x ∧ x ≤ 99) ∧ (j = 2 → 0 ≤ x ∧ x ≤ 9) ∧ (j = 3 → 0 ≤ x ∧ x ≤ 50) ∧ (j = 7 → 0 ≤ x ∧ x ≤ P 1) ∧ (j = 8 → 0 ≤ x ∧ x ≤ H) ∧ (j = 14 → 0 ≤ x ∧ x ≤ 20)) (h1 : ∀ s : Nat, (s : Int) < P 4 → (j = 15 + 4 * s → 1 ≤ x ∧ x ≤ 9) ∧ (j = 15 + 4 * s + 1 → 0 ≤ x ∧ x ≤ 9) ∧ (j = 15 + 4 * s + 2 → 0 ≤ x ∧ x ≤ 99) ∧ (j = 15 + 4 * s + 3 → 0 ≤ x ∧ x ≤ 999)) (h2 : ∀ g : Nat, (g : Int) < P 5 → (j = 39 + 6 * g → 0 ≤ x ∧ x < P 4) ∧ (j = 39 + 6 * g + 1 → 0 ≤ x ∧ x ≤ 3) ∧ (j = 39 + 6 * g + 2 → 0 ≤ x ∧ x ≤ 1) ∧ (j = 39 + 6 * g + 3 → 0 ≤ x ∧ x ≤ 2)) (h3 : ∀ i : Nat, (i : Int) < P 6 → j = 93 + i → -9 ≤ x ∧ x ≤ 9) : q_ok H G (q_pu P j x) := by
  obtain ⟨⟨a0, a1, a2, a3, a4, a5, a6, a7, a8, a14⟩, hs, hg, hw⟩ := h
  have e1 : q_pu P j x 1 = P 1 := q_pn (by omega)
  have e4 : q_pu P j x 4 = P 4 := q_pn (by omega)
  have e5 : q_pu P j x 5 = P 5 := q_pn (by omega)
  have e6 : q_pu P j x 6 = P 6 := q_pn (by omega)
  unfold q_ok
  rw [e1, e4, e5, e6]
  refine ⟨⟨?_, a1, ?_, ?_, a4, a5, a6, ?_, ?_, ?_⟩, fun s h => ?_, fun g h => ?_, fun i h => ?_⟩
  · unfold q_pu; split <;> omega
  · unfold q_pu; split <;> omega
  · unfold q_pu; split <;> omega
  · unfold q_pu; split <;> omega
  · unfold q_pu; split <;> omega
  · unfold q_pu; split <;> omega
  · have b1 := hs s h
    have b2 := h1 s h
    refine ⟨?_, ?_, ?_, ?_⟩ <;> (unfold q_pu; split <;> omega)
  · have b1 := hg g h
    have b2 := h2 g h
    refine ⟨?_, ?_, ?_, ?_⟩ <;> (unfold q_pu; split <;> omega)
  · have b1 := hw i h
    have b2 := h3 i h
    unfold q_pu; split <;> omega
/-- a place that may hold anything -/
theorem q_ok_any {j : Nat} {x : Int} (h : q_ok H G P) (hG : G ≤ 9) (hj : (9 ≤ j ∧ j ≤ 13) ∨ (39 ≤ j ∧ j < 93 ∧ 4 ≤ (j - 39) % 6) ∨ 117 ≤ j) : q_ok H G (q_pu P j x) := by
  have h6 := h.1.2.2.2.2.2.2.1
  have h4 := h.1.2.2.2.2.1
  have h5 := h.1.2.2.2.2.2.1
  exact q_ok_pu h (by omega) (fun s _ => by omega) (fun g _ => by omega) (fun i _ => by omega)
theorem q_pour_ok (h : q_ok H G P) {u : Int} (hu : 0 ≤ u ∧ u ≤ 20000) : q_ok H G (q_pour P u) := by
  have h7 := h.1.2.2.2.2.2.2.2.1
  have h1 := q_amt_w (P := P) hu h7
  exact q_ok_pu h (by omega) (fun s _ => by omega) (fun g _ => by omega) (fun i _ => by omega)
theorem q_fill_ok (h : q_ok H G P) (hG : G ≤ 9) {u : Int} (hu : 0 ≤ u ∧ u ≤ 20000) : q_ok H G (q_fill P u) := q_ok_any (q_pour_ok h hu) hG (by omega)
theorem q_tme_ok (h : q_ok H G P) (hG : G ≤ 9) {u : Int} (hu : 0 ≤ u ∧ u ≤ 20000) : q_ok H G (q_tme P u) := q_ok_any (q_pour_ok (q_ok_any h hG (by omega)) (by omega)) hG (by omega)
theorem q_lost_w {u : Int} (hu : 0 ≤ u ∧ u ≤ 12) (h3 : 0 ≤ P 3 ∧ P 3 ≤ 50) : (0 ≤ u * P 3 ∧ u * P 3 ≤ 600) ∧ 0 ≤ q_lost P u ∧ q_lost P u ≤ u := by
  have a1 : 0 ≤ u * P 3 := Int.mul_nonneg hu.1 h3.1
  have a2 : u * P 3 ≤ 50 * u := by rw [Int.mul_comm]; exact Int.mul_le_mul_of_nonneg_right h3.2 hu.1
  unfold q_lost
  generalize u * P 3 = z at a1 a2 ⊢
  omega
theorem q_over_w {s : Nat} {u : Int} (hu : 0 ≤ u) (hs : 0 ≤ P (15 + 4 * s + 3) ∧ P (15 + 4 * s + 3) ≤ 999) : 0 ≤ q_over P s u ∧ 0 ≤ P (15 + 4 * s + 3) + u - q_over P s u ∧ P (15 + 4 * s + 3) + u - q_over P s u ≤ 999 := by
  unfold q_over; split <;> omega
theorem q_shoot_ok (h : q_ok H G P) (hG : G ≤ 9) {g s : Nat} {u : Int} (hg : (g : Int) < P 5) (hs : (s : Int) < P 4) (hu : 0 ≤ u ∧ u ≤ 12) (h7 : u ≤ P 7) : q_ok H G (q_shoot P g s u) := by
  have a4 := h.1.2.2.2.2.1
  have a5 := h.1.2.2.2.2.2.1
  have a7 := h.1.2.2.2.2.2.2.2.1
  have a6 := h.1.2.2.2.2.2.2.1
  have b1 := (h.2.1 s hs).2.2.2
  have l1 := q_lost_w (P := P) hu h.1.2.2.2.1
  have l2 := q_over_w (P := P) (s := s) (u := u - q_lost P u) (by omega) b1
  have c1 : q_ok H G (q_pu P 7 (P 7 - u)) := q_ok_pu h (by omega) (fun s _ => by omega) (fun g _ => by omega) (fun i _ => by omega)
  have c4 : q_pu P 7 (P 7 - u) 4 = P 4 := q_pn (by omega)
  have c6 : q_pu P 7 (P 7 - u) 6 = P 6 := q_pn (by omega)
  unfold q_shoot
  split
  · exact q_ok_any (q_ok_pu c1 (by omega) (fun s _ => by omega) (fun g _ => by omega) (fun i _ => by omega)) hG (by omega)
  · have c2 : q_ok H G (q_pu (q_pu P 7 (P 7 - u)) (39 + 6 * g + 3) 2) := q_ok_pu c1 (by omega) (fun s _ => by omega) (fun g _ => by omega) (fun i _ => by omega)
    have c3 := q_ok_any (j := 39 + 6 * g + 5) (x := P (39 + 6 * g + 5) + 1) (q_ok_any (j := 39 + 6 * g + 4) (x := P (39 + 6 * g + 4) + (u - q_lost P u)) c2 hG (by omega)) hG (by omega)
    exact q_ok_any (q_ok_pu c3 (by omega) (fun s _ => by omega) (fun g _ => by omega) (fun i _ => by omega)) hG (by omega)
theorem q_cold_w {w : Int} : 0 ≤ q_cold w ∧ q_cold w ≤ 3 := by
  unfold q_cold; (repeat' split) <;> omega
theorem q_use_w {g : Nat} {c : Int} (hn : 0 ≤ P (39 + 6 * g + 1) ∧ P (39 + 6 * g + 1) ≤ 3) (hc : 0 ≤ c ∧ c ≤ 3) : 0 ≤ q_use P g c ∧ q_use P g c ≤ 12 := by
  unfold q_use
  constructor
  · exact Int.mul_nonneg (by omega) hc.1
  · have := Int.mul_le_mul (show P (39 + 6 * g + 1) + 1 ≤ 4 by omega) hc.2 hc.1 (by omega)
    omega
theorem q_why_w {g s : Nat} {u l : Int} : 0 ≤ q_why P g s u l ∧ q_why P g s u l ≤ 5 := by
  unfold q_why; (repeat' split) <;> omega
theorem q_why0 {g s : Nat} {u l : Int} (h : q_why P g s u l = 0) : u ≤ l ∧ u ≤ P 7 := by
  unfold q_why at h
  (repeat' split at h) <;> omega
theorem q_cnt_shoot {g s : Nat} {u : Int} {j : Nat} (hs : s < 6) (h : j ≠ 7 ∧ j ≠ 10 ∧ j ≠ 39 + 6 * g + 3 ∧ j ≠ 39 + 6 * g + 4 ∧ j ≠ 39 + 6 * g + 5 ∧ j ≠ 15 + 4 * s + 3) : q_shoot P g s u j = P j := by
  unfold q_shoot
  split
  · rw [q_pn (by omega), q_pn (by omega), q_pn (by omega)]
  · rw [q_pn (by omega), q_pn (by omega), q_pn (by omega), q_pn (by omega), q_pn (by omega), q_pn (by omega)]
/-- what a gun's turn leaves: counts, settings, where guns are -/
def q_kp (P Q : Nat → Int) : Prop := (∀ j, j < 7 → Q j = P j) ∧ Q 8 = P 8 ∧ Q 14 = P 14 ∧ ∀ g : Nat, g < 9 → Q (39 + 6 * g) = P (39 + 6 * g) ∧ Q (39 + 6 * g + 1) = P (39 + 6 * g + 1)
theorem q_gs_ok {g : Nat} {c : Int} {x : (Nat → Int) × Int × (Nat → Int) × Int} (h : q_ok H G x.1) (hG : G ≤ 9) (hg : (g : Int) < x.1 5) (hc : 0 ≤ c ∧ c ≤ 3) (hl : 0 ≤ x.2.1 ∧ x.2.1 ≤ 99) : q_ok H G (q_gs g c x).1 ∧ (0 ≤ (q_gs g c x).2.1 ∧ (q_gs g c x).2.1 ≤ 99) ∧ q_kp x.1 (q_gs g c x).1 := by
  obtain ⟨P, l, Z, m⟩ := x
  simp only at h hg hl ⊢
  have a4 := h.1.2.2.2.2.1
  have a5 := h.1.2.2.2.2.2.1
  have a6 := h.1.2.2.2.2.2.2.1
  have b1 := h.2.2.1 g hg
  have u1 := q_use_w (P := P) (g := g) b1.2.1 hc
  unfold q_gs
  simp only
  split
  · rename_i hw
    have w1 := q_why0 hw
    refine ⟨q_shoot_ok h hG hg (by omega) u1 w1.2, by simp only; omega, fun j hj => q_cnt_shoot (by omega) (by omega), q_cnt_shoot (by omega) (by omega), q_cnt_shoot (by omega) (by omega), fun i hi => ⟨q_cnt_shoot (by omega) (by omega), q_cnt_shoot (by omega) (by omega)⟩⟩
  · refine ⟨q_ok_pu h (by omega) (fun s _ => by omega) (fun g _ => by omega) (fun i _ => by omega), hl, fun j hj => q_pn (by omega), q_pn (by omega), q_pn (by omega), fun i hi => ⟨q_pn (by omega), q_pn (by omega)⟩⟩
end Z25
