/-! THE FIRST MEMORY -/
section Z74
def w_A : Nat → Nat → Int := q_rg w_X 30 (v_new 24)
theorem wa_0 : w_A 0 = w_new 24 := by unfold w_A w_X; rw [q_rn (by omega), q_re]
theorem wa_30 : w_A 30 = v_new 24 := by unfold w_A; rw [q_re]
theorem wa_z {r : Nat} (h : r ≠ 0 ∧ r ≠ 30) : w_A r = fun _ => 0 := by unfold w_A w_X; rw [q_rn h.2, q_rn h.1]; rfl
theorem wa_eq : ∀ j, j < 157 → w_new 24 j = v_new 24 j := by decide +kernel
theorem wa_low : w_new 24 0 = 20 ∧ w_new 24 1 = 500 ∧ w_new 24 2 = 2 ∧ w_new 24 3 = 10 ∧ w_new 24 4 = 1 ∧ w_new 24 5 = 1 ∧ w_new 24 6 = 24 ∧ w_new 24 7 = 500 ∧ w_new 24 8 = 0 ∧ w_new 24 14 = 0 := by decide +kernel
theorem wa_sl : w_new 24 15 = 4 ∧ w_new 24 16 = 5 ∧ w_new 24 17 = 10 ∧ w_new 24 18 = 0 ∧ w_new 24 39 = 0 ∧ w_new 24 40 = 1 ∧ w_new 24 41 = 1 ∧ w_new 24 42 = 0 ∧ w_new 24 43 = 0 ∧ w_new 24 44 = 0 := by decide +kernel
theorem wa_wet : ∀ i, i < 24 → w_new 24 (93 + i) = -4 := by decide +kernel
theorem wa_rel : p_rel 0 (w_new 24) (v_new 24) := by
  obtain ⟨a0, a1, a2, a3, a4, a5, a6, a7, a8, a14⟩ := wa_low
  obtain ⟨s0, s1, s2, s3, g0, g1, g2, g3, g4, g5⟩ := wa_sl
  have b14 : v_new 24 14 = 0 := by rw [← wa_eq 14 (by omega)]; exact a14
  have e1 : q_bl (w_new 24) = [] := by unfold q_bl; rw [a14]; rfl
  have e2 : q_bl (v_new 24) = [] := by unfold q_bl; rw [b14]; rfl
  refine ⟨⟨fun j hj => wa_eq j (by unfold q_lv at hj; omega), by rw [e1, e2]; rfl⟩, ?_, fun e he => by rw [e1] at he; cases he⟩
  unfold q_ok
  rw [a0, a1, a2, a3, a4, a5, a6, a7, a8, a14]
  refine ⟨⟨by omega, by omega, by omega, by omega, by omega, by omega, by omega, by omega, by omega, by omega⟩, fun s hs => ?_, fun g hg => ?_, fun i hi => ?_⟩
  · have : s = 0 := by omega
    subst this
    rw [show w_new 24 (15 + 4 * 0) = 4 from s0, show w_new 24 (15 + 4 * 0 + 1) = 5 from s1, show w_new 24 (15 + 4 * 0 + 2) = 10 from s2, show w_new 24 (15 + 4 * 0 + 3) = 0 from s3]
    omega
  · have : g = 0 := by omega
    subst this
    rw [show w_new 24 (39 + 6 * 0) = 0 from g0, show w_new 24 (39 + 6 * 0 + 1) = 1 from g1, show w_new 24 (39 + 6 * 0 + 2) = 1 from g2, show w_new 24 (39 + 6 * 0 + 3) = 0 from g3]
    omega
  · rw [wa_wet i (by omega)]
    omega
theorem wa_inv : g_inv 0 w_A := by
  have z := fun (r : Nat) (h : r ≠ 0 ∧ r ≠ 30) => wa_z h
  refine ⟨by rw [wa_0, wa_30]; exact wa_rel, ?_, ?_, ?_⟩
  · unfold g_txt
    rw [z 19 (by omega), z 26 (by omega)]
    dsimp only
    exact ⟨by omega, rfl, fun i hi => by omega⟩
  · unfold g_his
    rw [z 24 (by omega), z 26 (by omega)]
    dsimp only
    exact ⟨by omega, by omega, rfl, fun i hi => by omega⟩
  · intro i hi
    rw [z 25 (by omega), z 39 (by omega)]
    dsimp only
    exact ⟨rfl, by omega, fun q => by omega⟩
end Z74
