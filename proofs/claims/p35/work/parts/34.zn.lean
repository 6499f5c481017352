/-! PURE: the order is the same either way -/
section Z34
variable {H : Int}
theorem n_ord_w {P O : Nat → Int} (h : q_ok H 9 P) : ∀ i : Nat, (i : Int) < P 5 → (n_ord P O i : Int) < P 5 := by
  intro i hi
  have h2 := h.1.2.2.1
  have hf := q_fill_ok h (by omega) (u := P 2) (by omega)
  have e5 : q_fill P (P 2) 5 = P 5 := q_fill_o (by omega)
  have h1 := (q_ord_eq (O := O) (K := O) hf (i := i) (by rw [e5]; exact hi)).1
  rw [e5] at h1
  unfold n_ord
  omega
theorem n_P_ok {P O Z B : Nat → Int} (h : q_ok H 9 P) : q_ok (H + 1) 9 (n_P P O Z B) := (q_enterM_z (g_M_ok h (n_ord_w h)) _).1
theorem n_P_c {P O Z B : Nat → Int} (h : q_ok H 9 P) {j : Nat} (hj : j < 7) : n_P P O Z B j = P j := by
  unfold n_P q_enterM
  rw [(q_enterM_z (g_M_ok h (n_ord_w h)) _).2 j (by omega) (by omega), g_M_c h (n_ord_w h) hj]
end Z34
