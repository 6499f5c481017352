/-! PURE: the order by counting, the book newest first: what the hour is compared with -/
section Z30
variable {H : Int}
theorem q_rd_dp {P : Nat → Int} {s : Nat} (ha : 1 ≤ P (15 + 4 * s)) : (P (15 + 4 * s + 2) ≤ q_dp P s) ↔ q_rd P s := by
  unfold q_dp
  exact Int.le_ediv_iff_mul_le (by omega)
theorem q_rk_w {P : Nat → Int} {g : Nat} : ∀ n : Nat, 0 ≤ q_it (fun h c => c + q_b (q_key P h < q_key P g)) n 0 ∧ q_it (fun h c => c + q_b (q_key P h < q_key P g)) n 0 ≤ n - (if g < n then 1 else 0)
  | 0 => by rw [if_neg (by omega)]; exact ⟨Int.le_refl _, Int.le_refl _⟩
  | n + 1 => by
    have h1 := q_rk_w (P := P) (g := g) n
    have h2 := q_bw (c := q_key P n < q_key P g)
    rw [q_its]
    by_cases e : g = n
    · subst e
      rw [q_bf (Int.lt_irrefl _)]
      rw [if_neg (by omega)] at h1
      rw [if_pos (by omega)]
      omega
    · by_cases e1 : g < n
      · rw [if_pos e1] at h1
        rw [if_pos (by omega)]
        omega
      · rw [if_neg e1] at h1
        rw [if_neg (by omega)]
        omega
theorem q_rkw {P : Nat → Int} {g : Nat} (hg : (g : Int) < P 5) : 0 ≤ q_rk P g ∧ q_rk P g < P 5 := by
  have h := q_rk_w (P := P) (g := g) (P 5).toNat
  rw [if_pos (by omega)] at h
  unfold q_rk
  omega
def g_G (ord : Nat → Nat) (P Z : Nat → Int) : (Nat → Int) × Int × (Nat → Int) × Int := q_guns ord (q_fill P (P 2)) Z
def g_M (ord : Nat → Nat) (P Z : Nat → Int) : Nat → Int := q_pu (q_melt (g_G ord P Z).1) 8 (q_melt (g_G ord P Z).1 8 + 1)
def n_ord (P O : Nat → Int) (i : Nat) : Nat := (q_lay (q_fill P (P 2)) O i).toNat
def n_P (P O Z B : Nat → Int) : Nat → Int := q_enterM (g_M (n_ord P O) P Z) (q_was P B)
theorem q_wr_o {P : Nat → Int} {s : Int} {j : Nat} (h : j < 117) (h1 : j ≠ 14) : q_wr P s j = P j := by
  unfold q_wr
  rw [q_pn h1, q_pn (by omega), q_pn (by omega), if_neg (by omega)]
theorem q_wr_14 {P : Nat → Int} {s : Int} (h : 0 ≤ P 14 ∧ P 14 ≤ 20) : 0 ≤ q_wr P s 14 ∧ q_wr P s 14 ≤ 20 := by
  unfold q_wr
  rw [q_pe]; split <;> omega
theorem q_es1_z {B P x : Nat → Int} {n : Nat} (h : (q_ok H 9 x ∧ q_kb P x)) : q_ok H 9 (q_es1 B n x) ∧ q_kb P (q_es1 B n x) := by
  have b14 := h.1.1.2.2.2.2.2.2.2.2.2
  unfold q_es1
  split
  · split
    · exact ⟨q_ok_ext h.1 (by omega) (fun j hj hj1 => q_wr_o hj hj1) (q_wr_14 b14), fun j hj hj1 => by rw [q_wr_o hj hj1]; exact h.2 j hj hj1⟩
    · exact h
  · exact h
theorem q_enterM_z {B P : Nat → Int} (h : q_ok H 9 P) (n : Nat) : q_ok H 9 (q_it (q_es1 B) n P) ∧ q_kb P (q_it (q_es1 B) n P) :=
  q_it_inv (f := q_es1 B) (Z := fun _ x => q_ok H 9 x ∧ q_kb P x) (N := n) (x := P) (fun _ _ _ hx => q_es1_z hx) ⟨h, fun _ _ _ => rfl⟩ n (Nat.le_refl _)
theorem g_M_z {P Z : Nat → Int} {ord : Nat → Nat} (h : q_ok H 9 P) (ho : ∀ i : Nat, (i : Int) < P 5 → (ord i : Int) < P 5) : q_ok H 9 (q_melt (g_G ord P Z).1) ∧ q_kq (g_G ord P Z).1 (q_melt (g_G ord P Z).1) ∧ q_gz H (q_fill P (P 2)) (g_G ord P Z) := by
  have h2 := h.1.2.2.1
  have hf := q_fill_ok h (by omega) (u := P 2) (by omega)
  have hg : q_gz H (q_fill P (P 2)) (g_G ord P Z) := q_guns_z hf (fun i hi => by rw [q_fill_o (by omega)] at hi ⊢; exact ho i hi)
  have a8 := hg.1.1.2.2.2.2.2.2.2.2.1
  have w1 := q_wet_w hg.1 a8.1
  unfold q_melt
  split
  · exact ⟨hg.1, fun _ _ => rfl, hg⟩
  · have a4 := hg.1.1.2.2.2.2.1
    have hm := q_melt_z hg.1 (w := q_wet (g_G ord P Z).1 ((g_G ord P Z).1 8)) (by omega) (n := ((g_G ord P Z).1 4).toNat) (by omega)
    exact ⟨hm.1, hm.2, hg⟩
theorem g_M_ok {P Z : Nat → Int} {ord : Nat → Nat} (h : q_ok H 9 P) (ho : ∀ i : Nat, (i : Int) < P 5 → (ord i : Int) < P 5) : q_ok (H + 1) 9 (g_M ord P Z) := by
  obtain ⟨h1, -, -⟩ := g_M_z (Z := Z) h ho
  have h2 : q_ok (H + 1) 9 (q_melt (g_G ord P Z).1) := by
    obtain ⟨⟨a0, a1, a2, a3, a4, a5, a6, a7, a8, a14⟩, hs⟩ := h1
    exact ⟨⟨a0, a1, a2, a3, a4, a5, a6, a7, by omega, a14⟩, hs⟩
  have a8 := h1.1.2.2.2.2.2.2.2.2.1
  have a4 := h1.1.2.2.2.2.1
  have a6 := h1.1.2.2.2.2.2.2.1
  exact q_ok_pu h2 (by omega) (fun s _ => by omega) (fun g _ => by omega) (fun i _ => by omega)
theorem g_M_c {P Z : Nat → Int} {ord : Nat → Nat} (h : q_ok H 9 P) (ho : ∀ i : Nat, (i : Int) < P 5 → (ord i : Int) < P 5) {j : Nat} (hj : j < 7) : g_M ord P Z j = P j := by
  obtain ⟨-, h2, h3⟩ := g_M_z (Z := Z) h ho
  unfold g_M
  rw [q_pn (by omega), h2 j (by omega), h3.2.2.1 j hj, q_fill_o (by omega)]
end Z30
