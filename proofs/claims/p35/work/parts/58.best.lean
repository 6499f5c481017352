/-! THE BEST of the forecasts -/
section Z58
variable {P A : Nat → Int} {σ : x_sp} {H H1 G u v w z : Int} {m n s k : Nat}
/-- the first of the greatest -/
theorem best_v {R : Nat → Int} (h0 : ∀ f, 0 ≤ R f) : ∀ k : Nat, 1 ≤ k → ∃ i : Nat, i < k ∧ q_it (q_best R) k (0, -1) = ((i : Int), R i) ∧ (∀ f, f < k → R f ≤ R i) ∧ ∀ f, f < i → R f < R i
  | 0, h => absurd h (by omega)
  | k + 1, _ => by
    rw [q_its]
    by_cases c : k = 0
    · subst c
      refine ⟨0, by omega, ?_, fun f hf => ?_, fun f hf => absurd hf (by omega)⟩
      · have := h0 0
        show q_best R 0 (0, -1) = _
        unfold q_best
        rw [if_pos (by dsimp only; omega)]
      · have e : f = 0 := by omega
        rw [e]; exact Int.le_refl _
    · obtain ⟨i, h1, h2, h3, h4⟩ := best_v h0 k (by omega)
      rw [h2]
      unfold q_best
      dsimp only
      by_cases d : R i < R k
      · refine ⟨k, by omega, if_pos d, fun f hf => ?_, fun f hf => ?_⟩
        · by_cases e : f = k
          · rw [e]; exact Int.le_refl _
          · have := h3 f (by omega); omega
        · have := h3 f hf; omega
      · refine ⟨i, by omega, if_neg d, fun f hf => ?_, h4⟩
        by_cases e : f = k
        · rw [e]; omega
        · exact h3 f (by omega)
theorem fo_it {R : Int → Int} : ∀ d n x, f_fo R d n (q_it (f_st R) n x) = q_it (f_st R) (n + d) x
  | 0, _, _ => rfl
  | d + 1, n, x => by
    show f_fo R d (n + 1) (q_it (f_st R) (n + 1) x) = _
    rw [fo_it d (n + 1) x, show n + 1 + d = n + (d + 1) by omega]
theorem st_best {R : Int → Int} : ∀ k : Nat, 1 ≤ k → (∀ f : Nat, 0 ≤ R (10 * f)) → ∃ i : Nat, i < k ∧ q_it (f_st R) k (0, -1) = (10 * (i : Int), R (10 * i)) ∧ (∀ f : Nat, f < k → R (10 * f) ≤ R (10 * i)) ∧ ∀ f : Nat, f < i → R (10 * f) < R (10 * i)
  | 0, h, _ => absurd h (by omega)
  | k + 1, _, h0 => by
    rw [q_its]
    by_cases c : k = 0
    · subst c
      refine ⟨0, by omega, ?_, fun f hf => ?_, fun f hf => absurd hf (by omega)⟩
      · have := h0 0
        show f_st R 0 (0, -1) = _
        unfold f_st
        rw [if_pos (by dsimp only; omega)]
      · have e : f = 0 := by omega
        rw [e]; exact Int.le_refl _
    · obtain ⟨i, h1, h2, h3, h4⟩ := st_best k (by omega) h0
      rw [h2]
      unfold f_st
      dsimp only
      by_cases d : R (10 * (i : Int)) < R (10 * (k : Int))
      · refine ⟨k, by omega, if_pos d, fun f hf => ?_, fun f hf => ?_⟩
        · by_cases e : f = k
          · rw [e]; exact Int.le_refl _
          · have := h3 f (by omega); omega
        · have := h3 f hf; omega
      · refine ⟨i, by omega, if_neg d, fun f hf => ?_, h4⟩
        by_cases e : f = k
        · rw [e]; omega
        · exact h3 f (by omega)
theorem sum_0 : 0 ≤ q_sum P n k ∧ q_sum P n k ≤ 3 * n := by
  unfold q_sum
  exact q_it_inv (f := fun i c => c + q_cold (q_wet P (P 8 + k + i))) (Z := fun n x => 0 ≤ x ∧ x ≤ 3 * (n : Int)) (N := n) (x := 0) (fun j x hj hx => by have := q_cold_w (w := q_wet P (P 8 + k + j)); omega) ⟨Int.le_refl _, by omega⟩ n (Nat.le_refl n)
/-- the water that is missing -/
theorem miss_v (ok : q_ok H 8 P) : ∃ i : Nat, i < 100 ∧ (f_fo (f_R m P) 100 0 (0, -1)).1 = 10 * (i : Int) ∧ (∀ f : Nat, f < 100 → f_R m P (10 * f) ≤ f_R m P (10 * i)) ∧ ∀ f : Nat, f < i → f_R m P (10 * f) < f_R m P (10 * i) := by
  have h0 : ∀ f : Nat, f < 100 → 0 ≤ f_R m P (10 * f) := fun f hf => (rds_w (y_hrs_ok (q_fill_ok (ok_9 ok) (by omega) (u := 10 * (f : Int)) (by omega)) m).1).1
  have h1 : ∀ f : Nat, 0 ≤ f_R m P (10 * f) := fun f => by
    unfold f_R q_rds
    exact (q_it_inv (f := fun s c => c + q_b (q_rd (y_hrs m (q_fill P (10 * (f : Int)))) s)) (Z := fun _ x => (0 : Int) ≤ x) (N := (y_hrs m (q_fill P (10 * (f : Int))) 4).toNat) (x := 0) (fun j x hj hx => by
      have := q_bw (c := q_rd (y_hrs m (q_fill P (10 * (f : Int)))) j)
      omega) (Int.le_refl _) _ (Nat.le_refl _))
  obtain ⟨i, q1, q2, q3, q4⟩ := st_best (R := f_R m P) 100 (by omega) h1
  have e : f_fo (f_R m P) 100 0 (0, -1) = q_it (f_st (f_R m P)) 100 (0, -1) := fo_it 100 0 (0, -1)
  exact ⟨i, q1, by rw [e, q2], q3, q4⟩
/-- hours from the first one -/
theorem hrs_1 : ∀ n, y_hrs (n + 1) P = y_hrs n (y_hr P)
  | 0 => rfl
  | n + 1 => by rw [y_hrs_s, hrs_1 n, ← y_hrs_s]
/-- ready after -/
theorem ra_v : ∀ (f : Nat) (c : Int) (P : Nat → Int), (y_ra s f c P = -9999 ∧ ∀ t, t < f → ¬ q_rd (y_hrs t P) s) ∨ ∃ t : Nat, t < f ∧ y_ra s f c P = c + t ∧ q_rd (y_hrs t P) s ∧ ∀ i, i < t → ¬ q_rd (y_hrs i P) s
  | 0, _, _ => Or.inl ⟨rfl, fun t ht => absurd ht (by omega)⟩
  | f + 1, c, P => by
    show ((if q_rd P s then c else y_ra s f (c + 1) (y_hr P)) = -9999 ∧ _) ∨ ∃ t : Nat, _ ∧ (if q_rd P s then c else y_ra s f (c + 1) (y_hr P)) = _ ∧ _
    by_cases d : q_rd P s
    · rw [if_pos d]
      exact Or.inr ⟨0, by omega, by omega, d, fun i hi => absurd hi (by omega)⟩
    · rw [if_neg d]
      have nx : ∀ i, (i = 0 ∨ ¬ q_rd (y_hrs (i - 1) (y_hr P)) s) → ¬ q_rd (y_hrs i P) s := fun i hi => by
        cases i with
        | zero => exact d
        | succ i =>
          rw [hrs_1]
          rcases hi with hi | hi
          · exact absurd hi (by omega)
          · exact hi
      rcases ra_v f (c + 1) (y_hr P) with ⟨h1, h2⟩ | ⟨t, h1, h2, h3, h4⟩
      · refine Or.inl ⟨h1, fun t ht => nx t ?_⟩
        by_cases e : t = 0
        · exact Or.inl e
        · exact Or.inr (h2 (t - 1) (by omega))
      · refine Or.inr ⟨t + 1, by omega, by rw [h2]; omega, by rw [hrs_1]; exact h3, fun i hi => nx i ?_⟩
        by_cases e : i = 0
        · exact Or.inl e
        · exact Or.inr (h4 (i - 1) (by omega))
/-- the best place for one more gun -/
def y_w (z : Int) (m : Nat) (P : Nat → Int) (s : Nat) : Int := 100000 * q_rds (y_hrs m (q_putg P s z)) + q_snow (y_hrs m (q_putg P s z))
theorem place_v (ok : q_ok H 8 P) (hz : 0 ≤ z ∧ z ≤ 3) : ∀ k : Nat, 1 ≤ k → (k : Int) ≤ P 4 → ∃ i : Nat, i < k ∧ q_it (y_bs z m P) k (-9999, -1, -1) = ((i : Int), q_rds (y_hrs m (q_putg P i z)), q_snow (y_hrs m (q_putg P i z))) ∧ ∀ f : Nat, f < k → y_w z m P f < y_w z m P i ∨ (y_w z m P f = y_w z m P i ∧ i ≤ f)
  | 0, h, _ => absurd h (by omega)
  | k + 1, _, hk => by
    have a4 := ok.1.2.2.2.2.1
    have a5 := ok.1.2.2.2.2.2.1
    have B : ∀ f : Nat, (f : Int) < P 4 → (0 ≤ q_rds (y_hrs m (q_putg P f z)) ∧ q_rds (y_hrs m (q_putg P f z)) ≤ 6) ∧ (0 ≤ q_snow (y_hrs m (q_putg P f z)) ∧ q_snow (y_hrs m (q_putg P f z)) ≤ 5994) := fun f hf => by
      have o1 := (y_hrs_ok (putg_ok (G1 := 9) (b := f) (r := z) ok (by omega) (by omega) (by omega) hz) m).1
      have r1 := rds_w o1
      have a := o1.1.2.2.2.2.1
      exact ⟨by omega, snow_w o1⟩
    rw [q_its]
    have bk := B k (by omega)
    by_cases c : k = 0
    · subst c
      refine ⟨0, by omega, ?_, fun f hf => ?_⟩
      · show y_bs z m P 0 (-9999, -1, -1) = _
        unfold y_bs
        rw [if_pos (Or.inl (by dsimp only; omega))]
      · have e : f = 0 := by omega
        rw [e]; exact Or.inr ⟨rfl, Nat.le_refl _⟩
    · obtain ⟨i, h1, h2, h3⟩ := place_v ok hz k (by omega) (by omega)
      have bi := B i (by omega)
      rw [h2]
      unfold y_bs
      dsimp only
      by_cases d : q_rds (y_hrs m (q_putg P i z)) < q_rds (y_hrs m (q_putg P k z)) ∨ (q_rds (y_hrs m (q_putg P k z)) = q_rds (y_hrs m (q_putg P i z)) ∧ q_snow (y_hrs m (q_putg P i z)) < q_snow (y_hrs m (q_putg P k z)))
      · have lt : y_w z m P i < y_w z m P k := by unfold y_w; omega
        refine ⟨k, by omega, if_pos d, fun f hf => ?_⟩
        by_cases e : f = k
        · rw [e]; exact Or.inr ⟨rfl, Nat.le_refl _⟩
        · rcases h3 f (by omega) with q | q <;> exact Or.inl (by omega)
      · have ge : y_w z m P k ≤ y_w z m P i := by unfold y_w; omega
        refine ⟨i, by omega, if_neg d, fun f hf => ?_⟩
        by_cases e : f = k
        · rw [e]
          by_cases q : y_w z m P k < y_w z m P i
          · exact Or.inl q
          · exact Or.inr ⟨by omega, by omega⟩
        · exact h3 f (by omega)
end Z58
