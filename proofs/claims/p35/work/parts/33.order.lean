/-! THE ORDER: the class's sorted keys and the model's counts tell the same -/
def c_n (f : Nat → Int) (n : Nat) (y : Int) : Int := q_it (fun i c => c + q_b (f i < y)) n 0
section Z33
variable {f g K : Nat → Int} {n a : Nat} {x y : Int}
theorem c_s : c_n f (n + 1) y = c_n f n y + q_b (f n < y) := rfl
theorem c_congr : ∀ n, (∀ i, i < n → f i = g i) → c_n f n y = c_n g n y
  | 0, _ => rfl
  | n + 1, h => by rw [c_s, c_s, c_congr n (fun i hi => h i (by omega)), h n (by omega)]
theorem c_swap (h : ∀ i, i ≠ a → i ≠ a + 1 → f i = g i) (h1 : f a = g (a + 1)) (h2 : f (a + 1) = g a) : ∀ n, (n ≤ a ∨ a + 2 ≤ n) → c_n f n y = c_n g n y
  | 0, _ => rfl
  | n + 1, hn => by
    by_cases e : n = a + 1
    · subst e
      rw [c_s, c_s, c_s, c_s, h1, h2, c_congr a (fun i hi => h i (by omega) (by omega))]
      omega
    · rw [c_s, c_s, c_swap h h1 h2 n (by omega), h n (by omega) e]
theorem c_ins : ∀ (a : Nat) (K : Nat → Int), a < n → c_n (q_ins x a K) n y = c_n (q_pu K a x) n y
  | 0, K, _ => rfl
  | a + 1, K, h => by
    unfold q_ins
    split
    · rfl
    · rw [c_ins a _ (by omega)]
      refine c_swap (a := a) (fun i h1 h2 => ?_) ?_ ?_ n (Or.inr (by omega))
      · rw [q_pn h1, q_pn h2, q_pn h2]
      · rw [q_pe, q_pe]
      · rw [q_pn (by omega), q_pe, q_pn (by omega)]
def q_so (f : Nat → Int) (n : Nat) : Prop := ∀ i j, i < j → j < n → f i < f j
theorem so_ins {m : Nat} : ∀ (a : Nat) (K : Nat → Int), a ≤ m → (∀ i j, i < j → j ≤ m → i ≠ a → j ≠ a → K i < K j) → (∀ j, a < j → j ≤ m → x < K j) → (∀ i, i ≤ m → i ≠ a → K i ≠ x) → q_so (q_ins x a K) (m + 1)
  | 0, K, _, h1, h2, _ => by
    intro i j hij hj
    unfold q_ins
    rw [q_pn (i := j) (by omega)]
    by_cases e : i = 0
    · subst e; rw [q_pe]; exact h2 j (by omega) (by omega)
    · rw [q_pn e]; exact h1 i j hij (by omega) e (by omega)
  | a + 1, K, ha, h1, h2, h3 => by
    unfold q_ins
    split
    · rename_i hc
      have h4 := h3 a (by omega) (by omega)
      intro i j hij hj
      by_cases e : i = a + 1
      · subst e; rw [q_pe, q_pn (by omega)]; exact h2 j (by omega) (by omega)
      · rw [q_pn e]
        by_cases e1 : j = a + 1
        · subst e1; rw [q_pe]
          by_cases e2 : i = a
          · subst e2; omega
          · have := h1 i a (by omega) (by omega) e (by omega); omega
        · rw [q_pn e1]; exact h1 i j hij (by omega) e e1
    · rename_i hc
      refine so_ins a _ (by omega) (fun i j hij hj hi hja => ?_) (fun j hj hjm => ?_) (fun i hi hia => ?_)
      · by_cases e : i = a + 1
        · subst e; rw [q_pe, q_pn (by omega)]; exact h1 a j (by omega) hj (by omega) (by omega)
        · rw [q_pn e]
          by_cases e1 : j = a + 1
          · subst e1; rw [q_pe]; exact h1 i a (by omega) (by omega) e (by omega)
          · rw [q_pn e1]; exact h1 i j hij hj e e1
      · by_cases e : j = a + 1
        · subst e; rw [q_pe]; omega
        · rw [q_pn e]; exact h2 j (by omega) hjm
      · by_cases e : i = a + 1
        · subst e; rw [q_pe]; exact h3 a (by omega) (by omega)
        · rw [q_pn e]; exact h3 i hi e
theorem c_so (h : q_so f n) {i : Nat} (hi : i < n) : ∀ m, m ≤ n → c_n f m (f i) = if m ≤ i then m else i
  | 0, _ => by rw [if_pos (by omega)]; rfl
  | m + 1, hm => by
    rw [c_s, c_so h hi m (by omega)]
    by_cases e : m < i
    · rw [q_bt (h m i e hi), if_pos (by omega), if_pos (by omega)]; omega
    · have hf : ¬ f m < f i := by
        by_cases e1 : m = i
        · subst e1; omega
        · have h1 := h i m (by omega) (by omega)
          omega
      rw [q_bf hf, if_neg (c := m + 1 ≤ i) (by omega)]
      by_cases e1 : m ≤ i
      · rw [if_pos e1]; omega
      · rw [if_neg e1]; omega
theorem c_mono (h : x ≤ y) : ∀ n, c_n f n x ≤ c_n f n y
  | 0 => Int.le_refl _
  | n + 1 => by
    rw [c_s, c_s]
    have h1 := c_mono h n
    have h2 := q_bw (c := f n < x)
    have h3 := q_bw (c := f n < y)
    by_cases e : f n < x
    · rw [q_bt e, q_bt (by omega)]; omega
    · rw [q_bf e]; omega
theorem c_strict (h : x ≤ y) {g : Nat} (hg : x ≤ f g ∧ f g < y) : ∀ n, g < n → c_n f n x < c_n f n y
  | 0, h => absurd h (by omega)
  | n + 1, hn => by
    rw [c_s, c_s]
    by_cases e : g = n
    · subst e
      rw [q_bf (by omega), q_bt hg.2]
      have := c_mono (f := f) h g
      omega
    · have h1 := c_strict h hg n (by omega)
      have h2 := q_bw (c := f n < x)
      have h3 := q_bw (c := f n < y)
      by_cases e : f n < x
      · rw [q_bt e, q_bt (by omega)]; omega
      · rw [q_bf e]; omega
section
variable {P O : Nat → Int} {H : Int}
theorem q_key_ne {g h : Nat} (hg : g < 9) (hh : h < 9) (e : g ≠ h) : q_key P g ≠ q_key P h := by
  intro q
  have h1 := q_key_9 (P := P) hg
  have h2 := q_key_9 (P := P) hh
  rw [q] at h1
  omega
theorem keys_so : ∀ n, n ≤ 9 → q_so (q_it (fun g K => q_ins (q_key P g) g K) n K) n
  | 0, _ => fun i j _ hj => absurd hj (by omega)
  | n + 1, hn => by
    have ih := keys_so n (by omega)
    refine so_ins n _ (Nat.le_refl n) (fun i j hij hj hi hjn => ih i j hij (by omega)) (fun j hj hjm => absurd hj (by omega)) (fun i hi hin => ?_)
    obtain ⟨g, h1, h2⟩ := q_keys_of (P := P) (K := K) n i (by omega)
    rw [h2]
    exact q_key_ne (by omega) (by omega) (by omega)
theorem keys_c : ∀ n, c_n (q_it (fun g K => q_ins (q_key P g) g K) n K) n y = c_n (q_key P) n y
  | 0 => rfl
  | n + 1 => by
    rw [q_its, c_ins n _ (by omega), c_s, c_s, q_pe, ← keys_c n, c_congr n (fun i hi => q_pn (by omega))]
/-- the gun at a place of the order -/
theorem q_ord (h : q_ok H 9 P) {i : Nat} (hi : (i : Int) < P 5) : ∃ g : Nat, (g : Int) < P 5 ∧ q_keys P K i = q_key P g ∧ q_rk P g = i := by
  have a5 := h.1.2.2.2.2.2.1
  obtain ⟨g, h1, h2⟩ := q_keys_of (P := P) (K := K) (P 5).toNat i (by omega)
  refine ⟨g, by omega, h2, ?_⟩
  have h3 : q_rk P g = c_n (q_key P) (P 5).toNat (q_key P g) := rfl
  rw [h3, ← keys_c (K := K), ← h2, c_so (keys_so _ (by omega)) (by omega) _ (Nat.le_refl _), if_neg (by omega)]
theorem q_rk_inj {g h : Nat} (hg : (g : Int) < P 5) (hh : (h : Int) < P 5) (h9 : P 5 ≤ 9) (e : q_rk P g = q_rk P h) : g = h := by
  have h3 : ∀ g, q_rk P g = c_n (q_key P) (P 5).toNat (q_key P g) := fun _ => rfl
  rw [h3, h3] at e
  by_cases c : g = h
  · exact c
  · have hk := q_key_ne (P := P) (g := g) (h := h) (by omega) (by omega) c
    by_cases c1 : q_key P g < q_key P h
    · have := c_strict (f := q_key P) (Int.le_of_lt c1) (g := g) ⟨Int.le_refl _, c1⟩ (P 5).toNat (by omega)
      omega
    · have := c_strict (f := q_key P) (x := q_key P h) (y := q_key P g) (by omega) (g := h) ⟨Int.le_refl _, by omega⟩ (P 5).toNat (by omega)
      omega
theorem q_lay_of {i : Nat} : ∀ n : Nat, (∃ g, g < n ∧ q_rk P g = (i : Int)) → ∃ g, g < n ∧ q_it (fun g O => q_pu O (q_rk P g).toNat g) n O i = (g : Int) ∧ q_rk P g = (i : Int)
  | 0, ⟨g, hg, _⟩ => absurd hg (by omega)
  | n + 1, ⟨g, hg, hgr⟩ => by
    by_cases e : q_rk P n = (i : Int)
    · refine ⟨n, by omega, ?_, e⟩
      rw [q_its, e, Int.toNat_natCast, q_pe]
    · have hgn : g ≠ n := fun q => e (by rw [← q]; exact hgr)
      obtain ⟨g1, h1, h2, h3⟩ := q_lay_of n ⟨g, by omega, hgr⟩
      refine ⟨g1, by omega, ?_, h3⟩
      have h0 : 0 ≤ q_rk P n := (q_rk_w (P := P) (g := n) (P 5).toNat).1
      rw [q_its, q_pn (by omega), h2]
/-- both orders -/
theorem q_ord_eq (h : q_ok H 9 P) {i : Nat} (hi : (i : Int) < P 5) : (0 ≤ q_lay P O i ∧ q_lay P O i < P 5) ∧ q_ordC (q_keys P K) i = (q_lay P O i).toNat := by
  have a5 := h.1.2.2.2.2.2.1
  obtain ⟨g, h1, h2, h3⟩ := q_ord (K := K) h hi
  obtain ⟨g1, h4, h5, h6⟩ := q_lay_of (P := P) (O := O) (i := i) (P 5).toNat ⟨g, by omega, h3⟩
  have h7 : q_lay P O i = (g1 : Int) := h5
  have h8 := q_rk_inj (P := P) (g := g) (h := g1) h1 (by omega) a5.2 (by rw [h3, h6])
  have h9 := q_key_9 (P := P) (g := g) (by omega)
  unfold q_ordC
  rw [h2, h9, h7]
  exact ⟨by omega, by omega⟩
end
end Z33
