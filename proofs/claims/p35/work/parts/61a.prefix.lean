/-! THE TEXT TOLD: prefixes, and where the class sees their end -/
def p_A (sg : Int → Int) (r : Int) : Prop := sg 0 = 80 ∧ (∀ i : Int, 1 ≤ i → i ≤ 7 → 48 ≤ sg i ∧ sg i ≤ 57) ∧ ((48 ≤ sg 8 ∧ sg 8 ≤ 52 ∧ 48 ≤ sg 9 ∧ sg 9 ≤ 57) ∨ (sg 8 = 53 ∧ sg 9 = 48)) ∧ (sg 3 - 48) * 1000 + (sg (3 + 1) - 48) * 100 + (sg (3 + 2) - 48) * 10 + (sg (3 + 3) - 48) = r
def p_s (sg : Int → Int) (a : Int) : Prop := sg a = 115 ∧ (49 ≤ sg (a + 1) ∧ sg (a + 1) ≤ 57) ∧ (48 ≤ sg (a + 1 + 1) ∧ sg (a + 1 + 1) ≤ 57) ∧ (48 ≤ sg (a + 1 + 1 + 1) ∧ sg (a + 1 + 1 + 1) ≤ 57) ∧ (48 ≤ sg (a + 1 + 1 + 1 + 1) ∧ sg (a + 1 + 1 + 1 + 1) ≤ 57)
def p_g (sg : Int → Int) (s a : Int) : Prop := sg a = 103 ∧ (48 ≤ sg (a + 1) ∧ sg (a + 1) ≤ 48 + s - 1) ∧ (48 ≤ sg (a + 1 + 1) ∧ sg (a + 1 + 1) ≤ 51)
def p_w (sg : Int → Int) (a : Int) : Prop := (sg a = 43 ∨ sg a = 45) ∧ 48 ≤ sg (a + 1) ∧ sg (a + 1) ≤ 57
def p_B (sg : Int → Int) (a : Int) (n : Nat) : Prop := ∀ k : Nat, k < n → p_s sg (a + 5 * k)
def p_C (sg : Int → Int) (s a : Int) (n : Nat) : Prop := ∀ k : Nat, k < n → p_g sg s (a + 3 * k)
def p_D (sg : Int → Int) (a : Int) (n : Nat) : Prop := ∀ k : Nat, k < n → p_w sg (a + 2 * k)
section Z61a
variable {sg sh : Int → Int} {L : List Int} {a b c d r s u v : Int} {n : Nat}
theorem sg_hi (h : L.length = n) (ha : (n : Int) ≤ a) : y_sg L a = -9999 := by
  unfold y_sg
  rw [if_neg (by omega), List.getElem?_eq_none (by omega)]
theorem sg_lo (h : L.length = n) (ha : a < n) : y_sg (L ++ [u]) a = y_sg L a := by
  unfold y_sg
  by_cases h0 : a < 0
  · rw [if_pos h0, if_pos h0]
  · rw [if_neg h0, if_neg h0, List.getElem?_append_left (by omega)]
theorem sg_at (h : L.length = n) (ha : a = n) : y_sg (L ++ [u]) a = u := by
  unfold y_sg
  have e : a.toNat = L.length := by omega
  rw [if_neg (by omega), e, List.getElem?_append_right (Nat.le_refl _), Nat.sub_self]
  rfl
theorem dg_p : ∀ (d : Nat) (a : Int), (∀ i, a ≤ i → i < a + d → 48 ≤ sg i ∧ sg i ≤ 57) → t_dg sg d a = (1, a + d)
  | 0, a, h => by
    show ((1 : Int), a) = (1, a + ((0 : Nat) : Int))
    rw [show a + ((0 : Nat) : Int) = a by omega]
  | d + 1, a, h => by
    unfold t_dg
    rw [if_pos (h a (by omega) (by omega)), dg_p d (a + 1) (fun i q1 q2 => h i (by omega) (by omega))]
    rw [show a + 1 + (d : Int) = a + ((d + 1 : Nat) : Int) by omega]
theorem dg_q {e : Nat} : ∀ (d : Nat) (a : Int), (∀ i, a ≤ i → i < a + d → 48 ≤ sg i ∧ sg i ≤ 57) → ¬ (48 ≤ sg (a + d) ∧ sg (a + d) ≤ 57) → t_dg sg (e + 1 + d) a = (0, a + d)
  | 0, a, h, h1 => by
    show (if t_in sg a 48 57 then t_dg sg e (a + 1) else (0, a)) = _
    rw [show a + ((0 : Nat) : Int) = a by omega] at h1 ⊢
    rw [if_neg h1]
  | d + 1, a, h, h1 => by
    show (if t_in sg a 48 57 then t_dg sg (e + 1 + d) (a + 1) else (0, a)) = _
    have ea : a + 1 + (d : Int) = a + ((d + 1 : Nat) : Int) := by omega
    rw [if_pos (h a (by omega) (by omega)), dg_q d (a + 1) (fun i q1 q2 => h i (by omega) (by omega)) (by rw [ea]; exact h1), ea]
theorem hd_p (h : p_A sg r) : t_hd sg = (1, 10) := by
  obtain ⟨h0, h1, h2, -⟩ := h
  have e := dg_p (sg := sg) 7 1 (fun i q1 q2 => h1 i q1 (by omega))
  unfold t_hd
  rw [e, if_pos (show t_in sg 0 80 80 by omega)]
  simp only []
  rw [if_neg (by decide), show (1 : Int) + ((7 : Nat) : Int) = 8 from rfl, show (8 : Int) + 1 = 9 from rfl]
  (repeat' split) <;> first | rfl | (exfalso; omega)
theorem hd_3 (h0 : sg 0 = 80) (h1 : 48 ≤ sg 1 ∧ sg 1 ≤ 57) (h2 : 48 ≤ sg 2 ∧ sg 2 ≤ 57) (h3 : sg 3 = -9999) : t_all sg d = (0, 3) := by
  have e : t_dg sg 7 1 = (0, 3) := dg_q (e := 4) (sg := sg) 2 1 (fun i q1 q2 => by
    rcases (show i = 1 ∨ i = 2 by omega) with rfl | rfl
    · exact h1
    · exact h2) (by rw [show (1 : Int) + ((2 : Nat) : Int) = 3 from rfl]; omega)
  have e1 : t_hd sg = (0, 3) := by
    unfold t_hd
    rw [if_pos (show t_in sg 0 80 80 by omega), e, if_pos rfl]
  unfold t_all
  rw [e1, if_pos rfl]
theorem hd_8 (h0 : sg 0 = 80) (h1 : ∀ i : Int, 1 ≤ i → i ≤ 7 → 48 ≤ sg i ∧ sg i ≤ 57) (h3 : sg 8 = -9999) : t_all sg d = (0, 8) := by
  have e := dg_p (sg := sg) 7 1 (fun i q1 q2 => h1 i q1 (by omega))
  have e1 : t_hd sg = (0, 8) := by
    unfold t_hd
    rw [e, if_pos (show t_in sg 0 80 80 by omega)]
    simp only []
    rw [if_neg (by decide), show (1 : Int) + ((7 : Nat) : Int) = 8 from rfl]
    (repeat' split) <;> first | rfl | (exfalso; omega)
  unfold t_all
  rw [e1, if_pos rfl]
theorem s1_p (h : p_s sg a) : t_s1 sg (a + 1) = (1, a + 5) := by
  obtain ⟨-, h1, h2, h3, h4⟩ := h
  unfold t_s1
  rw [if_pos h1, if_pos h2, if_pos h3, if_pos h4, show a + 1 + 1 + 1 + 1 + 1 = a + 5 by omega]
theorem sl_p {f : Nat} : ∀ (k : Nat) (a c : Int), p_B sg a k → t_sl sg (f + k) a c = t_sl sg f (a + 5 * k) (c + k)
  | 0, a, c, h => by rw [show a + 5 * ((0 : Nat) : Int) = a by omega, show c + ((0 : Nat) : Int) = c by omega]; rfl
  | k + 1, a, c, h => by
    have h0 := h 0 (by omega)
    rw [show a + 5 * ((0 : Nat) : Int) = a by omega] at h0
    have hs : p_B sg (a + 5) k := fun i hi => by
      have := h (i + 1) (by omega)
      rw [show a + 5 * ((i + 1 : Nat) : Int) = a + 5 + 5 * (i : Int) by omega] at this
      exact this
    show (if t_in sg a 115 115 then (if (t_s1 sg (a + 1)).1 = 0 then (0, (t_s1 sg (a + 1)).2, c) else t_sl sg (f + k) (t_s1 sg (a + 1)).2 (c + 1)) else (1, a, c)) = _
    rw [if_pos (show t_in sg a 115 115 by have := h0.1; omega), s1_p h0, if_neg (show ¬ ((1 : Int), a + 5).1 = 0 by show ¬ (1 : Int) = 0; omega)]
    show t_sl sg (f + k) (a + 5) (c + 1) = _
    rw [sl_p k (a + 5) (c + 1) hs, show a + 5 + 5 * (k : Int) = a + 5 * ((k + 1 : Nat) : Int) by omega, show c + 1 + (k : Int) = c + ((k + 1 : Nat) : Int) by omega]
theorem sl_z {f : Nat} (h : sg a ≠ 115) : t_sl sg f a c = (1, a, c) := by
  cases f with
  | zero => rfl
  | succ f =>
    show (if t_in sg a 115 115 then _ else (1, a, c)) = _
    rw [if_neg (show ¬ t_in sg a 115 115 by omega)]
theorem g1_p (h : p_g sg s a) : t_g1 sg s (a + 1) = (1, a + 3) := by
  obtain ⟨-, h1, h2⟩ := h
  unfold t_g1
  rw [if_pos h1, if_pos h2, show a + 1 + 1 + 1 = a + 3 by omega]
theorem gn_p {f : Nat} : ∀ (k : Nat) (a c : Int), p_C sg s a k → t_gn sg s (f + k) a c = t_gn sg s f (a + 3 * k) (c + k)
  | 0, a, c, h => by rw [show a + 3 * ((0 : Nat) : Int) = a by omega, show c + ((0 : Nat) : Int) = c by omega]; rfl
  | k + 1, a, c, h => by
    have h0 := h 0 (by omega)
    rw [show a + 3 * ((0 : Nat) : Int) = a by omega] at h0
    have hs : p_C sg s (a + 3) k := fun i hi => by
      have := h (i + 1) (by omega)
      rw [show a + 3 * ((i + 1 : Nat) : Int) = a + 3 + 3 * (i : Int) by omega] at this
      exact this
    show (if t_in sg a 103 103 then (if (t_g1 sg s (a + 1)).1 = 0 then (0, (t_g1 sg s (a + 1)).2, c) else t_gn sg s (f + k) (t_g1 sg s (a + 1)).2 (c + 1)) else (1, a, c)) = _
    rw [if_pos (show t_in sg a 103 103 by have := h0.1; omega), g1_p h0, if_neg (show ¬ ((1 : Int), a + 3).1 = 0 by show ¬ (1 : Int) = 0; omega)]
    show t_gn sg s (f + k) (a + 3) (c + 1) = _
    rw [gn_p k (a + 3) (c + 1) hs, show a + 3 + 3 * (k : Int) = a + 3 * ((k + 1 : Nat) : Int) by omega, show c + 1 + (k : Int) = c + ((k + 1 : Nat) : Int) by omega]
theorem gn_z {f : Nat} (h : sg a ≠ 103) : t_gn sg s f a c = (1, a, c) := by
  cases f with
  | zero => rfl
  | succ f =>
    show (if t_in sg a 103 103 then _ else (1, a, c)) = _
    rw [if_neg (show ¬ t_in sg a 103 103 by omega)]
theorem wt_p {f : Nat} : ∀ (k : Nat) (a c : Int), p_D sg a k → t_wt sg (f + k) a c = t_wt sg f (a + 2 * k) (c + k)
  | 0, a, c, h => by rw [show a + 2 * ((0 : Nat) : Int) = a by omega, show c + ((0 : Nat) : Int) = c by omega]; rfl
  | k + 1, a, c, h => by
    have h0 := h 0 (by omega)
    rw [show a + 2 * ((0 : Nat) : Int) = a by omega] at h0
    have hs : p_D sg (a + 2) k := fun i hi => by
      have := h (i + 1) (by omega)
      rw [show a + 2 * ((i + 1 : Nat) : Int) = a + 2 + 2 * (i : Int) by omega] at this
      exact this
    show (if t_in sg a 43 43 ∨ t_in sg a 45 45 then (if t_in sg (a + 1) 48 57 then t_wt sg (f + k) (a + 1 + 1) (c + 1) else (0, a + 1, c)) else (1, a, c)) = _
    rw [if_pos (show t_in sg a 43 43 ∨ t_in sg a 45 45 by have := h0.1; omega), if_pos h0.2, show a + 1 + 1 = a + 2 by omega, wt_p k (a + 2) (c + 1) hs, show a + 2 + 2 * (k : Int) = a + 2 * ((k + 1 : Nat) : Int) by omega, show c + 1 + (k : Int) = c + ((k + 1 : Nat) : Int) by omega]
theorem wt_z {f : Nat} (h : sg a ≠ 43 ∧ sg a ≠ 45) : t_wt sg f a c = (1, a, c) := by
  cases f with
  | zero => rfl
  | succ f =>
    show (if t_in sg a 43 43 ∨ t_in sg a 45 45 then _ else (1, a, c)) = _
    rw [if_neg (show ¬ (t_in sg a 43 43 ∨ t_in sg a 45 45) by omega)]
/-! the whole reader -/
theorem al_hd (h : p_A sg r) : t_all sg d = if (tt_S sg).1 = 0 ∨ (tt_S sg).2.2 ≤ 0 then (0, (tt_S sg).2.1) else if (tt_G sg).1 = 0 then (0, (tt_G sg).2.1) else if ¬ t_in sg (tt_G sg).2.1 119 119 then (0, (tt_G sg).2.1) else if (tt_T sg).1 = 0 ∨ (tt_T sg).2.2 ≤ 0 then (0, (tt_T sg).2.1) else (q_b ((tt_T sg).2.1 = d), (tt_T sg).2.1) := by
  show (if (t_hd sg).1 = 0 then (0, (t_hd sg).2) else _) = _
  rw [hd_p h, if_neg (show ¬ ((1 : Int), (10 : Int)).1 = 0 by decide)]
theorem al_10 (h : p_A sg r) (h1 : sg 10 = -9999) : t_all sg d = (0, 10) := by
  have e : tt_S sg = (1, 10, 0) := sl_z (by omega)
  rw [al_hd h, e, if_pos (Or.inr (by decide))]
theorem al_13 {k : Nat} (h : p_A sg r) (hb : p_B sg 10 k) (hk : k < 6) (h1 : sg (10 + 5 * (k : Int)) = 115) (h2 : 49 ≤ sg (10 + 5 * (k : Int) + 1) ∧ sg (10 + 5 * (k : Int) + 1) ≤ 57) (h3 : 48 ≤ sg (10 + 5 * (k : Int) + 1 + 1) ∧ sg (10 + 5 * (k : Int) + 1 + 1) ≤ 57) (h4 : sg (10 + 5 * (k : Int) + 1 + 1 + 1) = -9999) : t_all sg d = (0, 13 + 5 * (k : Int)) := by
  obtain ⟨f, hf⟩ : ∃ f, 6 = f + 1 + k := ⟨5 - k, by omega⟩
  have e : tt_S sg = (0, 13 + 5 * (k : Int), (k : Int)) := by
    unfold tt_S
    rw [hf, sl_p k 10 0 hb]
    show (if t_in sg (10 + 5 * (k : Int)) 115 115 then (if (t_s1 sg (10 + 5 * (k : Int) + 1)).1 = 0 then (0, (t_s1 sg (10 + 5 * (k : Int) + 1)).2, 0 + (k : Int)) else _) else _) = _
    have e1 : t_s1 sg (10 + 5 * (k : Int) + 1) = (0, 13 + 5 * (k : Int)) := by
      unfold t_s1
      rw [if_pos h2, if_pos h3, if_neg (show ¬ t_in sg (10 + 5 * (k : Int) + 1 + 1 + 1) 48 57 by omega), show 10 + 5 * (k : Int) + 1 + 1 + 1 = 13 + 5 * (k : Int) by omega]
    rw [if_pos (show t_in sg (10 + 5 * (k : Int)) 115 115 by omega), e1, if_pos rfl, show 0 + (k : Int) = k by omega]
  rw [al_hd h, e, if_pos (Or.inl rfl)]
theorem S_p {k : Nat} (hb : p_B sg 10 k) (hk : k ≤ 6) (h1 : sg (10 + 5 * (k : Int)) ≠ 115) : tt_S sg = (1, 10 + 5 * (k : Int), (k : Int)) := by
  obtain ⟨f, hf⟩ : ∃ f, 6 = f + k := ⟨6 - k, by omega⟩
  unfold tt_S
  rw [hf, sl_p k 10 0 hb, sl_z h1, show 0 + (k : Int) = k by omega]
theorem al_S {k : Nat} (h : p_A sg r) (hb : p_B sg 10 k) (hk : 1 ≤ k ∧ k ≤ 6) (h1 : sg (10 + 5 * (k : Int)) ≠ 115) : t_all sg d = if (tt_G sg).1 = 0 then (0, (tt_G sg).2.1) else if ¬ t_in sg (tt_G sg).2.1 119 119 then (0, (tt_G sg).2.1) else if (tt_T sg).1 = 0 ∨ (tt_T sg).2.2 ≤ 0 then (0, (tt_T sg).2.1) else (q_b ((tt_T sg).2.1 = d), (tt_T sg).2.1) := by
  rw [al_hd h, S_p hb hk.2 h1, if_neg]
  show ¬ ((1 : Int) = 0 ∨ (k : Int) ≤ 0)
  omega
theorem al_15 {k : Nat} (h : p_A sg r) (hb : p_B sg 10 k) (hk : 1 ≤ k ∧ k ≤ 6) (h1 : sg (10 + 5 * (k : Int)) = -9999) : t_all sg d = (0, 10 + 5 * (k : Int)) := by
  have e : tt_G sg = (1, 10 + 5 * (k : Int), 0) := by
    unfold tt_G
    rw [S_p hb hk.2 (by omega)]
    exact gn_z (show sg (10 + 5 * (k : Int)) ≠ 103 by omega)
  rw [al_S h hb hk (by omega), e, if_neg (show ¬ ((1 : Int), (10 + 5 * (k : Int)), (0 : Int)).1 = 0 by show ¬ (1 : Int) = 0; omega), if_pos (show ¬ t_in sg (10 + 5 * (k : Int)) 119 119 by omega)]
theorem al_g {k g : Nat} (h : p_A sg r) (hb : p_B sg 10 k) (hk : 1 ≤ k ∧ k ≤ 6) (h1 : sg (10 + 5 * (k : Int)) ≠ 115) (hc : p_C sg k (10 + 5 * (k : Int)) g) (hg : g < 8) (h2 : sg (10 + 5 * (k : Int) + 3 * (g : Int)) = 103) (h3 : 48 ≤ sg (10 + 5 * (k : Int) + 3 * (g : Int) + 1) ∧ sg (10 + 5 * (k : Int) + 3 * (g : Int) + 1) ≤ 48 + (k : Int) - 1) (h4 : sg (10 + 5 * (k : Int) + 3 * (g : Int) + 1 + 1) = -9999) : t_all sg d = (0, 10 + 5 * (k : Int) + 3 * (g : Int) + 2) := by
  obtain ⟨f, hf⟩ : ∃ f, 8 = f + 1 + g := ⟨7 - g, by omega⟩
  have e : tt_G sg = (0, 10 + 5 * (k : Int) + 3 * (g : Int) + 2, (g : Int)) := by
    unfold tt_G
    rw [S_p hb hk.2 h1, hf]
    show t_gn sg (k : Int) (f + 1 + g) (10 + 5 * (k : Int)) 0 = _
    rw [gn_p g _ 0 hc]
    show (if t_in sg (10 + 5 * (k : Int) + 3 * (g : Int)) 103 103 then (if (t_g1 sg k (10 + 5 * (k : Int) + 3 * (g : Int) + 1)).1 = 0 then (0, (t_g1 sg k (10 + 5 * (k : Int) + 3 * (g : Int) + 1)).2, 0 + (g : Int)) else _) else _) = _
    have e1 : t_g1 sg k (10 + 5 * (k : Int) + 3 * (g : Int) + 1) = (0, 10 + 5 * (k : Int) + 3 * (g : Int) + 2) := by
      unfold t_g1
      rw [if_pos h3, if_neg (show ¬ t_in sg (10 + 5 * (k : Int) + 3 * (g : Int) + 1 + 1) 48 51 by omega), show 10 + 5 * (k : Int) + 3 * (g : Int) + 1 + 1 = 10 + 5 * (k : Int) + 3 * (g : Int) + 2 by omega]
    rw [if_pos (show t_in sg (10 + 5 * (k : Int) + 3 * (g : Int)) 103 103 by omega), e1, if_pos rfl, show 0 + (g : Int) = g by omega]
  rw [al_S h hb hk h1, e, if_pos rfl]
theorem G_p {k g : Nat} (hb : p_B sg 10 k) (hk : 1 ≤ k ∧ k ≤ 6) (h1 : sg (10 + 5 * (k : Int)) ≠ 115) (hc : p_C sg k (10 + 5 * (k : Int)) g) (hg : g ≤ 8) (h2 : sg (10 + 5 * (k : Int) + 3 * (g : Int)) ≠ 103) : tt_G sg = (1, 10 + 5 * (k : Int) + 3 * (g : Int), (g : Int)) := by
  obtain ⟨f, hf⟩ : ∃ f, 8 = f + g := ⟨8 - g, by omega⟩
  unfold tt_G
  rw [S_p hb hk.2 h1, hf]
  show t_gn sg (k : Int) (f + g) (10 + 5 * (k : Int)) 0 = _
  rw [gn_p g _ 0 hc, gn_z h2, show 0 + (g : Int) = g by omega]
theorem al_G {k g : Nat} (h : p_A sg r) (hb : p_B sg 10 k) (hk : 1 ≤ k ∧ k ≤ 6) (h1 : sg (10 + 5 * (k : Int)) ≠ 115) (hc : p_C sg k (10 + 5 * (k : Int)) g) (hg : g ≤ 8) (h2 : sg (10 + 5 * (k : Int) + 3 * (g : Int)) = -9999) : t_all sg d = (0, 10 + 5 * (k : Int) + 3 * (g : Int)) := by
  rw [al_S h hb hk h1, G_p hb hk h1 hc hg (by omega), if_neg (show ¬ (1 : Int) = 0 by omega), if_pos (show ¬ t_in sg (10 + 5 * (k : Int) + 3 * (g : Int)) 119 119 by omega)]
theorem al_W {k g : Nat} (h : p_A sg r) (hb : p_B sg 10 k) (hk : 1 ≤ k ∧ k ≤ 6) (h1 : sg (10 + 5 * (k : Int)) ≠ 115) (hc : p_C sg k (10 + 5 * (k : Int)) g) (hg : g ≤ 8) (h2 : sg (10 + 5 * (k : Int) + 3 * (g : Int)) = 119) : t_all sg d = (if (tt_T sg).1 = 0 ∨ (tt_T sg).2.2 ≤ 0 then (0, (tt_T sg).2.1) else (q_b ((tt_T sg).2.1 = d), (tt_T sg).2.1)) ∧ tt_T sg = t_wt sg 24 (10 + 5 * (k : Int) + 3 * (g : Int) + 1) 0 := by
  have e := G_p hb hk h1 hc hg (show sg (10 + 5 * (k : Int) + 3 * (g : Int)) ≠ 103 by omega)
  constructor
  · rw [al_S h hb hk h1, e, if_neg (show ¬ (1 : Int) = 0 by omega), if_neg (show ¬ ¬ t_in sg (10 + 5 * (k : Int) + 3 * (g : Int)) 119 119 by intro q; apply q; omega)]
  · unfold tt_T
    rw [e]
theorem al_w0 {k g : Nat} (h : p_A sg r) (hb : p_B sg 10 k) (hk : 1 ≤ k ∧ k ≤ 6) (h1 : sg (10 + 5 * (k : Int)) ≠ 115) (hc : p_C sg k (10 + 5 * (k : Int)) g) (hg : g ≤ 8) (h2 : sg (10 + 5 * (k : Int) + 3 * (g : Int)) = 119) (h3 : sg (10 + 5 * (k : Int) + 3 * (g : Int) + 1) = -9999) : t_all sg d = (0, 10 + 5 * (k : Int) + 3 * (g : Int) + 1) := by
  obtain ⟨e1, e2⟩ := al_W (d := d) h hb hk h1 hc hg h2
  rw [wt_z (by omega)] at e2
  rw [e1, e2, if_pos (Or.inr (show (0 : Int) ≤ 0 by omega))]
theorem al_w1 {k g w : Nat} (h : p_A sg r) (hb : p_B sg 10 k) (hk : 1 ≤ k ∧ k ≤ 6) (h1 : sg (10 + 5 * (k : Int)) ≠ 115) (hc : p_C sg k (10 + 5 * (k : Int)) g) (hg : g ≤ 8) (h2 : sg (10 + 5 * (k : Int) + 3 * (g : Int)) = 119) (hd : p_D sg (10 + 5 * (k : Int) + 3 * (g : Int) + 1) w) (hw : w < 24) (h3 : sg (10 + 5 * (k : Int) + 3 * (g : Int) + 1 + 2 * (w : Int)) = 43 ∨ sg (10 + 5 * (k : Int) + 3 * (g : Int) + 1 + 2 * (w : Int)) = 45) (h4 : sg (10 + 5 * (k : Int) + 3 * (g : Int) + 1 + 2 * (w : Int) + 1) = -9999) : t_all sg d = (0, 10 + 5 * (k : Int) + 3 * (g : Int) + 2 + 2 * (w : Int)) := by
  obtain ⟨e1, e2⟩ := al_W (d := d) h hb hk h1 hc hg h2
  obtain ⟨f, hf⟩ : ∃ f, 24 = f + 1 + w := ⟨23 - w, by omega⟩
  rw [hf, wt_p w _ 0 hd] at e2
  have e3 : tt_T sg = (0, 10 + 5 * (k : Int) + 3 * (g : Int) + 2 + 2 * (w : Int), (w : Int)) := by
    rw [e2]
    show (if t_in sg (10 + 5 * (k : Int) + 3 * (g : Int) + 1 + 2 * (w : Int)) 43 43 ∨ t_in sg (10 + 5 * (k : Int) + 3 * (g : Int) + 1 + 2 * (w : Int)) 45 45 then (if t_in sg (10 + 5 * (k : Int) + 3 * (g : Int) + 1 + 2 * (w : Int) + 1) 48 57 then _ else (0, 10 + 5 * (k : Int) + 3 * (g : Int) + 1 + 2 * (w : Int) + 1, 0 + (w : Int))) else _) = _
    rw [if_pos (by omega), if_neg (show ¬ t_in sg (10 + 5 * (k : Int) + 3 * (g : Int) + 1 + 2 * (w : Int) + 1) 48 57 by omega), show 10 + 5 * (k : Int) + 3 * (g : Int) + 1 + 2 * (w : Int) + 1 = 10 + 5 * (k : Int) + 3 * (g : Int) + 2 + 2 * (w : Int) by omega, show 0 + (w : Int) = w by omega]
  rw [e1, e3, if_pos (Or.inl rfl)]
theorem al_wf {k g w : Nat} (h : p_A sg r) (hb : p_B sg 10 k) (hk : 1 ≤ k ∧ k ≤ 6) (h1 : sg (10 + 5 * (k : Int)) ≠ 115) (hc : p_C sg k (10 + 5 * (k : Int)) g) (hg : g ≤ 8) (h2 : sg (10 + 5 * (k : Int) + 3 * (g : Int)) = 119) (hd : p_D sg (10 + 5 * (k : Int) + 3 * (g : Int) + 1) w) (hw : 1 ≤ w ∧ w ≤ 24) (h3 : sg (10 + 5 * (k : Int) + 3 * (g : Int) + 1 + 2 * (w : Int)) ≠ 43 ∧ sg (10 + 5 * (k : Int) + 3 * (g : Int) + 1 + 2 * (w : Int)) ≠ 45) : t_all sg d = (q_b (10 + 5 * (k : Int) + 3 * (g : Int) + 1 + 2 * (w : Int) = d), 10 + 5 * (k : Int) + 3 * (g : Int) + 1 + 2 * (w : Int)) ∧ (tt_T sg).2.2 = w := by
  obtain ⟨e1, e2⟩ := al_W (d := d) h hb hk h1 hc hg h2
  obtain ⟨f, hf⟩ : ∃ f, 24 = f + w := ⟨24 - w, by omega⟩
  rw [hf, wt_p w _ 0 hd, wt_z h3, show 0 + (w : Int) = w by omega] at e2
  rw [e1, e2, if_neg (show ¬ ((1 : Int) = 0 ∨ (w : Int) ≤ 0) by omega)]
  exact ⟨rfl, rfl⟩
/-! what a longer text keeps -/
theorem pA_k (q : ∀ i : Int, i < 10 → sh i = sg i) (h : p_A sg r) : p_A sh r := by
  obtain ⟨h0, h1, h2, h3⟩ := h
  refine ⟨by rw [q 0 (by omega)]; exact h0, fun i i1 i2 => by rw [q i (by omega)]; exact h1 i i1 i2, by rw [q 8 (by omega), q 9 (by omega)]; exact h2, ?_⟩
  rw [q 3 (by omega), q (3 + 1) (by omega), q (3 + 2) (by omega), q (3 + 3) (by omega)]
  exact h3
theorem pB_k {m : Nat} (q : ∀ i : Int, i < m → sh i = sg i) (hm : a + 5 * n ≤ m) (h : p_B sg a n) : p_B sh a n := fun k hk => by
  obtain ⟨h0, h1, h2, h3, h4⟩ := h k hk
  unfold p_s
  rw [q (a + 5 * (k : Int)) (by omega), q (a + 5 * (k : Int) + 1) (by omega), q (a + 5 * (k : Int) + 1 + 1) (by omega), q (a + 5 * (k : Int) + 1 + 1 + 1) (by omega), q (a + 5 * (k : Int) + 1 + 1 + 1 + 1) (by omega)]
  exact ⟨h0, h1, h2, h3, h4⟩
theorem pC_k {m : Nat} (q : ∀ i : Int, i < m → sh i = sg i) (hm : a + 3 * n ≤ m) (h : p_C sg s a n) : p_C sh s a n := fun k hk => by
  obtain ⟨h0, h1, h2⟩ := h k hk
  unfold p_g
  rw [q (a + 3 * (k : Int)) (by omega), q (a + 3 * (k : Int) + 1) (by omega), q (a + 3 * (k : Int) + 1 + 1) (by omega)]
  exact ⟨h0, h1, h2⟩
theorem pD_k {m : Nat} (q : ∀ i : Int, i < m → sh i = sg i) (hm : a + 2 * n ≤ m) (h : p_D sg a n) : p_D sh a n := fun k hk => by
  obtain ⟨h0, h1⟩ := h k hk
  unfold p_w
  rw [q (a + 2 * (k : Int)) (by omega), q (a + 2 * (k : Int) + 1) (by omega)]
  exact ⟨h0, h1⟩
theorem pB_s (h : p_B sg a n) (h1 : p_s sg (a + 5 * n)) : p_B sg a (n + 1) := fun k hk => by
  by_cases e : k = n
  · rw [e]; exact h1
  · exact h k (by omega)
theorem pC_s (h : p_C sg s a n) (h1 : p_g sg s (a + 3 * n)) : p_C sg s a (n + 1) := fun k hk => by
  by_cases e : k = n
  · rw [e]; exact h1
  · exact h k (by omega)
theorem pD_s (h : p_D sg a n) (h1 : p_w sg (a + 2 * n)) : p_D sg a (n + 1) := fun k hk => by
  by_cases e : k = n
  · rw [e]; exact h1
  · exact h k (by omega)
end Z61a
