/-! THE TEXT: what the class fills and what the model has read are the same -/
def m_s (A : Nat → Int) (d1 d2 d3 : Int) : Nat → Int := q_pu (q_pu (q_pu (q_pu A (15 + 4 * (A 4).toNat) d1) (15 + 4 * (A 4).toNat + 1) d2) (15 + 4 * (A 4).toNat + 2) d3) 4 (A 4 + 1)
def m_g (A : Nat → Int) (d1 d2 : Int) : Nat → Int := q_pu (q_pu (q_pu (q_pu A (39 + 6 * (A 5).toNat) d1) (39 + 6 * (A 5).toNat + 1) d2) (39 + 6 * (A 5).toNat + 2) 1) 5 (A 5 + 1)
def m_sd (sg : Int → Int) (a : Int) (A : Nat → Int) : Nat → Int := m_s A (sg a - 48) (sg (a + 1) - 48) ((sg (a + 1 + 1) - 48) * 10 + (sg (a + 1 + 1 + 1) - 48))
def m_gd (sg : Int → Int) (a : Int) (A : Nat → Int) : Nat → Int := m_g A (sg a - 48) (sg (a + 1) - 48)
def m_v (sg : Int → Int) (a : Int) : Int := if sg a = 45 then -(sg (a + 1) - 48) else sg (a + 1) - 48
def m_sp (sg : Int → Int) : Nat → Int → (Nat → Int) → (Nat → Int)
  | 0, _, A => A
  | f + 1, a, A => if t_in sg a 115 115 then (if (t_s1 sg (a + 1)).1 = 0 then A else m_sp sg f (t_s1 sg (a + 1)).2 (m_sd sg (a + 1) A)) else A
def m_gp (sg : Int → Int) (s : Int) : Nat → Int → (Nat → Int) → (Nat → Int)
  | 0, _, A => A
  | f + 1, a, A => if t_in sg a 103 103 then (if (t_g1 sg s (a + 1)).1 = 0 then A else m_gp sg s f (t_g1 sg s (a + 1)).2 (m_gd sg (a + 1) A)) else A
def m_wp (sg : Int → Int) : Nat → Int → (Nat → Int) → (Nat → Int)
  | 0, _, A => A
  | f + 1, a, A => if t_in sg a 43 43 ∨ t_in sg a 45 45 then (if t_in sg (a + 1) 48 57 then m_wp sg f (a + 1 + 1) (q_putw A (m_v sg a)) else A) else A
/-- what a part of the model's reader needs -/
def m_z (R : Nat → Int) : Nat → Int := fun j => if j < 157 then 0 else R j
def m_b (R : Nat → Int) (p c i l : Int) : Nat → Int := q_pu (q_pu (q_pu (q_pu (q_pu (q_pu (m_z R) 0 p) 1 c) 2 i) 3 l) 7 c) 9 c
def m_0 (sg : Int → Int) (R : Nat → Int) : Nat → Int := m_b R ((sg 1 - 48) * 10 + (sg 2 - 48)) ((sg 3 - 48) * 1000 + (sg 4 - 48) * 100 + (sg 5 - 48) * 10 + (sg 6 - 48)) (sg 7 - 48) ((sg 8 - 48) * 10 + (sg 9 - 48))
def m_all (sg : Int → Int) (R : Nat → Int) : Nat → Int := m_wp sg 24 ((tt_G sg).2.1 + 1) (m_gp sg (tt_S sg).2.2 8 (tt_S sg).2.1 (m_sp sg 6 10 (m_0 sg R)))
section Z42
variable {P A R : Nat → Int} {sg : Int → Int} {a s c : Int}
theorem t_nm1 : t_nm sg a 1 = sg a - 48 := by
  show 0 * 10 + sg (a + ((0 : Nat) : Int)) - 48 = _
  rw [show a + ((0 : Nat) : Int) = a by omega]; omega
theorem t_nm2 : t_nm sg a 2 = (sg a - 48) * 10 + (sg (a + 1) - 48) := by
  show t_nm sg a 1 * 10 + sg (a + ((1 : Nat) : Int)) - 48 = _
  rw [t_nm1, show a + ((1 : Nat) : Int) = a + 1 by omega]; omega
theorem t_nm4 : t_nm sg a 4 = (sg a - 48) * 1000 + (sg (a + 1) - 48) * 100 + (sg (a + 2) - 48) * 10 + (sg (a + 3) - 48) := by
  show (t_nm sg a 2 * 10 + sg (a + ((2 : Nat) : Int)) - 48) * 10 + sg (a + ((3 : Nat) : Int)) - 48 = _
  rw [t_nm2, show a + ((2 : Nat) : Int) = a + 2 by omega, show a + ((3 : Nat) : Int) = a + 3 by omega]; omega
theorem q_it_sh {α : Type} {f : Nat → α → α} : ∀ (n : Nat) (x : α), q_it f (n + 1) x = q_it (fun i => f (i + 1)) n (f 0 x)
  | 0, _ => rfl
  | n + 1, x => by rw [q_its, q_it_sh n x, q_its]
/-- rows put alike on both pages -/
theorem sl_puts {b r t : Int} (h : q_sl P A) (h4 : 0 ≤ P 4 ∧ P 4 < 6) : q_sl (q_puts P b r t) (q_puts A b r t) := by
  have e4 := sl_lt h (j := 4) (by omega)
  intro j hj
  unfold q_lv at hj
  rw [puts_4, puts_o (by omega) (by omega), puts_o (by omega) (by omega)] at hj
  unfold q_puts
  rw [← e4]
  simp only [q_pu, if_true]
  (repeat' split) <;> first | rfl | (exfalso; omega) | (exact h j (by unfold q_lv; omega))
theorem sl_putg {b r : Int} (h : q_sl P A) (h5 : 0 ≤ P 5 ∧ P 5 < 9) : q_sl (q_putg P b r) (q_putg A b r) := by
  have e5 := sl_lt h (j := 5) (by omega)
  intro j hj
  unfold q_lv at hj
  rw [putg_5, putg_o (by omega) (by omega)] at hj
  have hj6 : q_putg P b r 6 = P 6 := putg_o (by omega) (by omega)
  rw [hj6] at hj
  unfold q_putg
  rw [← e5]
  simp only [q_pu, if_true]
  (repeat' split) <;> first | rfl | (exfalso; omega) | (exact h j (by unfold q_lv; omega))
theorem sl_putw {b : Int} (h : q_sl P A) (h6 : 0 ≤ P 6 ∧ P 6 < 24) : q_sl (q_putw P b) (q_putw A b) := by
  have e6 := sl_lt h (j := 6) (by omega)
  intro j hj
  unfold q_lv at hj
  rw [putw_6, putw_o (by omega) (by omega), putw_o (by omega) (by omega)] at hj
  unfold q_putw
  rw [← e6]
  simp only [q_pu, if_true]
  (repeat' split) <;> first | rfl | (exfalso; omega) | (exact h j (by unfold q_lv; omega))
theorem sl_begin {p c i l : Int} : q_sl (q_begin P p c i l) (m_b R p c i l) := by
  obtain ⟨b4, b5, b6⟩ := begin_v (P := P) (p := p) (c := c) (i := i) (l := l)
  intro j hj
  unfold q_lv at hj
  rw [b4, b5, b6] at hj
  have hj1 : j < 15 := by omega
  have : j = 0 ∨ j = 1 ∨ j = 2 ∨ j = 3 ∨ j = 4 ∨ j = 5 ∨ j = 6 ∨ j = 7 ∨ j = 8 ∨ j = 9 ∨ j = 10 ∨ j = 11 ∨ j = 12 ∨ j = 13 ∨ j = 14 := by omega
  unfold q_begin m_b m_z
  rcases this with rfl | rfl | rfl | rfl | rfl | rfl | rfl | rfl | rfl | rfl | rfl | rfl | rfl | rfl | rfl <;> simp [q_pu]
/-- what the text has told so far: settings, slopes, guns, temperatures in range; nothing else on the model's page -/
def f_z (n g w : Nat) (P A : Nat → Int) : Prop := q_sl P A ∧ (P 4 = n ∧ P 5 = g ∧ P 6 = w) ∧ ((0 ≤ P 0 ∧ P 0 ≤ 99) ∧ (0 ≤ P 1 ∧ P 1 ≤ 9999) ∧ (0 ≤ P 2 ∧ P 2 ≤ 9) ∧ (0 ≤ P 3 ∧ P 3 ≤ 50) ∧ P 7 = P 1 ∧ P 8 = 0 ∧ P 14 = 0) ∧ (∀ j, j < 157 → (15 + 4 * n ≤ j ∧ j < 39) ∨ 39 + 6 * g ≤ j → (j < 93 ∨ 93 + w ≤ j) → A j = 0) ∧
  (∀ s : Nat, s < n → (1 ≤ P (15 + 4 * s) ∧ P (15 + 4 * s) ≤ 9) ∧ (0 ≤ P (15 + 4 * s + 1) ∧ P (15 + 4 * s + 1) ≤ 9) ∧ (0 ≤ P (15 + 4 * s + 2) ∧ P (15 + 4 * s + 2) ≤ 99) ∧ (0 ≤ P (15 + 4 * s + 3) ∧ P (15 + 4 * s + 3) ≤ 999)) ∧
  (∀ i : Nat, i < g → (0 ≤ P (39 + 6 * i) ∧ P (39 + 6 * i) < P 4) ∧ (0 ≤ P (39 + 6 * i + 1) ∧ P (39 + 6 * i + 1) ≤ 3) ∧ (0 ≤ P (39 + 6 * i + 2) ∧ P (39 + 6 * i + 2) ≤ 1) ∧ (0 ≤ P (39 + 6 * i + 3) ∧ P (39 + 6 * i + 3) ≤ 2)) ∧
  (∀ i : Nat, i < w → -9 ≤ P (93 + i) ∧ P (93 + i) ≤ 9)
theorem f_z0 {p c i l : Int} (hp : 0 ≤ p ∧ p ≤ 99) (hc : 0 ≤ c ∧ c ≤ 9999) (hi : 0 ≤ i ∧ i ≤ 9) (hl : 0 ≤ l ∧ l ≤ 50) : f_z 0 0 0 (q_begin P p c i l) (m_b R p c i l) := by
  refine ⟨sl_begin, begin_v, ⟨?_, ?_, ?_, ?_, ?_, ?_, ?_⟩, ?_, fun s h => absurd h (by omega), fun s h => absurd h (by omega), fun s h => absurd h (by omega)⟩
  · unfold q_begin; simp [q_pu]; exact hp
  · unfold q_begin; simp [q_pu]; exact hc
  · unfold q_begin; simp [q_pu]; exact hi
  · unfold q_begin; simp [q_pu]; exact hl
  · unfold q_begin; simp [q_pu]
  · unfold q_begin; simp [q_pu]
  · unfold q_begin; simp [q_pu]
  · intro j hj h1 h2
    unfold m_b
    rw [q_pn (by omega), q_pn (by omega), q_pn (by omega), q_pn (by omega), q_pn (by omega), q_pn (by omega)]
    unfold m_z
    rw [if_pos hj]
theorem f_zs {n : Nat} {b r t : Int} (h : f_z n 0 0 P A) (hn : n < 6) (hb : 1 ≤ b ∧ b ≤ 9) (hr : 0 ≤ r ∧ r ≤ 9) (ht : 0 ≤ t ∧ t ≤ 99) : f_z (n + 1) 0 0 (q_puts P b r t) (m_s A b r t) := by
  obtain ⟨h1, ⟨h4, h5, h6⟩, h0, hz, hs, hg, hw⟩ := h
  have e4 := sl_lt h1 (j := 4) (by omega)
  have em : m_s A b r t = q_puts A b r t := by
    unfold m_s q_puts
    have e : q_pu (q_pu (q_pu (q_pu A (15 + 4 * (A 4).toNat) b) (15 + 4 * (A 4).toNat + 1) r) (15 + 4 * (A 4).toNat + 2) t) (15 + 4 * (A 4).toNat + 3) 0 = q_pu (q_pu (q_pu A (15 + 4 * (A 4).toNat) b) (15 + 4 * (A 4).toNat + 1) r) (15 + 4 * (A 4).toNat + 2) t := by
      funext j
      by_cases e : j = 15 + 4 * (A 4).toNat + 3
      · rw [e, q_pe, q_pn (by omega), q_pn (by omega), q_pn (by omega), hz _ (by omega) (by omega) (by omega)]
      · rw [q_pn e]
    rw [e]
  rw [em]
  refine ⟨sl_puts h1 (by omega), ⟨by rw [puts_4]; omega, by rw [puts_o (by omega) (by omega)]; exact h5, by rw [puts_o (by omega) (by omega)]; exact h6⟩, ?_, ?_, ?_, fun s h => absurd h (by omega), fun s h => absurd h (by omega)⟩
  · rw [puts_o (by omega) (by omega), puts_o (by omega) (by omega), puts_o (by omega) (by omega), puts_o (by omega) (by omega), puts_o (by omega) (by omega), puts_o (by omega) (by omega), puts_o (by omega) (by omega)]
    exact h0
  · intro j hj hj1 hj2
    unfold q_puts
    rw [q_pn (by omega), q_pn (by omega), q_pn (by omega), q_pn (by omega), q_pn (by omega)]
    exact hz j hj (by omega) hj2
  · intro s hs1
    by_cases e : s < n
    · have := hs s e
      unfold q_puts
      rw [q_pn (by omega), q_pn (by omega), q_pn (by omega), q_pn (by omega), q_pn (by omega), q_pn (by omega), q_pn (by omega), q_pn (by omega), q_pn (by omega), q_pn (by omega), q_pn (by omega), q_pn (by omega), q_pn (by omega), q_pn (by omega), q_pn (by omega), q_pn (by omega), q_pn (by omega), q_pn (by omega), q_pn (by omega), q_pn (by omega)]
      exact this
    · have e1 : s = (P 4).toNat := by omega
      subst e1
      unfold q_puts
      refine ⟨?_, ?_, ?_, ?_⟩
      · rw [q_pn (by omega), q_pn (by omega), q_pn (by omega), q_pn (by omega), q_pe]; exact hb
      · rw [q_pn (by omega), q_pn (by omega), q_pn (by omega), q_pe]; exact hr
      · rw [q_pn (by omega), q_pn (by omega), q_pe]; exact ht
      · rw [q_pn (by omega), q_pe]; omega
theorem f_zg {n g : Nat} {b r : Int} (h : f_z n g 0 P A) (hn : n ≤ 6) (hg8 : g < 9) (hb : 0 ≤ b ∧ b < n) (hr : 0 ≤ r ∧ r ≤ 3) : f_z n (g + 1) 0 (q_putg P b r) (m_g A b r) := by
  obtain ⟨h1, ⟨h4, h5, h6⟩, h0, hz, hs, hg, hw⟩ := h
  have e5 := sl_lt h1 (j := 5) (by omega)
  have em : m_g A b r = q_putg A b r := by
    unfold m_g q_putg
    congr 1
    funext j
    have z3 := hz (39 + 6 * (A 5).toNat + 3) (by omega) (by omega) (by omega)
    have z4 := hz (39 + 6 * (A 5).toNat + 4) (by omega) (by omega) (by omega)
    have z5 := hz (39 + 6 * (A 5).toNat + 5) (by omega) (by omega) (by omega)
    by_cases c5 : j = 39 + 6 * (A 5).toNat + 5
    · rw [c5, q_pe, q_pn (by omega), q_pn (by omega), q_pn (by omega), z5]
    · rw [q_pn (j := 39 + 6 * (A 5).toNat + 5) c5]
      by_cases c4 : j = 39 + 6 * (A 5).toNat + 4
      · rw [c4, q_pe, q_pn (by omega), q_pn (by omega), q_pn (by omega), z4]
      · rw [q_pn (j := 39 + 6 * (A 5).toNat + 4) c4]
        by_cases c3 : j = 39 + 6 * (A 5).toNat + 3
        · rw [c3, q_pe, q_pn (by omega), q_pn (by omega), q_pn (by omega), z3]
        · rw [q_pn (j := 39 + 6 * (A 5).toNat + 3) c3]
  rw [em]
  have o4 : q_putg P b r 4 = P 4 := putg_o (by omega) (by omega)
  refine ⟨sl_putg h1 (by omega), ⟨by rw [o4]; exact h4, by rw [putg_5]; omega, by rw [putg_o (by omega) (by omega)]; exact h6⟩, ?_, ?_, ?_, ?_, fun s h => absurd h (by omega)⟩
  · rw [putg_o (by omega) (by omega), putg_o (by omega) (by omega), putg_o (by omega) (by omega), putg_o (by omega) (by omega), putg_o (by omega) (by omega), putg_o (by omega) (by omega), putg_o (by omega) (by omega)]
    exact h0
  · intro j hj hj1 hj2
    have : A j = 0 := hz j hj (by omega) hj2
    unfold q_putg
    rw [← e5]
    simp only [q_pu, if_true]
    (repeat' split) <;> first | rfl | exact this | (exfalso; omega)
  · intro s hs1
    have := hs s hs1
    rw [putg_o (by omega) (by omega), putg_o (by omega) (by omega), putg_o (by omega) (by omega), putg_o (by omega) (by omega)]
    exact this
  · rw [o4]
    intro s hs1
    by_cases e : s < g
    · have := hg s e
      unfold q_putg
      simp only [q_pu, if_true]
      refine ⟨?_, ?_, ?_, ?_⟩ <;> ((repeat' split) <;> omega)
    · have e1 : s = (P 5).toNat := by omega
      subst e1
      unfold q_putg
      simp only [q_pu, if_true]
      refine ⟨?_, ?_, ?_, ?_⟩ <;> ((repeat' split) <;> omega)
theorem f_zw {n g w : Nat} {b : Int} (h : f_z n g w P A) (hn : n ≤ 6) (hg8 : g ≤ 9) (hw24 : w < 24) (hb : -9 ≤ b ∧ b ≤ 9) : f_z n g (w + 1) (q_putw P b) (q_putw A b) := by
  obtain ⟨h1, ⟨h4, h5, h6⟩, h0, hz, hs, hg, hw⟩ := h
  have e6 := sl_lt h1 (j := 6) (by omega)
  have o4 : q_putw P b 4 = P 4 := putw_o (by omega) (by omega)
  refine ⟨sl_putw h1 (by omega), ⟨by rw [o4]; exact h4, by rw [putw_o (by omega) (by omega)]; exact h5, by rw [putw_6]; omega⟩, ?_, ?_, ?_, ?_, ?_⟩
  · rw [putw_o (by omega) (by omega), putw_o (by omega) (by omega), putw_o (by omega) (by omega), putw_o (by omega) (by omega), putw_o (by omega) (by omega), putw_o (by omega) (by omega), putw_o (by omega) (by omega)]
    exact h0
  · intro j hj hj1 hj2
    have : A j = 0 := hz j hj hj1 (by omega)
    unfold q_putw
    rw [← e6, q_pn (by omega), q_pn (by omega)]
    exact this
  · intro s hs1
    have := hs s hs1
    rw [putw_o (by omega) (by omega), putw_o (by omega) (by omega), putw_o (by omega) (by omega), putw_o (by omega) (by omega)]
    exact this
  · rw [o4]
    intro s hs1
    have := hg s hs1
    rw [putw_o (by omega) (by omega), putw_o (by omega) (by omega), putw_o (by omega) (by omega), putw_o (by omega) (by omega)]
    exact this
  · intro i hi
    unfold q_putw
    by_cases e : i < w
    · rw [q_pn (by omega), q_pn (by omega)]; exact hw i e
    · have e1 : i = (P 6).toNat := by omega
      subst e1
      rw [q_pn (by omega), q_pe]; exact hb
theorem f_zok {n g w : Nat} {H : Int} (h : f_z n g w P A) (hH : 0 ≤ H) (hn : n ≤ 6) (hg8 : g ≤ 8) (hw1 : 1 ≤ w) (hw24 : w ≤ 24) : q_ok H 8 P ∧ q_sim P A := by
  obtain ⟨h1, ⟨h4, h5, h6⟩, ⟨a0, a1, a2, a3, a7, a8, a14⟩, hz, hs, hg, hw⟩ := h
  refine ⟨⟨⟨a0, a1, a2, a3, by omega, by omega, by omega, by omega, by omega, by omega⟩, fun s e => hs s (by omega), fun s e => hg s (by omega), fun i e => hw i (by omega)⟩, h1, ?_⟩
  have e14 := sl_lt h1 (j := 14) (by omega)
  unfold q_bl
  rw [← e14, a14]
  rfl
/-- the readers' numbers, when all is good -/
theorem t_s1_r (h : (t_s1 sg a).1 ≠ 0) : t_in sg a 49 57 ∧ t_in sg (a + 1) 48 57 ∧ t_in sg (a + 1 + 1) 48 57 ∧ t_in sg (a + 1 + 1 + 1) 48 57 ∧ (t_s1 sg a).2 = a + 4 := by
  unfold t_s1 at h ⊢
  by_cases c1 : t_in sg a 49 57
  · rw [if_pos c1] at h ⊢
    by_cases c2 : t_in sg (a + 1) 48 57
    · rw [if_pos c2] at h ⊢
      by_cases c3 : t_in sg (a + 1 + 1) 48 57
      · rw [if_pos c3] at h ⊢
        by_cases c4 : t_in sg (a + 1 + 1 + 1) 48 57
        · rw [if_pos c4]
          exact ⟨c1, c2, c3, c4, by show a + 1 + 1 + 1 + 1 = a + 4; omega⟩
        · rw [if_neg c4] at h; exact absurd rfl h
      · rw [if_neg c3] at h; exact absurd rfl h
    · rw [if_neg c2] at h; exact absurd rfl h
  · rw [if_neg c1] at h; exact absurd rfl h
theorem t_g1_r (h : (t_g1 sg s a).1 ≠ 0) : t_in sg a 48 (48 + s - 1) ∧ t_in sg (a + 1) 48 51 ∧ (t_g1 sg s a).2 = a + 2 := by
  unfold t_g1 at h ⊢
  by_cases c1 : t_in sg a 48 (48 + s - 1)
  · rw [if_pos c1] at h ⊢
    by_cases c2 : t_in sg (a + 1) 48 51
    · rw [if_pos c2]
      exact ⟨c1, c2, by show a + 1 + 1 = a + 2; omega⟩
    · rw [if_neg c2] at h; exact absurd rfl h
  · rw [if_neg c1] at h; exact absurd rfl h
theorem m_sp_z {n : Nat} : ∀ (f : Nat) (c : Nat) (P A : Nat → Int), f + c = 6 → f_z c 0 0 P A → (t_sl sg f (10 + 5 * (c : Int)) c).1 ≠ 0 → (n : Int) = (t_sl sg f (10 + 5 * (c : Int)) c).2.2 → c ≤ n ∧ f_z n 0 0 (q_it (fun i => f_s sg (c + i)) (n - c) P) (m_sp sg f (10 + 5 * (c : Int)) A)
  | 0, c, P, A, hf, h, h1, hn => by
    unfold t_sl at hn
    have e : n = c := by (try dsimp only at hn); omega
    subst e
    refine ⟨Nat.le_refl _, ?_⟩
    rw [Nat.sub_self]
    exact h
  | f + 1, c, P, A, hf, h, h1, hn => by
    unfold m_sp
    unfold t_sl at h1 hn
    by_cases c1 : t_in sg (10 + 5 * (c : Int)) 115 115
    · rw [if_pos c1] at h1 hn ⊢
      by_cases c2 : (t_s1 sg (10 + 5 * (c : Int) + 1)).1 = 0
      · rw [if_pos c2] at h1; exact absurd rfl h1
      · rw [if_neg c2] at h1 hn ⊢
        obtain ⟨r1, r2, r3, r4, r5⟩ := t_s1_r c2
        have b1 : 49 ≤ sg (10 + 5 * (c : Int) + 1) ∧ sg (10 + 5 * (c : Int) + 1) ≤ 57 := r1
        have b2 : 48 ≤ sg (10 + 5 * (c : Int) + 1 + 1) ∧ sg (10 + 5 * (c : Int) + 1 + 1) ≤ 57 := r2
        have b3 : 48 ≤ sg (10 + 5 * (c : Int) + 1 + 1 + 1) ∧ sg (10 + 5 * (c : Int) + 1 + 1 + 1) ≤ 57 := r3
        have b4 : 48 ≤ sg (10 + 5 * (c : Int) + 1 + 1 + 1 + 1) ∧ sg (10 + 5 * (c : Int) + 1 + 1 + 1 + 1) ≤ 57 := r4
        have e5 : (t_s1 sg (10 + 5 * (c : Int) + 1)).2 = 10 + 5 * ((c + 1 : Nat) : Int) := by rw [r5]; omega
        have ec : (c : Int) + 1 = ((c + 1 : Nat) : Int) := by omega
        rw [e5, ec] at h1 hn
        rw [e5]
        have fs : f_s sg c P = q_puts P (sg (10 + 5 * (c : Int) + 1) - 48) (sg (10 + 5 * (c : Int) + 1 + 1) - 48) ((sg (10 + 5 * (c : Int) + 1 + 1 + 1) - 48) * 10 + (sg (10 + 5 * (c : Int) + 1 + 1 + 1 + 1) - 48)) := by
          unfold f_s
          rw [t_nm1, t_nm1, t_nm2, show 10 + 5 * (c : Int) + 2 = 10 + 5 * (c : Int) + 1 + 1 by omega, show 10 + 5 * (c : Int) + 3 = 10 + 5 * (c : Int) + 1 + 1 + 1 by omega]
        have st : f_z (c + 1) 0 0 (f_s sg c P) (m_sd sg (10 + 5 * (c : Int) + 1) A) := by
          rw [fs]; unfold m_sd
          exact f_zs h (by omega) (by omega) (by omega) (by omega)
        obtain ⟨i1, i2⟩ := m_sp_z f (c + 1) _ _ (by omega) st h1 hn
        refine ⟨by omega, ?_⟩
        have en : n - c = (n - (c + 1)) + 1 := by omega
        rw [en, q_it_sh]
        have ef : (fun i => f_s sg (c + 1 + i)) = (fun i => f_s sg (c + (i + 1))) := by
          funext i; rw [show c + 1 + i = c + (i + 1) by omega]
        rw [ef] at i2
        exact i2
    · rw [if_neg c1] at h1 hn ⊢
      have e : n = c := by (try dsimp only at hn); omega
      subst e
      refine ⟨Nat.le_refl _, ?_⟩
      rw [Nat.sub_self]
      exact h
theorem m_gp_z {n m : Nat} {b : Int} (hm : m ≤ 6) : ∀ (f : Nat) (c : Nat) (P A : Nat → Int), f + c = 8 → f_z m c 0 P A → (t_gn sg m f (b + 3 * (c : Int)) c).1 ≠ 0 → (n : Int) = (t_gn sg m f (b + 3 * (c : Int)) c).2.2 → c ≤ n ∧ f_z m n 0 (q_it (fun i => f_g sg b (c + i)) (n - c) P) (m_gp sg m f (b + 3 * (c : Int)) A)
  | 0, c, P, A, hf, h, h1, hn => by
    unfold t_gn at hn
    have e : n = c := by (try dsimp only at hn); omega
    subst e
    refine ⟨Nat.le_refl _, ?_⟩
    rw [Nat.sub_self]
    exact h
  | f + 1, c, P, A, hf, h, h1, hn => by
    unfold m_gp
    unfold t_gn at h1 hn
    by_cases c1 : t_in sg (b + 3 * (c : Int)) 103 103
    · rw [if_pos c1] at h1 hn ⊢
      by_cases c2 : (t_g1 sg m (b + 3 * (c : Int) + 1)).1 = 0
      · rw [if_pos c2] at h1; exact absurd rfl h1
      · rw [if_neg c2] at h1 hn ⊢
        obtain ⟨r1, r2, r5⟩ := t_g1_r c2
        have b1 : 48 ≤ sg (b + 3 * (c : Int) + 1) ∧ sg (b + 3 * (c : Int) + 1) ≤ 48 + (m : Int) - 1 := r1
        have b2 : 48 ≤ sg (b + 3 * (c : Int) + 1 + 1) ∧ sg (b + 3 * (c : Int) + 1 + 1) ≤ 51 := r2
        have e5 : (t_g1 sg m (b + 3 * (c : Int) + 1)).2 = b + 3 * ((c + 1 : Nat) : Int) := by rw [r5]; omega
        have ec : (c : Int) + 1 = ((c + 1 : Nat) : Int) := by omega
        rw [e5, ec] at h1 hn
        rw [e5]
        have fs : f_g sg b c P = q_putg P (sg (b + 3 * (c : Int) + 1) - 48) (sg (b + 3 * (c : Int) + 1 + 1) - 48) := by
          unfold f_g
          rw [t_nm1, t_nm1, show b + 3 * (c : Int) + 2 = b + 3 * (c : Int) + 1 + 1 by omega]
        have st : f_z m (c + 1) 0 (f_g sg b c P) (m_gd sg (b + 3 * (c : Int) + 1) A) := by
          rw [fs]; unfold m_gd
          exact f_zg h hm (by omega) (by omega) (by omega)
        obtain ⟨i1, i2⟩ := m_gp_z hm f (c + 1) _ _ (by omega) st h1 hn
        refine ⟨by omega, ?_⟩
        have en : n - c = (n - (c + 1)) + 1 := by omega
        rw [en, q_it_sh]
        have ef : (fun i => f_g sg b (c + 1 + i)) = (fun i => f_g sg b (c + (i + 1))) := by
          funext i; rw [show c + 1 + i = c + (i + 1) by omega]
        rw [ef] at i2
        exact i2
    · rw [if_neg c1] at h1 hn ⊢
      have e : n = c := by (try dsimp only at hn); omega
      subst e
      refine ⟨Nat.le_refl _, ?_⟩
      rw [Nat.sub_self]
      exact h
theorem m_wp_z {n m g : Nat} {b : Int} (hm : m ≤ 6) (hg : g ≤ 8) : ∀ (f : Nat) (c : Nat) (P A : Nat → Int), f + c = 24 → f_z m g c P A → (t_wt sg f (b + 2 * (c : Int)) c).1 ≠ 0 → (n : Int) = (t_wt sg f (b + 2 * (c : Int)) c).2.2 → c ≤ n ∧ f_z m g n (q_it (fun i => f_w sg b (c + i)) (n - c) P) (m_wp sg f (b + 2 * (c : Int)) A)
  | 0, c, P, A, hf, h, h1, hn => by
    unfold t_wt at hn
    have e : n = c := by (try dsimp only at hn); omega
    subst e
    refine ⟨Nat.le_refl _, ?_⟩
    rw [Nat.sub_self]
    exact h
  | f + 1, c, P, A, hf, h, h1, hn => by
    unfold m_wp
    unfold t_wt at h1 hn
    by_cases c1 : t_in sg (b + 2 * (c : Int)) 43 43 ∨ t_in sg (b + 2 * (c : Int)) 45 45
    · rw [if_pos c1] at h1 hn ⊢
      by_cases c2 : t_in sg (b + 2 * (c : Int) + 1) 48 57
      · rw [if_pos c2] at h1 hn ⊢
        have b1 : 48 ≤ sg (b + 2 * (c : Int) + 1) ∧ sg (b + 2 * (c : Int) + 1) ≤ 57 := c2
        have e5 : b + 2 * (c : Int) + 1 + 1 = b + 2 * ((c + 1 : Nat) : Int) := by omega
        have ec : (c : Int) + 1 = ((c + 1 : Nat) : Int) := by omega
        rw [e5, ec] at h1 hn
        rw [e5]
        have fs : f_v sg (b + 2 * (c : Int)) = m_v sg (b + 2 * (c : Int)) := by
          unfold f_v m_v
          rw [t_nm1]
        have wv : -9 ≤ m_v sg (b + 2 * (c : Int)) ∧ m_v sg (b + 2 * (c : Int)) ≤ 9 := by
          unfold m_v; split <;> omega
        have st : f_z m g (c + 1) (f_w sg b c P) (q_putw A (m_v sg (b + 2 * (c : Int)))) := by
          unfold f_w
          rw [fs]
          exact f_zw h hm (by omega) (by omega) wv
        obtain ⟨i1, i2⟩ := m_wp_z hm hg f (c + 1) _ _ (by omega) st h1 hn
        refine ⟨by omega, ?_⟩
        have en : n - c = (n - (c + 1)) + 1 := by omega
        rw [en, q_it_sh]
        have ef : (fun i => f_w sg b (c + 1 + i)) = (fun i => f_w sg b (c + (i + 1))) := by
          funext i; rw [show c + 1 + i = c + (i + 1) by omega]
        rw [ef] at i2
        exact i2
      · rw [if_neg c2] at h1; exact absurd rfl h1
    · rw [if_neg c1] at h1 hn ⊢
      have e : n = c := by (try dsimp only at hn); omega
      subst e
      refine ⟨Nat.le_refl _, ?_⟩
      rw [Nat.sub_self]
      exact h
theorem t_dg_r : ∀ (d : Nat) (a : Int), (t_dg sg d a).1 ≠ 0 → ∀ i : Nat, i < d → t_in sg (a + i) 48 57
  | 0, a, _, i, hi => absurd hi (by omega)
  | d + 1, a, h, i, hi => by
    unfold t_dg at h
    by_cases c : t_in sg a 48 57
    · rw [if_pos c] at h
      cases i with
      | zero => rw [show a + ((0 : Nat) : Int) = a by omega]; exact c
      | succ i => rw [show a + ((i + 1 : Nat) : Int) = a + 1 + i by omega]; exact t_dg_r d (a + 1) h i (by omega)
    · rw [if_neg c] at h; exact absurd rfl h
theorem t_hd_r (h : (t_hd sg).1 ≠ 0) : (∀ i : Int, 1 ≤ i ∧ i ≤ 9 → 48 ≤ sg i ∧ sg i ≤ 57) ∧ (sg 8 - 48) * 10 + (sg 9 - 48) ≤ 50 := by
  have w := t_dg_w (sg := sg) 7 1
  unfold t_hd at h
  by_cases c0 : t_in sg 0 80 80
  · rw [if_pos c0] at h
    by_cases c1 : (t_dg sg 7 1).1 = 0
    · rw [if_pos c1] at h; exact absurd c1 h
    · rw [if_neg c1] at h
      have r := t_dg_r 7 1 c1
      have e8 : (t_dg sg 7 1).2 = 8 := by omega
      rw [e8] at h
      have q : (48 ≤ sg 8 ∧ sg 8 ≤ 57 ∧ 48 ≤ sg 9 ∧ sg 9 ≤ 57) ∧ (sg 8 - 48) * 10 + (sg 9 - 48) ≤ 50 := by
        by_cases c2 : t_in sg 8 53 53
        · rw [if_pos c2] at h
          have b2 : 53 ≤ sg 8 ∧ sg 8 ≤ 53 := c2
          by_cases c3 : t_in sg (8 + 1) 48 48
          · have b3 : 48 ≤ sg 9 ∧ sg 9 ≤ 48 := c3
            omega
          · rw [if_neg c3] at h; exact absurd rfl h
        · rw [if_neg c2] at h
          by_cases c4 : t_in sg 8 48 52
          · rw [if_pos c4] at h
            have b4 : 48 ≤ sg 8 ∧ sg 8 ≤ 52 := c4
            by_cases c5 : t_in sg (8 + 1) 48 57
            · have b5 : 48 ≤ sg 9 ∧ sg 9 ≤ 57 := c5
              omega
            · rw [if_neg c5] at h; exact absurd rfl h
          · rw [if_neg c4] at h; exact absurd rfl h
      refine ⟨fun i hi => ?_, q.2⟩
      by_cases e : i ≤ 7
      · have := r (i - 1).toNat (by omega)
        rw [show (1 : Int) + ((i - 1).toNat : Nat) = i by omega] at this
        exact this
      · have : i = 8 ∨ i = 9 := by omega
        rcases this with rfl | rfl <;> omega
  · rw [if_neg c0] at h; exact absurd rfl h
theorem t_all_r {n : Int} (h : (t_all sg n).1 ≠ 0) : (t_hd sg).1 ≠ 0 ∧ ((tt_S sg).1 ≠ 0 ∧ 0 < (tt_S sg).2.2) ∧ (tt_G sg).1 ≠ 0 ∧ ((tt_T sg).1 ≠ 0 ∧ 0 < (tt_T sg).2.2) := by
  unfold t_all at h
  by_cases c0 : (t_hd sg).1 = 0
  · rw [if_pos c0] at h; exact absurd rfl h
  · rw [if_neg c0] at h
    by_cases c1 : (tt_S sg).1 = 0 ∨ (tt_S sg).2.2 ≤ 0
    · rw [if_pos c1] at h; exact absurd rfl h
    · rw [if_neg c1] at h
      by_cases c2 : (tt_G sg).1 = 0
      · rw [if_pos c2] at h; exact absurd rfl h
      · rw [if_neg c2] at h
        by_cases c3 : ¬ t_in sg (tt_G sg).2.1 119 119
        · rw [if_pos c3] at h; exact absurd rfl h
        · rw [if_neg c3] at h
          by_cases c4 : (tt_T sg).1 = 0 ∨ (tt_T sg).2.2 ≤ 0
          · rw [if_pos c4] at h; exact absurd rfl h
          · exact ⟨c0, ⟨fun q => c1 (Or.inl q), Int.not_le.mp fun q => c1 (Or.inr q)⟩, c2, ⟨fun q => c4 (Or.inl q), Int.not_le.mp fun q => c4 (Or.inr q)⟩⟩
/-- both have the same state out of a good text -/
theorem fill_sim {s g w : Nat} {n H : Int} (hH : 0 ≤ H) (h : (t_all sg n).1 ≠ 0) (hs : (s : Int) = (tt_S sg).2.2) (hg : (g : Int) = (tt_G sg).2.2) (hw : (w : Int) = (tt_T sg).2.2) : q_ok H 8 (f_3 sg s g w P) ∧ q_sim (f_3 sg s g w P) (m_all sg R) := by
  obtain ⟨r0, r1, r2, r3⟩ := t_all_r h
  obtain ⟨d1, d2⟩ := t_hd_r r0
  have w1 := tt_S_w (sg := sg)
  have w2 := tt_G_w (sg := sg)
  have w3 := tt_T_w (sg := sg)
  have z0 : f_z 0 0 0 (f_0 sg P) (m_0 sg R) := by
    have e1 := d1 1 (by omega)
    have e2 := d1 2 (by omega)
    have e3 := d1 3 (by omega)
    have e4 := d1 4 (by omega)
    have e5 := d1 5 (by omega)
    have e6 := d1 6 (by omega)
    have e7 := d1 7 (by omega)
    have e8 := d1 8 (by omega)
    have e9 := d1 9 (by omega)
    unfold f_0 m_0
    simp only [t_nm1, t_nm2, t_nm4, Int.reduceAdd]
    exact f_z0 (by omega) (by omega) (by omega) (by omega)
  have z1 := (m_sp_z (sg := sg) (n := s) 6 0 _ _ rfl z0 r1.1 hs).2
  have a1 : f_z s 0 0 (f_1 sg s P) (m_sp sg 6 10 (m_0 sg R)) := by
    have e : (fun i => f_s sg (0 + i)) = f_s sg := by funext i; rw [Nat.zero_add]
    rw [e] at z1
    exact z1
  have e10 : (tt_S sg).2.1 = 10 + 5 * (s : Int) + 3 * ((0 : Nat) : Int) := by omega
  have z2 := (m_gp_z (sg := sg) (n := g) (m := s) (b := 10 + 5 * (s : Int)) (by omega) 8 0 _ _ rfl a1 (by rw [← e10, hs]; exact r2) (by rw [← e10, hs]; exact hg)).2
  have a2 : f_z s g 0 (f_2 sg s g P) (m_gp sg (tt_S sg).2.2 8 (tt_S sg).2.1 (m_sp sg 6 10 (m_0 sg R))) := by
    have e : (fun i => f_g sg (10 + 5 * (s : Int)) (0 + i)) = f_g sg (10 + 5 * (s : Int)) := by funext i; rw [Nat.zero_add]
    rw [e] at z2
    rw [← hs, e10]
    exact z2
  have e20 : (tt_G sg).2.1 + 1 = 10 + 5 * (s : Int) + 3 * (g : Int) + 1 + 2 * ((0 : Nat) : Int) := by omega
  have z3 := (m_wp_z (sg := sg) (n := w) (m := s) (g := g) (b := 10 + 5 * (s : Int) + 3 * (g : Int) + 1) (by omega) (by omega) 24 0 _ _ rfl a2 (by rw [← e20]; exact r3.1) (by rw [← e20]; exact hw)).2
  have a3 : f_z s g w (f_3 sg s g w P) (m_all sg R) := by
    have e : (fun i => f_w sg (10 + 5 * (s : Int) + 3 * (g : Int) + 1) (0 + i)) = f_w sg (10 + 5 * (s : Int) + 3 * (g : Int) + 1) := by funext i; rw [Nat.zero_add]
    rw [e, ← e20] at z3
    exact z3
  exact f_zok a3 hH (by omega) (by omega) (by omega) (by omega)
end Z42
