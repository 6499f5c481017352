/-! LIVE EQUALITY of two pages of the class: what later calls can show -/
def q_bk (P : Nat → Int) : Prop := ∀ e ∈ q_bl P, 0 ≤ e.1 ∧ e.1 ≤ 9
def e_q (P Q : Nat → Int) : Prop := q_sl P Q ∧ q_bl P = q_bl Q
/-- the book the other way round: a page that the counting system would hold -/
def e_rv (Q : Nat → Int) : Nat → Int := fun j => if 117 ≤ j ∧ j < 117 + 2 * (Q 14).toNat then Q (117 + 2 * ((Q 14).toNat - 1 - (j - 117) / 2) + (j - 117) % 2) else Q j
section Z40
variable {P Q R A : Nat → Int} {H G : Int}
theorem ok_mono {H1 G1 : Int} (h : q_ok H G P) (hH : H ≤ H1) (hG : P 5 ≤ G1) : q_ok H1 G1 P := by
  obtain ⟨⟨a0, a1, a2, a3, a4, a5, a6, a7, a8, a14⟩, hs⟩ := h
  exact ⟨⟨a0, a1, a2, a3, a4, by omega, a6, a7, by omega, a14⟩, hs⟩
theorem ok_9 (h : q_ok H 8 P) : q_ok H 9 P := ok_mono h (Int.le_refl _) (by have := h.1.2.2.2.2.2.1; omega)
theorem e_lv (h : q_sl P Q) {j : Nat} : q_lv P j ↔ q_lv Q j := by
  have e4 := sl_lt h (j := 4) (by omega)
  have e5 := sl_lt h (j := 5) (by omega)
  have e6 := sl_lt h (j := 6) (by omega)
  unfold q_lv
  rw [e4, e5, e6]
theorem e_rf : e_q P P := ⟨fun _ _ => rfl, rfl⟩
theorem e_sy (h : e_q P Q) : e_q Q P := ⟨fun j hj => (h.1 j ((e_lv h.1).mpr hj)).symm, h.2.symm⟩
theorem e_tr (h : e_q P Q) (h1 : e_q Q R) : e_q P R := ⟨fun j hj => (h.1 j hj).trans (h1.1 j ((e_lv h.1).mp hj)), h.2.trans h1.2⟩
theorem e_ok (h : e_q P Q) (hk : q_ok H G P) (hG : G ≤ 9) : q_ok H G Q := ok_sl h.1 hk hG
theorem e_bk (h : e_q P Q) (hk : q_bk P) : q_bk Q := by unfold q_bk; rw [← h.2]; exact hk
theorem rv_lv {j : Nat} (hj : j < 117) : e_rv Q j = Q j := by unfold e_rv; rw [if_neg (by omega)]
theorem lv_117 {j : Nat} (h : q_lv P j) : j < 117 := by unfold q_lv at h; omega
theorem rv_sl : q_sl Q (e_rv Q) := fun j hj => (rv_lv (lv_117 hj)).symm
theorem rv_bl : (q_bl Q).reverse = q_bl (e_rv Q) := by
  unfold q_bl
  rw [rv_lv (j := 14) (by omega)]
  apply List.ext_getElem
  · simp
  · intro i h1 h2
    simp only [List.length_reverse, List.length_map, List.length_range] at h1
    rw [List.getElem_reverse, List.getElem_map, List.getElem_map, List.getElem_range, List.getElem_range]
    simp only [List.length_map, List.length_range]
    unfold e_rv
    rw [if_pos (by omega), if_pos (by omega)]
    have q1 : (117 + 2 * i - 117) / 2 = i := by omega
    have q2 : (117 + 2 * i - 117) % 2 = 0 := by omega
    have q3 : (118 + 2 * i - 117) / 2 = i := by omega
    have q4 : (118 + 2 * i - 117) % 2 = 1 := by omega
    rw [q1, q2, q3, q4]
    refine Prod.ext rfl ?_
    show Q _ = Q _
    congr 1
    omega
theorem rv_sim (h : e_q P Q) : q_sim P (e_rv Q) := ⟨fun j hj => (h.1 j hj).trans (rv_sl j ((e_lv h.1).mp hj)), by rw [h.2]; exact rv_bl⟩
theorem sim_e (h : q_sim P A) (h1 : q_sim Q A) : e_q P Q := by
  refine ⟨fun j hj => ?_, ?_⟩
  · have hA : q_lv A j := (e_lv h.1).mp hj
    exact (h.1 j hj).trans (h1.1 j ((e_lv h1.1).mpr hA)).symm
  · have := h.2.trans h1.2.symm
    exact List.reverse_inj.mp this
/-- an hour tells the same of both -/
theorem e_hour {K Z B K1 Z1 B1 : Nat → Int} (h : e_q P Q) (hk : q_ok H 9 P) : e_q (h_P P K Z B) (h_P Q K1 Z1 B1) ∧ (∀ g : Nat, (g : Int) < P 5 → (h_G P K Z).2.2.1 g = (h_G Q K1 Z1).2.2.1 g) := by
  have hq := e_ok h hk (by omega)
  have s1 := sim_hour (K := K) (Z := Z) (B := B) (O := fun _ => 0) (Z1 := fun _ => 0) (B1 := fun _ => 0) (rv_sim h) hk
  have s2 := sim_hour (K := K1) (Z := Z1) (B := B1) (O := fun _ => 0) (Z1 := fun _ => 0) (B1 := fun _ => 0) (rv_sim (P := Q) (Q := Q) e_rf) hq
  refine ⟨sim_e s1.1 s2.1, fun g hg => ?_⟩
  rw [s1.2.1 g hg, s2.2.1 g (by rw [← sl_lt h.1 (j := 5) (by omega)]; exact hg)]
/-- the hour of a page, the rows that are used over again being empty -/
def y_z : Nat → Int := fun _ => 0
def y_hr (P : Nat → Int) : Nat → Int := h_P P y_z y_z y_z
def y_re (P : Nat → Int) (g : Nat) : Int := (h_G P y_z y_z).2.2.1 g
def y_hrs (n : Nat) (P : Nat → Int) : Nat → Int := q_it (fun _ P => y_hr P) n P
theorem y_hr_ok (h : q_ok H 9 P) : q_ok (H + 1) 9 (y_hr P) := h_P_ok h
theorem y_hr_c (h : q_ok H 9 P) {j : Nat} (hj : j < 7) : y_hr P j = P j := h_P_c h hj
theorem y_hr_e (h : e_q P Q) (hk : q_ok H 9 P) : e_q (y_hr P) (y_hr Q) := (e_hour h hk).1
theorem y_re_e (h : e_q P Q) (hk : q_ok H 9 P) {g : Nat} (hg : (g : Int) < P 5) : y_re P g = y_re Q g := (e_hour (B := y_z) (B1 := y_z) h hk).2 g hg
theorem y_hrs_s {n : Nat} : y_hrs (n + 1) P = y_hr (y_hrs n P) := rfl
theorem y_hrs_0 : y_hrs 0 P = P := rfl
theorem y_hrs_1 : y_hrs 1 P = y_hr P := rfl
theorem y_hrs_add {m : Nat} : ∀ n, y_hrs (m + n) P = y_hrs n (y_hrs m P)
  | 0 => rfl
  | n + 1 => by rw [← Nat.add_assoc, y_hrs_s, y_hrs_s, y_hrs_add n]
theorem y_hrs_ok (h : q_ok H 9 P) : ∀ n : Nat, q_ok (H + n) 9 (y_hrs n P) ∧ ∀ j, j < 7 → y_hrs n P j = P j
  | 0 => ⟨by rw [show H + ((0 : Nat) : Int) = H by omega]; exact h, fun _ _ => rfl⟩
  | n + 1 => by
    obtain ⟨i1, i2⟩ := y_hrs_ok h n
    refine ⟨?_, fun j hj => ?_⟩
    · rw [show H + ((n + 1 : Nat) : Int) = H + n + 1 by omega]; exact y_hr_ok i1
    · rw [y_hrs_s, y_hr_c i1 hj, i2 j hj]
theorem y_hrs_e (h : e_q P Q) (hk : q_ok H 9 P) : ∀ n : Nat, e_q (y_hrs n P) (y_hrs n Q)
  | 0 => h
  | n + 1 => y_hr_e (y_hrs_e h hk n) (y_hrs_ok hk n).1
/-- the class's hours in a copy -/
theorem m_hours_e {k : Nat} {W : Nat → Nat → Int} (hk : k < 3) (h : e_q (W k) P) (ho : q_ok H 9 (W k)) : ∀ n : Nat, e_q (m_hours k n W k) (y_hrs n P)
  | 0 => h
  | n + 1 => by
    have ih := m_hours_e hk h ho n
    have e1 : m_hours k (n + 1) W k = h_P (m_hours k n W k) (m_hours k n W 21) (m_hours k n W 22) (m_hours k n W 23) := m_hour_p hk
    rw [e1, y_hrs_s]
    exact (e_hour ih (m_hours_z hk ho n).1).1
theorem m_hour_e {k : Nat} {W : Nat → Nat → Int} (hk : k < 3) (h : e_q (W k) P) (ho : q_ok H 9 (W k)) : e_q (m_hour k W k) (y_hr P) ∧ ∀ g : Nat, (g : Int) < W k 5 → m_hour k W 22 g = y_re P g := by
  refine ⟨?_, fun g hg => ?_⟩
  · rw [m_hour_p hk]; exact (e_hour h ho).1
  · rw [m_hour_k, q_re]
    exact (e_hour (B := y_z) (B1 := y_z) h ho).2 g hg
end Z40
