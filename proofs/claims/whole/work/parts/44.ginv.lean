/-! THE TWO SYSTEMS SIDE BY SIDE: what holds between calls -/
def q_bk (P : Nat → Int) : Prop := ∀ e ∈ q_bl P, 0 ≤ e.1 ∧ e.1 ≤ 9
def p_rel (H : Int) (P A : Nat → Int) : Prop := q_sim P A ∧ q_ok H 8 P ∧ q_bk P
def g_txt (W : Nat → Nat → Int) : Prop := (0 ≤ W 19 0 ∧ W 19 0 ≤ 120) ∧ W 26 1 = W 19 0 ∧ ∀ i : Nat, (i : Int) < W 19 0 → (0 ≤ W 20 i ∧ W 20 i ≤ 255) ∧ W 35 i = W 20 i
def g_his (H : Int) (W : Nat → Nat → Int) : Prop := (0 ≤ W 24 0 ∧ W 24 0 ≤ 13) ∧ (0 ≤ W 24 1 ∧ W 24 1 ≤ 14) ∧ W 26 3 = W 24 1 ∧ ∀ i : Nat, (i : Int) < W 24 1 → p_rel H (W (3 + ((W 24 0).toNat + 13 - i) % 14)) (fun j => W 33 (157 * ((W 24 1).toNat - 1 - i) + j))
def g_slo (H : Int) (W : Nat → Nat → Int) : Prop := ∀ i : Nat, i < 2 → W 25 i = W 39 i ∧ (0 ≤ W 25 i ∧ W 25 i ≤ 1) ∧ (W 25 i = 1 → p_rel H (W (17 + i)) (fun j => W 34 (157 * i + j)))
def g_inv (H : Int) (W : Nat → Nat → Int) : Prop := p_rel H (W 0) (W 30) ∧ g_txt W ∧ g_his H W ∧ g_slo H W
def m_sh (D : Nat → Int) (n : Nat) : Nat → Int := fun j => if j < n then D (j + 157) else D j
def m_nd (D A : Nat → Int) (a : Int) : Nat → Int := if a = 14 then q_cpg (m_sh D 2041) A 0 2041 157 else q_cpg D A 0 (157 * a.toNat) 157
def m_na (a : Int) : Int := if a = 14 then 14 else a + 1
def g_sm (W V : Nat → Nat → Int) : Prop := (∀ r, (r = 0 ∨ (3 ≤ r ∧ r ≤ 18) ∨ r = 20 ∨ r = 24 ∨ r = 25 ∨ r = 30 ∨ r = 33 ∨ r = 34 ∨ r = 35 ∨ r = 39) → V r = W r) ∧ V 19 0 = W 19 0 ∧ V 26 1 = W 26 1 ∧ V 26 3 = W 26 3
/-- an action's step: the state before is remembered on both sides -/
def g_st (W V : Nat → Nat → Int) : Prop := (∀ r, ((3 ≤ r ∧ r ≤ 16 ∧ r ≠ 3 + (W 24 0).toNat) ∨ r = 17 ∨ r = 18 ∨ r = 20 ∨ r = 25 ∨ r = 34 ∨ r = 35 ∨ r = 39) → V r = W r) ∧ V 19 0 = W 19 0 ∧ V 26 1 = W 26 1 ∧ V 26 3 = m_na (W 26 3) ∧ V (3 + (W 24 0).toNat) = q_copy (W (3 + (W 24 0).toNat)) (W 0) ∧ V 24 0 = (if W 24 0 + 1 < 14 then W 24 0 + 1 else 0) ∧ V 24 1 = (if 14 < W 24 1 + 1 then 14 else W 24 1 + 1) ∧ V 33 = m_nd (W 33) (W 30) (W 26 3)
section Z44
variable {P Q A B : Nat → Int} {W V : Nat → Nat → Int} {H G : Int}
theorem ok_mono {H1 G1 : Int} (h : q_ok H G P) (hH : H ≤ H1) (hG : P 5 ≤ G1) : q_ok H1 G1 P := by
  obtain ⟨⟨a0, a1, a2, a3, a4, a5, a6, a7, a8, a14⟩, hs⟩ := h
  exact ⟨⟨a0, a1, a2, a3, a4, by omega, a6, a7, by omega, a14⟩, hs⟩
theorem rel_9 (h : p_rel H P A) : q_ok H 9 P := ok_mono h.2.1 (Int.le_refl _) (by have := h.2.1.1.2.2.2.2.2.1; omega)
theorem rel_mono {H1 : Int} (h : p_rel H P A) (hH : H ≤ H1) : p_rel H1 P A := ⟨h.1, ok_mono h.2.1 hH h.2.1.1.2.2.2.2.2.1.2, h.2.2⟩
theorem bk_i (h : q_bk P) (h14 : 0 ≤ P 14) : ∀ i : Nat, (i : Int) < P 14 → 0 ≤ P (117 + 2 * i) ∧ P (117 + 2 * i) ≤ 9 := fun i hi =>
  h (P (117 + 2 * i), P (118 + 2 * i)) (by unfold q_bl; exact List.mem_map.mpr ⟨i, List.mem_range.mpr (by omega), rfl⟩)
theorem bl_ext (h : ∀ j, j < 157 → Q j = P j) (h14 : 0 ≤ P 14 ∧ P 14 ≤ 20) : q_bl Q = q_bl P := by
  unfold q_bl
  rw [h 14 (by omega)]
  apply map_range_c
  intro i hi
  rw [h _ (by omega), h _ (by omega)]
theorem lv_157 {j : Nat} (h : q_lv P j) : j < 117 := by unfold q_lv at h; omega
theorem sim_ext {B : Nat → Int} (h : q_sim P A) (h14 : 0 ≤ P 14 ∧ P 14 ≤ 20) (hA : ∀ j, j < 157 → B j = A j) : q_sim P B := by
  have e14 := sl_lt h.1 (j := 14) (by omega)
  refine ⟨fun j hj => ?_, ?_⟩
  · rw [hA j (by have := lv_157 hj; omega)]; exact h.1 j hj
  · rw [bl_ext hA (by omega)]; exact h.2
theorem rel_ext (h : p_rel H P A) (hA : ∀ j, j < 157 → B j = A j) : p_rel H P B := ⟨sim_ext h.1 h.2.1.1.2.2.2.2.2.2.2.2.2 hA, h.2⟩
theorem copy_lv (h : q_ok H G Q) (hG : G ≤ 9) {j : Nat} (hj : q_lv Q j ∨ (117 ≤ j ∧ j < 157)) : q_copy P Q j = Q j := by
  have a4 := h.1.2.2.2.2.1
  have a5 := h.1.2.2.2.2.2.1
  have a6 := h.1.2.2.2.2.2.2.1
  unfold q_copy
  unfold q_lv at hj
  rw [if_neg (by omega), if_neg (by omega), if_neg (by omega)]
theorem copy_ok (h : q_ok H G Q) (hG : G ≤ 9) : q_ok H G (q_copy P Q) := by
  have sl : q_sl Q (q_copy P Q) := fun j hj => (copy_lv h hG (Or.inl hj)).symm
  exact ok_sl sl h hG
theorem copy_sl (h : q_ok H G Q) (hG : G ≤ 9) (hs : q_sl Q A) : q_sl (q_copy P Q) A := by
  intro j hj
  have hj1 : q_lv Q j := by
    unfold q_lv at hj ⊢
    rw [copy_lv h hG (j := 4) (Or.inl (Or.inl (by omega))), copy_lv h hG (j := 5) (Or.inl (Or.inl (by omega))), copy_lv h hG (j := 6) (Or.inl (Or.inl (by omega)))] at hj
    exact hj
  rw [copy_lv h hG (Or.inl hj1)]
  exact hs j hj1
theorem copy_bl (h : q_ok H G Q) (hG : G ≤ 9) : q_bl (q_copy P Q) = q_bl Q := by
  have a14 := h.1.2.2.2.2.2.2.2.2.2
  unfold q_bl
  rw [copy_lv h hG (j := 14) (Or.inl (Or.inl (by omega)))]
  apply map_range_c
  intro i hi
  rw [copy_lv h hG (Or.inr (by omega)), copy_lv h hG (Or.inr (by omega))]
/-- a copy on both sides -/
theorem rel_copy (h : p_rel H Q A) (hA : ∀ j, j < 157 → B j = A j) : p_rel H (q_copy P Q) B := by
  have h1 := rel_ext h hA
  refine ⟨⟨copy_sl h.2.1 (by omega) h1.1.1, ?_⟩, copy_ok h.2.1 (by omega), ?_⟩
  · rw [copy_bl h.2.1 (by omega)]; exact h1.1.2
  · unfold q_bk; rw [copy_bl h.2.1 (by omega)]; exact h.2.2
theorem cpg_v {i j n q : Nat} (h : q < n) : q_cpg P Q i j n (j + q) = Q (i + q) := by
  unfold q_cpg; rw [if_pos (by omega)]; congr 1; omega
theorem cpg_o {i j n q : Nat} (h : q < j ∨ j + n ≤ q) : q_cpg P Q i j n q = P q := by
  unfold q_cpg; rw [if_neg (by omega)]
/-! hours -/
theorem bk_ent {s t : Int} (h : q_bk P) (h14 : 0 ≤ P 14 ∧ P 14 ≤ 20) (hs : 0 ≤ s ∧ s ≤ 9) : q_bk (q_ent P s t) := by
  intro e he
  rw [q_bl_ent h14] at he
  rcases List.mem_append.mp he with q | q
  · split at q
    · exact h e q
    · exact h e (List.mem_of_mem_tail q)
  · rw [List.mem_singleton.mp q]; exact hs
theorem bk_enter {n : Nat} (h : q_bk P) (hk : q_ok H 9 P) (hn : n ≤ 9) : q_bk (q_it (q_es B) n P) :=
  (q_it_inv (f := q_es B) (Z := fun _ x => q_bk x ∧ (q_ok H 9 x ∧ q_kb P x)) (N := n) (x := P) (fun m x hm hx => by
    refine ⟨?_, q_es_z hx.2⟩
    unfold q_es
    split
    · split
      · exact bk_ent hx.1 hx.2.1.1.2.2.2.2.2.2.2.2.2 (by omega)
      · exact hx.1
    · exact hx.1) ⟨h, hk, fun _ _ _ => rfl⟩ n (Nat.le_refl _)).1
theorem bk_hour {K Z B : Nat → Int} (h : q_bk P) (hk : q_ok H 9 P) : q_bk (h_P P K Z B) := by
  have h2 := hk.1.2.2.1
  have hf := q_fill_ok hk (by omega) (u := P 2) (by omega)
  have f5 : q_fill P (P 2) 5 = P 5 := q_fill_o (by omega)
  have ho : ∀ i : Nat, (i : Int) < P 5 → ((q_ordC (h_K P K) i : Nat) : Int) < P 5 := fun i hi => by
    have := (q_keys_w (K := K) hf i (by rw [f5]; exact hi)).2
    rw [f5] at this; exact this
  have kP := g_M_k (Z := Z) hk ho
  have hMP : h_M P K Z = g_M (q_ordC (h_K P K)) P Z := rfl
  have okM := h_M_ok (K := K) (Z := Z) hk
  have a4 := okM.1.2.2.2.2.1
  unfold h_P q_enter
  exact bk_enter (by unfold q_bk; rw [hMP, kP.1]; exact h) okM (by omega)
/-- what two pages that tell the same keep in an hour -/
def p_rl (H : Int) (P A : Nat → Int) : Prop := q_sim P A ∧ q_ok H 9 P ∧ q_bk P
theorem rl_of (h : p_rel H P A) : p_rl H P A := ⟨h.1, rel_9 h, h.2.2⟩
theorem rl_8 (h : p_rl H P A) (h5 : P 5 ≤ 8) : p_rel H P A := ⟨h.1, ok_mono h.2.1 (Int.le_refl _) h5, h.2.2⟩
theorem hours_rl {k : Nat} (hk : k < 3) (h : p_rl H (W k) (V (30 + k))) : ∀ n : Nat, p_rl (H + n) (m_hours k n W k) ((n_hours k n V).1 (30 + k)) ∧ q_made (m_hours k n W k) = q_made (W k) + (n_hours k n V).2 ∧ 0 ≤ (n_hours k n V).2 ∧ (n_hours k n V).2 ≤ 108 * n
  | 0 => ⟨by rw [show H + ((0 : Nat) : Int) = H by omega]; exact h, (Int.add_zero _).symm, Int.le_refl _, Int.le_refl _⟩
  | n + 1 => by
    obtain ⟨i1, i2, i3, i4⟩ := hours_rl hk h n
    have s := sim_hour (K := m_hours k n W 21) (O := (n_hours k n V).1 36) (Z := m_hours k n W 22) (Z1 := (n_hours k n V).1 37) (B := m_hours k n W 23) (B1 := (n_hours k n V).1 38) i1.1 i1.2.1
    have b := bk_hour (K := m_hours k n W 21) (Z := m_hours k n W 22) (B := m_hours k n W 23) i1.2.2 i1.2.1
    have o := h_P_ok (K := m_hours k n W 21) (Z := m_hours k n W 22) (B := m_hours k n W 23) i1.2.1
    have e1 : m_hours k (n + 1) W k = h_P (m_hours k n W k) (m_hours k n W 21) (m_hours k n W 22) (m_hours k n W 23) := m_hour_p hk
    have e2 : (n_hours k (n + 1) V).1 (30 + k) = n_P ((n_hours k n V).1 (30 + k)) ((n_hours k n V).1 36) ((n_hours k n V).1 37) ((n_hours k n V).1 38) := n_hour_p hk
    have e3 : (n_hours k (n + 1) V).2 = (n_hours k n V).2 + n_made k (n_hours k n V).1 := rfl
    rw [e1, e2, e3, show H + ((n + 1 : Nat) : Int) = H + n + 1 by omega]
    unfold n_made
    obtain ⟨s1, s2, s3, s4, s5⟩ := s
    refine ⟨⟨s1, o, b⟩, by rw [s3, i2]; omega, by omega, by omega⟩
/-- the reasons of an hour -/
theorem hour_why {k : Nat} (hk : k < 3) (h : p_rl H (W k) (V (30 + k))) {g : Nat} (hg : (g : Int) < W k 5) : m_hour k W 22 g = n_hour k V 37 g := by
  have s := (sim_hour (K := W 21) (O := V 36) (Z := W 22) (Z1 := V 37) (B := W 23) (B1 := V 38) h.1 h.2.1).2.1 g hg
  rw [m_hour_k, n_hour_k, q_re, q_re]
  exact s
/-! steps between calls -/
theorem inv_sm (h : g_inv H W) (hs : g_sm W V) : g_inv H V := by
  obtain ⟨h1, h2, h3, h4⟩ := h
  obtain ⟨s1, s2, s3, s4⟩ := hs
  refine ⟨?_, ?_, ?_, ?_⟩
  · rw [s1 0 (by omega), s1 30 (by omega)]; exact h1
  · unfold g_txt; rw [s1 20 (by omega), s1 35 (by omega), s2, s3]; exact h2
  · unfold g_his
    rw [s1 24 (by omega), s1 33 (by omega), s4]
    refine ⟨h3.1, h3.2.1, h3.2.2.1, fun i hi => ?_⟩
    rw [s1 _ (by have := Nat.mod_lt ((W 24 0).toNat + 13 - i) (show 14 > 0 by omega); omega)]
    exact h3.2.2.2 i hi
  · unfold g_slo
    intro i hi
    rw [s1 25 (by omega), s1 39 (by omega), s1 34 (by omega), s1 _ (by omega)]
    exact h4 i hi
theorem inv_mono {H1 : Int} (h : g_inv H W) (hH : H ≤ H1) : g_inv H1 W :=
  ⟨rel_mono h.1 hH, h.2.1, ⟨h.2.2.1.1, h.2.2.1.2.1, h.2.2.1.2.2.1, fun i hi => rel_mono (h.2.2.1.2.2.2 i hi) hH⟩, fun i hi => ⟨(h.2.2.2 i hi).1, (h.2.2.2 i hi).2.1, fun q => rel_mono ((h.2.2.2 i hi).2.2 q) hH⟩⟩
theorem inv_act {H1 : Int} (h : g_inv H W) (hH : H ≤ H1) (hs : g_st W V) (hp : p_rel H1 (V 0) (V 30)) : g_inv H1 V := by
  obtain ⟨h1, h2, ⟨n1, c1, a1, h3⟩, h4⟩ := h
  obtain ⟨s1, s2, s3, s4, s5, s6, s7, s8⟩ := hs
  obtain ⟨n, hn⟩ : ∃ n : Nat, W 24 0 = n := ⟨(W 24 0).toNat, by omega⟩
  obtain ⟨c, hc⟩ : ∃ c : Nat, W 24 1 = c := ⟨(W 24 1).toNat, by omega⟩
  have en : (W 24 0).toNat = n := by omega
  have ec : (W 24 1).toNat = c := by omega
  rw [en] at s1 s5 h3
  rw [ec] at h3
  rw [a1] at s4 s8
  refine ⟨hp, ?_, ?_, ?_⟩
  · unfold g_txt; rw [s1 20 (by omega), s1 35 (by omega), s2, s3]; exact h2
  · unfold g_his
    unfold m_na at s4
    have vc : V 24 1 = if c < 14 then ((c + 1 : Nat) : Int) else 14 := by rw [s7]; (repeat' split) <;> omega
    have vn : V 24 0 = (((n + 1) % 14 : Nat) : Int) := by rw [s6]; split <;> omega
    have vnt : (V 24 0).toNat = (n + 1) % 14 := by omega
    refine ⟨by omega, by split at vc <;> omega, by rw [s4, s7]; (repeat' split) <;> omega, fun i hi => ?_⟩
    rw [vnt]
    cases i with
    | zero =>
      have er : ((n + 1) % 14 + 13 - 0) % 14 = n := by omega
      rw [er, s5, s8]
      refine rel_copy (rel_mono h1 hH) (fun j hj => ?_)
      unfold m_nd
      by_cases e : W 24 1 = 14
      · rw [if_pos e]
        have e1 : (V 24 1).toNat - 1 - 0 = 13 := by split at vc <;> omega
        rw [e1]
        show q_cpg _ _ 0 2041 157 (157 * 13 + j) = W 30 j
        rw [show 157 * 13 + j = 2041 + j by omega, cpg_v hj, Nat.zero_add]
      · rw [if_neg e, ec]
        have e1 : (V 24 1).toNat - 1 - 0 = c := by split at vc <;> omega
        rw [e1, cpg_v hj, Nat.zero_add]
    | succ i =>
      have er : ((n + 1) % 14 + 13 - (i + 1)) % 14 = (n + 13 - i) % 14 := by split at vc <;> omega
      rw [er, s1 _ (by split at vc <;> omega), s8]
      refine rel_ext (rel_mono (h3 i (by split at vc <;> omega)) hH) (fun j hj => ?_)
      unfold m_nd
      by_cases e : W 24 1 = 14
      · rw [if_pos e]
        have e1 : (V 24 1).toNat - 1 - (i + 1) = 12 - i := by split at vc <;> omega
        rw [e1, cpg_o (by omega)]
        unfold m_sh
        rw [if_pos (by omega)]
        congr 1
        split at vc <;> omega
      · rw [if_neg e, ec]
        have e1 : (V 24 1).toNat - 1 - (i + 1) = c - 1 - i := by split at vc <;> omega
        rw [e1, cpg_o (by split at vc <;> omega)]
  · unfold g_slo
    intro i hi
    rw [s1 25 (by omega), s1 39 (by omega), s1 34 (by omega), s1 _ (by omega)]
    exact ⟨(h4 i hi).1, (h4 i hi).2.1, fun q => rel_mono ((h4 i hi).2.2 q) hH⟩
end Z44
