/-! PURE: what actions do to two pages that tell the same -/
abbrev g_set (u v : Int) : Prop := (u = 0 ∧ 0 ≤ v ∧ v ≤ 99) ∨ (u = 1 ∧ 0 ≤ v ∧ v ≤ 9999) ∨ (u = 2 ∧ 0 ≤ v ∧ v ≤ 9) ∨ (u = 3 ∧ 0 ≤ v ∧ v ≤ 50)
def p_rel (H : Int) (P A : Nat → Int) : Prop := q_sim P A ∧ q_ok H 8 P ∧ q_bk P
def p_rl (H : Int) (P A : Nat → Int) : Prop := q_sim P A ∧ q_ok H 9 P ∧ q_bk P
section Z42
variable {P Q A P1 A1 : Nat → Int} {H H1 G : Int} {u v w : Int}
theorem rel_9 (h : p_rel H P A) : q_ok H 9 P := ok_9 h.2.1
theorem rel_new (h : p_rel H P A) (hs : q_sl P1 A1) (hok : q_ok H1 8 P1) (e1 : ∀ j, j = 14 ∨ 117 ≤ j → P1 j = P j) (e2 : ∀ j, j = 14 ∨ 117 ≤ j → A1 j = A j) : p_rel H1 P1 A1 := by
  have b1 : q_bl P1 = q_bl P := bl_c (e1 14 (by omega)) (fun j hj => e1 j (by omega))
  have b2 : q_bl A1 = q_bl A := bl_c (e2 14 (by omega)) (fun j hj => e2 j (by omega))
  exact ⟨⟨hs, by rw [b1, b2]; exact h.1.2⟩, hok, by unfold q_bk; rw [b1]; exact h.2.2⟩
theorem set_o {j i : Nat} (h : i ≠ j ∧ i ≠ 7 ∧ i ≠ 13) : q_set P j v i = P i := by
  unfold q_set; rw [q_pn (by omega), q_pn (by omega), q_pn (by omega)]
theorem set_rel {j : Nat} (h : p_rel H P A) (hj : j ≤ 3) (hv : g_set j v) : p_rel H (q_set P j v) (q_set A j v) := by
  obtain ⟨⟨sl, hb⟩, ⟨⟨a0, a1, a2, a3, a4, a5, a6, a7, a8, a14⟩, hs, hg, hw⟩, bk⟩ := h
  have e1 := sl_lt sl (j := 1) (by omega)
  have e7 := sl_lt sl (j := 7) (by omega)
  have e13 := sl_lt sl (j := 13) (by omega)
  have er : q_rest P j v = q_rest A j v := by
    unfold q_rest q_pu
    rw [← e7, ← e1]
  refine rel_new ⟨⟨sl, hb⟩, ⟨⟨a0, a1, a2, a3, a4, a5, a6, a7, a8, a14⟩, hs, hg, hw⟩, bk⟩ ?_ ?_ (fun i hi => set_o (by omega)) (fun i hi => set_o (by omega))
  · unfold q_set
    exact sl_pu (sl_pu (sl_pu sl (by omega) rfl) (by omega) (by rw [er, e7])) (by omega) (by rw [er, e13])
  · have o4 : q_set P j v 4 = P 4 := set_o (by omega)
    have o5 : q_set P j v 5 = P 5 := set_o (by omega)
    have o6 : q_set P j v 6 = P 6 := set_o (by omega)
    have o8 : q_set P j v 8 = P 8 := set_o (by omega)
    have o14 : q_set P j v 14 = P 14 := set_o (by omega)
    have o7 : q_set P j v 7 = P 7 - q_rest P j v := by unfold q_set; rw [q_pn (by omega), q_pe]
    have oj : q_set P j v j = v := by unfold q_set; rw [q_pn (by omega), q_pn (by omega), q_pe]
    have o1 : q_set P j v 1 = q_pu P j v 1 := by unfold q_set; rw [q_pn (by omega), q_pn (by omega)]
    have hr : q_rest P j v = if 0 < P 7 - q_pu P j v 1 then P 7 - q_pu P j v 1 else 0 := rfl
    have hq : q_pu P j v 1 = if 1 = j then v else P 1 := rfl
    unfold q_ok
    rw [o4, o5, o6, o8, o14, o7, o1]
    refine ⟨⟨?_, ?_, ?_, ?_, a4, a5, a6, ?_, a8, a14⟩, fun s hs1 => ?_, fun g hg1 => ?_, fun i hi => ?_⟩
    · by_cases c : j = 0
      · subst c; rw [oj]; omega
      · rw [set_o (by omega)]; exact a0
    · rw [hq]; split <;> omega
    · by_cases c : j = 2
      · subst c; rw [oj]; omega
      · rw [set_o (by omega)]; exact a2
    · by_cases c : j = 3
      · subst c; rw [oj]; omega
      · rw [set_o (by omega)]; exact a3
    · rw [hr, hq]; (repeat' split) <;> omega
    · rw [set_o (by omega), set_o (by omega), set_o (by omega), set_o (by omega)]; exact hs s hs1
    · rw [set_o (by omega), set_o (by omega), set_o (by omega), set_o (by omega)]; exact hg g hg1
    · rw [set_o (by omega)]; exact hw i hi
theorem fill_rel (h : p_rel H P A) (hu : 0 ≤ u ∧ u ≤ 20000) : p_rel H (q_fill P u) (q_fill A u) :=
  rel_new h (sl_fill h.1.1) (q_fill_ok h.2.1 (by omega) hu) (fun j hj => q_fill_o (by omega)) (fun j hj => q_fill_o (by omega))
theorem puts_ok {b r t : Int} (h : q_ok H G P) (h4 : P 4 < 6) (hG : G ≤ 9) (hb : 1 ≤ b ∧ b ≤ 9) (hr : 0 ≤ r ∧ r ≤ 9) (ht : 0 ≤ t ∧ t ≤ 99) : q_ok H G (q_puts P b r t) := by
  obtain ⟨⟨a0, a1, a2, a3, a4, a5, a6, a7, a8, a14⟩, hs, hg, hw⟩ := h
  have po : ∀ j, (j < 15 ∧ j ≠ 4) ∨ 39 ≤ j → q_puts P b r t j = P j := fun j hj => by
    unfold q_puts; rw [q_pn (by omega), q_pn (by omega), q_pn (by omega), q_pn (by omega), q_pn (by omega)]
  unfold q_ok
  rw [puts_4, po 0 (by omega), po 1 (by omega), po 2 (by omega), po 3 (by omega), po 5 (by omega), po 6 (by omega), po 7 (by omega), po 8 (by omega), po 14 (by omega)]
  refine ⟨⟨a0, a1, a2, a3, by omega, a5, a6, a7, a8, a14⟩, fun s hs1 => ?_, fun g hg1 => ?_, fun i hi => ?_⟩
  · by_cases e : (s : Int) < P 4
    · have := hs s e
      unfold q_puts
      simp only [q_pu, if_true]
      refine ⟨?_, ?_, ?_, ?_⟩ <;> ((repeat' split) <;> omega)
    · have e1 : s = (P 4).toNat := by omega
      subst e1
      unfold q_puts
      simp only [q_pu, if_true]
      refine ⟨?_, ?_, ?_, ?_⟩ <;> ((repeat' split) <;> omega)
  · rw [po _ (by omega), po _ (by omega), po _ (by omega), po _ (by omega)]
    have := hg g hg1
    omega
  · rw [po _ (by omega)]; exact hw i hi
theorem putg_ok {G1 b r : Int} (h : q_ok H G P) (h5 : P 5 + 1 ≤ G1) (hG1 : G1 ≤ 9) (hb : 0 ≤ b ∧ b < P 4) (hr : 0 ≤ r ∧ r ≤ 3) : q_ok H G1 (q_putg P b r) := by
  obtain ⟨⟨a0, a1, a2, a3, a4, a5, a6, a7, a8, a14⟩, hs, hg, hw⟩ := h
  have po : ∀ j, (j < 39 ∧ j ≠ 5) ∨ 93 ≤ j → q_putg P b r j = P j := fun j hj => by
    unfold q_putg; rw [q_pn (by omega), q_pn (by omega), q_pn (by omega), q_pn (by omega), q_pn (by omega), q_pn (by omega), q_pn (by omega)]
  unfold q_ok
  rw [putg_5, po 0 (by omega), po 1 (by omega), po 2 (by omega), po 3 (by omega), po 4 (by omega), po 6 (by omega), po 7 (by omega), po 8 (by omega), po 14 (by omega)]
  refine ⟨⟨a0, a1, a2, a3, a4, by omega, a6, a7, a8, a14⟩, fun s hs1 => ?_, fun g hg1 => ?_, fun i hi => ?_⟩
  · rw [po _ (by omega), po _ (by omega), po _ (by omega), po _ (by omega)]; exact hs s hs1
  · by_cases e : (g : Int) < P 5
    · have := hg g e
      unfold q_putg
      simp only [q_pu, if_true]
      refine ⟨?_, ?_, ?_, ?_⟩ <;> ((repeat' split) <;> omega)
    · have e1 : g = (P 5).toNat := by omega
      subst e1
      unfold q_putg
      simp only [q_pu, if_true]
      refine ⟨?_, ?_, ?_, ?_⟩ <;> ((repeat' split) <;> omega)
  · rw [po _ (by omega)]; exact hw i hi
theorem puts_rel {b r t : Int} (h : p_rel H P A) (h4 : P 4 < 6) (hb : 1 ≤ b ∧ b ≤ 9) (hr : 0 ≤ r ∧ r ≤ 9) (ht : 0 ≤ t ∧ t ≤ 99) : p_rel H (q_puts P b r t) (q_puts A b r t) := by
  have a4 := h.2.1.1.2.2.2.2.1
  have e4 := sl_lt h.1.1 (j := 4) (by omega)
  refine rel_new h (sl_puts h.1.1 (by omega)) (puts_ok h.2.1 h4 (by omega) hb hr ht) (fun j hj => ?_) (fun j hj => ?_)
  · unfold q_puts; rw [q_pn (by omega), q_pn (by omega), q_pn (by omega), q_pn (by omega), q_pn (by omega)]
  · unfold q_puts; rw [q_pn (by omega), q_pn (by omega), q_pn (by omega), q_pn (by omega), q_pn (by omega)]
theorem putg_rl {b r : Int} (h : p_rel H P A) (hb : 0 ≤ b ∧ b < P 4) (hr : 0 ≤ r ∧ r ≤ 3) : p_rl H (q_putg P b r) (q_putg A b r) := by
  have a5 := h.2.1.1.2.2.2.2.2.1
  have e5 := sl_lt h.1.1 (j := 5) (by omega)
  have b1 : q_bl (q_putg P b r) = q_bl P := bl_c (putg_o (by omega) (by omega)) (fun j hj => by unfold q_putg; rw [q_pn (by omega), q_pn (by omega), q_pn (by omega), q_pn (by omega), q_pn (by omega), q_pn (by omega), q_pn (by omega)])
  have b2 : q_bl (q_putg A b r) = q_bl A := bl_c (putg_o (by omega) (by omega)) (fun j hj => by unfold q_putg; rw [q_pn (by omega), q_pn (by omega), q_pn (by omega), q_pn (by omega), q_pn (by omega), q_pn (by omega), q_pn (by omega)])
  exact ⟨⟨sl_putg h.1.1 (by omega), by rw [b1, b2]; exact h.1.2⟩, putg_ok h.2.1 (by omega) (by omega) hb hr, by unfold q_bk; rw [b1]; exact h.2.2⟩
theorem cell_rel {j : Nat} {x : Int} (h : p_rel H P A) (hj : j ≠ 4 ∧ j ≠ 5 ∧ j ≠ 6 ∧ j ≠ 14 ∧ j < 117) (hok : q_ok H 8 (q_pu P j x)) : p_rel H (q_pu P j x) (q_pu A j x) :=
  rel_new h (sl_pu h.1.1 (by omega) rfl) hok (fun i hi => q_pn (by omega)) (fun i hi => q_pn (by omega))
theorem bring_ok {j : Nat} {G : Int} (ok : q_ok H G P) (hG : G ≤ 9) (hj : (j : Int) < P 5) (hv : 0 ≤ v ∧ v < P 4) : q_ok H G (q_pu (q_pu P (39 + 6 * j) v) (39 + 6 * j + 3) 0) := by
  have a4 := ok.1.2.2.2.2.1
  have a5 := ok.1.2.2.2.2.2.1
  have a6 := ok.1.2.2.2.2.2.2.1
  have e4 : q_pu P (39 + 6 * j) v 4 = P 4 := q_pn (by omega)
  have e5 : q_pu P (39 + 6 * j) v 5 = P 5 := q_pn (by omega)
  have e6 : q_pu P (39 + 6 * j) v 6 = P 6 := q_pn (by omega)
  have k1 : q_ok H G (q_pu P (39 + 6 * j) v) := q_ok_pu ok (by omega) (fun s _ => by omega) (fun g _ => by omega) (fun i _ => by omega)
  exact q_ok_pu k1 (by omega) (fun s _ => by omega) (fun g _ => by omega) (fun i _ => by omega)
def q_fm (s : Int) (e : Int × Int) : Option (Int × Int) := if e.1 = s then none else some (if e.1 ≤ s then e.1 else e.1 - 1, e.2)
def q_en (P : Nat → Int) (i : Nat) : Int × Int := (P (117 + 2 * i), P (118 + 2 * i))
def q_shM (P : Nat → Int) (s n : Nat) : Nat → Int := fun j => if 15 + 4 * s ≤ j ∧ j < 15 + 4 * s + n then P (j + 4) else P j
def q_dropM (A : Nat → Int) (s : Nat) : Nat → Int := q_strC (q_it (q_gds s) (A 5).toNat (q_pu (q_shM (q_pu A 13 (A 13 + A (15 + 4 * s + 3))) s (20 - 4 * s)) 4 (A 4 - 1))) s
theorem str_inv {s : Int} : ∀ n : Nat, (0 ≤ (q_it (q_strs s) n (P, 0)).2 ∧ (q_it (q_strs s) n (P, 0)).2 ≤ n) ∧ (∀ j, (j < 117 ∨ 117 + 2 * n ≤ j) → (q_it (q_strs s) n (P, 0)).1 j = P j) ∧ (List.range (q_it (q_strs s) n (P, 0)).2.toNat).map (q_en (q_it (q_strs s) n (P, 0)).1) = ((List.range n).map (q_en P)).filterMap (q_fm s)
  | 0 => ⟨⟨Int.le_refl _, Int.le_refl _⟩, fun _ _ => rfl, rfl⟩
  | n + 1 => by
    obtain ⟨h1, h2, h3⟩ := str_inv (s := s) n
    rw [q_its]
    generalize q_it (q_strs s) n (P, 0) = x at h1 h2 h3 ⊢
    obtain ⟨X, c⟩ := x
    dsimp only at h1 h2 h3 ⊢
    have e1 : X (117 + 2 * n) = P (117 + 2 * n) := h2 _ (by omega)
    have e2 : X (118 + 2 * n) = P (118 + 2 * n) := h2 _ (by omega)
    have er : ((List.range (n + 1)).map (q_en P)).filterMap (q_fm s) = ((List.range n).map (q_en P)).filterMap (q_fm s) ++ (match q_fm s (q_en P n) with | none => [] | some z => [z]) := by
      rw [List.range_succ, List.map_append, List.filterMap_append]
      congr 1
      simp only [List.map_cons, List.map_nil, List.filterMap_cons, List.filterMap_nil]
      cases q_fm s (q_en P n) <;> rfl
    rw [er]
    unfold q_strs
    dsimp only
    by_cases c1 : X (117 + 2 * n) = s
    · rw [if_pos c1]
      have ef : q_fm s (q_en P n) = none := by unfold q_fm q_en; rw [if_pos (by rw [← e1]; exact c1)]
      rw [ef, List.append_nil]
      exact ⟨by dsimp only; omega, fun j hj => h2 j (by omega), h3⟩
    · rw [if_neg c1]
      have ef : q_fm s (q_en P n) = some (if P (117 + 2 * n) ≤ s then P (117 + 2 * n) else P (117 + 2 * n) - 1, P (118 + 2 * n)) := by
        unfold q_fm q_en; rw [if_neg (by rw [← e1]; exact c1)]
      rw [ef]
      dsimp only
      refine ⟨by omega, fun j hj => ?_, ?_⟩
      · rw [q_pn (by omega), q_pn (by omega)]; exact h2 j (by omega)
      · have ec : (c + 1).toNat = c.toNat + 1 := by omega
        rw [ec, List.range_succ, List.map_append, ← h3]
        congr 1
        · apply map_range_c
          intro i hi
          unfold q_en
          rw [q_pn (by omega), q_pn (by omega), q_pn (by omega), q_pn (by omega)]
        · unfold q_en
          simp only [List.map_cons, List.map_nil]
          rw [q_pn (by omega), q_pe, q_pe]
          simp only [e1, e2]
theorem bl_en : q_bl P = (List.range (P 14).toNat).map (q_en P) := rfl
theorem str_bl {s : Int} (h : 0 ≤ P 14) : q_bl (q_strC P s) = (q_bl P).filterMap (q_fm s) ∧ (0 ≤ q_strC P s 14 ∧ q_strC P s 14 ≤ P 14) ∧ ∀ j, j < 117 → j ≠ 14 → q_strC P s j = P j := by
  obtain ⟨h1, h2, h3⟩ := str_inv (P := P) (s := s) (P 14).toNat
  refine ⟨?_, ?_, fun j hj hj1 => ?_⟩
  · rw [bl_en, bl_en, ← h3]
    unfold q_strC
    rw [q_pe]
    apply map_range_c
    intro i hi
    unfold q_en
    rw [q_pn (by omega), q_pn (by omega)]
  · unfold q_strC; rw [q_pe]; omega
  · unfold q_strC; rw [q_pn hj1]; exact h2 j (by omega)
theorem gds_v {s : Nat} : ∀ (n g : Nat), q_it (q_gds s) n P (39 + 6 * g) = if g < n then (if P (39 + 6 * g) ≤ s then P (39 + 6 * g) else P (39 + 6 * g) - 1) else P (39 + 6 * g)
  | 0, g => by rw [if_neg (by omega)]; rfl
  | n + 1, g => by
    have ih := gds_v (s := s) n
    rw [q_its]
    have en := ih n
    rw [if_neg (by omega)] at en
    generalize q_it (q_gds s) n P = X at ih en ⊢
    unfold q_gds
    by_cases c : X (39 + 6 * n) ≤ s
    · rw [if_pos c, ih g]
      rw [en] at c
      by_cases e : g = n
      · subst e
        rw [if_neg (show ¬ g < g by omega), if_pos (show g < g + 1 by omega), if_pos c]
      · by_cases e1 : g < n
        · rw [if_pos e1, if_pos (show g < n + 1 by omega)]
        · rw [if_neg e1, if_neg (show ¬ g < n + 1 by omega)]
    · rw [if_neg c]
      have en2 := en
      rw [en] at c
      by_cases e : g = n
      · subst e
        rw [q_pe, en2, if_pos (show g < g + 1 by omega), if_neg c]
      · rw [q_pn (by omega), ih g]
        by_cases e1 : g < n
        · rw [if_pos e1, if_pos (show g < n + 1 by omega)]
        · rw [if_neg e1, if_neg (show ¬ g < n + 1 by omega)]
theorem gds_o {s n : Nat} {j : Nat} (h : j < 39 ∨ 93 ≤ j ∨ (39 ≤ j ∧ (j - 39) % 6 ≠ 0)) (hn : n ≤ 9) : q_it (q_gds s) n P j = P j := by
  induction n with
  | zero => rfl
  | succ n ih =>
    rw [q_its]
    unfold q_gds
    split
    · exact ih (by omega)
    · rw [q_pn (by omega)]; exact ih (by omega)
theorem gat_0 {s : Int} : ∀ (n : Nat), 0 ≤ q_it (fun g c => c + q_b (P (39 + 6 * g) = s)) n (0 : Int) ∧ (q_it (fun g c => c + q_b (P (39 + 6 * g) = s)) n (0 : Int) ≤ 0 → ∀ g, g < n → P (39 + 6 * g) ≠ s)
  | 0 => ⟨Int.le_refl _, fun _ g hg => absurd hg (by omega)⟩
  | n + 1 => by
    obtain ⟨h1, h2⟩ := gat_0 (s := s) n
    have b := q_bw (c := P (39 + 6 * n) = s)
    rw [q_its]
    refine ⟨by omega, fun h g hg => ?_⟩
    by_cases e : g = n
    · subst e
      intro q
      rw [q_bt q] at h
      omega
    · exact h2 (by omega) g (by omega)
theorem drop_rel {s : Nat} (h : p_rel H P A) (hs : (s : Int) < P 4) (hg : q_gat P s ≤ 0) : p_rel H (q_dropC P s) (q_dropM A s) := by
  obtain ⟨⟨sl, hb⟩, ok, bk⟩ := h
  obtain ⟨⟨a0, a1, a2, a3, a4, a5, a6, a7, a8, a14⟩, os, og, ow⟩ := id ok
  have ok9 : q_ok H 9 P := ok_mono ok (Int.le_refl _) (by omega)
  have gz := (gat_0 (P := P) (s := s) (P 5).toNat).2 hg
  have e4 := sl_lt sl (j := 4) (by omega)
  have e5 := sl_lt sl (j := 5) (by omega)
  have e13 := sl_lt sl (j := 13) (by omega)
  have e14 := sl_lt sl (j := 14) (by omega)
  -- the class's page before the book
  have c3 : ∀ j, (j < 15 ∧ j ≠ 4) ∨ 93 ≤ j ∨ (39 ≤ j ∧ (j - 39) % 6 ≠ 0) → q_drop3 P s j = P j := fun j hj => by
    unfold q_drop3
    rw [gds_o (by omega) (by omega), q_pn (by omega), q_shfn (by omega)]
  have c4 : q_drop3 P s 4 = P 4 - 1 := by
    unfold q_drop3
    rw [gds_o (by omega) (by omega), q_pe]
  have cs : ∀ j, 15 ≤ j → j < 39 → q_drop3 P s j = if 15 + 4 * s ≤ j ∧ j < 15 + 4 * ((P 4).toNat - 1) then P (j + 4) else P j := fun j h1 h2 => by
    unfold q_drop3
    rw [gds_o (by omega) (by omega), q_pn (by omega)]
    unfold q_shf
    by_cases c : 15 + 4 * s ≤ j ∧ j < 15 + 4 * ((P 4).toNat - 1)
    · rw [if_pos c, if_pos (by omega)]
    · rw [if_neg c, if_neg (by omega)]
  have cg : ∀ g : Nat, (g : Int) < P 5 → q_drop3 P s (39 + 6 * g) = if P (39 + 6 * g) ≤ s then P (39 + 6 * g) else P (39 + 6 * g) - 1 := fun g hg1 => by
    unfold q_drop3
    rw [gds_v, if_pos (by omega), q_pn (by omega), q_shfn (by omega)]
  -- the model's
  generalize hB : q_it (q_gds s) (A 5).toNat (q_pu (q_shM (q_pu A 13 (A 13 + A (15 + 4 * s + 3))) s (20 - 4 * s)) 4 (A 4 - 1)) = B
  have hM : q_dropM A s = q_strC B s := by unfold q_dropM; rw [hB]
  have m3 : ∀ j, (j < 15 ∧ j ≠ 4 ∧ j ≠ 13) ∨ 93 ≤ j ∨ (39 ≤ j ∧ (j - 39) % 6 ≠ 0) → B j = A j := fun j hj => by
    rw [← hB, gds_o (by omega) (by omega), q_pn (by omega)]
    unfold q_shM
    rw [if_neg (by omega), q_pn (by omega)]
  have m4 : B 4 = A 4 - 1 := by rw [← hB, gds_o (by omega) (by omega), q_pe]
  have m13 : B 13 = A 13 + A (15 + 4 * s + 3) := by
    rw [← hB, gds_o (by omega) (by omega), q_pn (by omega)]
    unfold q_shM
    rw [if_neg (by omega), q_pe]
  have ms : ∀ j, 15 ≤ j → j < 39 → B j = if 15 + 4 * s ≤ j ∧ j < 35 then A (j + 4) else A j := fun j h1 h2 => by
    rw [← hB, gds_o (by omega) (by omega), q_pn (by omega)]
    unfold q_shM
    by_cases c : 15 + 4 * s ≤ j ∧ j < 35
    · rw [if_pos c, if_pos (by omega), q_pn (by omega)]
    · rw [if_neg c, if_neg (by omega), q_pn (by omega)]
  have mg : ∀ g : Nat, (g : Int) < P 5 → B (39 + 6 * g) = if P (39 + 6 * g) ≤ s then P (39 + 6 * g) else P (39 + 6 * g) - 1 := fun g hg1 => by
    have eg : P (39 + 6 * g) = A (39 + 6 * g) := sl_g sl ok9 hg1 (i := 0) (by omega)
    have e : q_pu (q_shM (q_pu A 13 (A 13 + A (15 + 4 * s + 3))) s (20 - 4 * s)) 4 (A 4 - 1) (39 + 6 * g) = P (39 + 6 * g) := by
      rw [q_pn (by omega)]
      unfold q_shM
      rw [if_neg (by omega), q_pn (by omega), eg]
    rw [← hB, gds_v, if_pos (by omega), e]
  have c14 : q_drop3 P s 14 = P 14 := c3 14 (by omega)
  have m14 : B 14 = A 14 := m3 14 (by omega)
  obtain ⟨k1, k2, k3⟩ := str_bl (P := q_drop3 P s) (s := s) (by omega)
  obtain ⟨l1, l2, l3⟩ := str_bl (P := B) (s := s) (by omega)
  have blP : q_bl (q_drop3 P s) = q_bl P := bl_c c14 (fun j hj => c3 j (by omega))
  have blA : q_bl B = q_bl A := bl_c m14 (fun j hj => m3 j (by omega))
  have d13 : q_dropC P s 13 = P 13 + P (15 + 4 * s + 3) := by
    unfold q_dropC; rw [q_pe, k3 13 (by omega) (by omega), c3 13 (by omega)]
  have dj : ∀ j, j ≠ 13 → q_dropC P s j = q_strC (q_drop3 P s) s j := fun j hj => by unfold q_dropC; rw [q_pn hj]
  have dl : ∀ j, j < 117 → j ≠ 13 → j ≠ 14 → q_dropC P s j = q_drop3 P s j := fun j h1 h2 h3 => by rw [dj j h2, k3 j h1 h3]
  have bl1 : q_bl (q_dropC P s) = (q_bl P).filterMap (q_fm s) := by
    rw [← blP, ← k1]
    exact bl_c (dj 14 (by omega)) (fun j hj => dj j (by omega))
  have bl2 : q_bl (q_dropM A s) = (q_bl A).filterMap (q_fm s) := by rw [hM, l1, blA]
  have hbl : (q_bl (q_dropC P s)).reverse = q_bl (q_dropM A s) := by
    rw [bl1, bl2, ← hb, List.filterMap_reverse]
  have len : ∀ X : Nat → Int, (q_bl X).length = (X 14).toNat := fun X => by rw [bl_en, List.length_map, List.length_range]
  have q14 : q_dropC P s 14 = q_dropM A s 14 := by
    have h1 := congrArg List.length hbl
    rw [List.length_reverse, len, len, dj 14 (by omega), hM] at h1
    rw [dj 14 (by omega), hM]
    omega
  refine ⟨⟨fun j hj => ?_, hbl⟩, ?_, ?_⟩
  · unfold q_lv at hj
    rw [dl 4 (by omega) (by omega) (by omega), dl 5 (by omega) (by omega) (by omega), dl 6 (by omega) (by omega) (by omega), c4, c3 5 (by omega), c3 6 (by omega)] at hj
    by_cases j14 : j = 14
    · subst j14; exact q14
    · by_cases j13 : j = 13
      · subst j13
        rw [d13, hM, l3 13 (by omega) (by omega), m13, e13, sl_s sl ok hs (i := 3) (by omega)]
      · rw [dl j (by omega) j13 j14, hM, l3 j (by omega) j14]
        by_cases c1 : j < 15
        · by_cases j4 : j = 4
          · subst j4; rw [c4, m4, e4]
          · rw [c3 j (by omega), m3 j (by omega)]; exact sl_lt sl c1
        · by_cases c2 : j < 39
          · rw [cs j (by omega) c2, ms j (by omega) c2]
            by_cases c5 : 15 + 4 * s ≤ j
            · rw [if_pos (by omega), if_pos (by omega)]; exact sl _ (by unfold q_lv; omega)
            · rw [if_neg (by omega), if_neg (by omega)]; exact sl _ (by unfold q_lv; omega)
          · by_cases c5 : j < 93
            · by_cases c6 : (j - 39) % 6 = 0
              · have ej : j = 39 + 6 * ((j - 39) / 6) := by omega
                rw [ej, cg _ (by omega), mg _ (by omega)]
              · rw [c3 j (by omega), m3 j (by omega)]; exact sl _ (by unfold q_lv; omega)
            · rw [c3 j (by omega), m3 j (by omega)]; exact sl _ (by unfold q_lv; omega)
  · unfold q_ok
    rw [dl 0 (by omega) (by omega) (by omega), dl 1 (by omega) (by omega) (by omega), dl 2 (by omega) (by omega) (by omega), dl 3 (by omega) (by omega) (by omega), dl 4 (by omega) (by omega) (by omega), dl 5 (by omega) (by omega) (by omega), dl 6 (by omega) (by omega) (by omega), dl 7 (by omega) (by omega) (by omega), dl 8 (by omega) (by omega) (by omega), dj 14 (by omega), c3 0 (by omega), c3 1 (by omega), c3 2 (by omega), c3 3 (by omega), c4, c3 5 (by omega), c3 6 (by omega), c3 7 (by omega), c3 8 (by omega)]
    refine ⟨⟨a0, a1, a2, a3, by omega, a5, a6, a7, a8, by omega⟩, fun i hi => ?_, fun g hg1 => ?_, fun i hi => ?_⟩
    · rw [dl _ (by omega) (by omega) (by omega), dl _ (by omega) (by omega) (by omega), dl _ (by omega) (by omega) (by omega), dl _ (by omega) (by omega) (by omega), cs _ (by omega) (by omega), cs _ (by omega) (by omega), cs _ (by omega) (by omega), cs _ (by omega) (by omega)]
      by_cases c : s ≤ i
      · have := os (i + 1) (by omega)
        rw [if_pos (by omega), if_pos (by omega), if_pos (by omega), if_pos (by omega)]
        rw [show 15 + 4 * i + 4 = 15 + 4 * (i + 1) by omega, show 15 + 4 * i + 1 + 4 = 15 + 4 * (i + 1) + 1 by omega, show 15 + 4 * i + 2 + 4 = 15 + 4 * (i + 1) + 2 by omega, show 15 + 4 * i + 3 + 4 = 15 + 4 * (i + 1) + 3 by omega]
        exact this
      · rw [if_neg (by omega), if_neg (by omega), if_neg (by omega), if_neg (by omega)]
        exact os i (by omega)
    · have q := og g hg1
      have z := gz g (by omega)
      rw [dl _ (by omega) (by omega) (by omega), dl _ (by omega) (by omega) (by omega), dl _ (by omega) (by omega) (by omega), dl _ (by omega) (by omega) (by omega), cg g hg1, c3 _ (by omega), c3 _ (by omega), c3 _ (by omega)]
      refine ⟨?_, q.2⟩
      split <;> omega
    · rw [dl _ (by omega) (by omega) (by omega), c3 _ (by omega)]
      exact ow i hi
  · intro e he
    rw [bl1] at he
    obtain ⟨x, hx, hx2⟩ := List.mem_filterMap.mp he
    have b := bk x hx
    unfold q_fm at hx2
    by_cases c : x.1 = s
    · rw [if_pos c] at hx2; cases hx2
    · rw [if_neg c] at hx2
      cases hx2
      dsimp only
      split <;> omega
theorem gat_w {s : Int} : ∀ (n : Nat), q_it (fun g c => c + q_b (P (39 + 6 * g) = s)) n (0 : Int) ≤ n
  | 0 => Int.le_refl _
  | n + 1 => by
    have ih := gat_w (s := s) n
    have b := q_bw (c := P (39 + 6 * n) = s)
    rw [q_its]
    omega
theorem gat_r {s : Int} (h5 : 0 ≤ P 5 ∧ P 5 ≤ 9) : 0 ≤ q_gat P s ∧ q_gat P s ≤ 9 := by
  have h1 := (gat_0 (P := P) (s := s) (P 5).toNat).1
  have h2 := gat_w (P := P) (s := s) (P 5).toNat
  unfold q_gat
  omega
theorem e_of (f : (Nat → Int) → Nat → Int) (g : (Nat → Int) → Nat → Int) (h : e_q P Q) (ok : q_ok H 8 P) (bk : q_bk P) (hr : ∀ P, e_q P Q → p_rel H P (e_rv Q) → q_sim (f P) (g (e_rv Q))) : e_q (f P) (f Q) :=
  sim_e (hr P h ⟨rv_sim h, ok, bk⟩) (hr Q e_rf ⟨rv_sim e_rf, e_ok h ok (by omega), e_bk h bk⟩)
theorem e_set {j : Nat} (h : e_q P Q) (ok : q_ok H 8 P) (bk : q_bk P) (hj : j ≤ 3) (hv : g_set j v) : e_q (q_set P j v) (q_set Q j v) := e_of (fun P => q_set P j v) (fun A => q_set A j v) h ok bk (fun P _ hr => (set_rel hr hj hv).1)
theorem e_fill (h : e_q P Q) (ok : q_ok H 8 P) (bk : q_bk P) (hu : 0 ≤ u ∧ u ≤ 20000) : e_q (q_fill P u) (q_fill Q u) := e_of (fun P => q_fill P u) (fun A => q_fill A u) h ok bk (fun P _ hr => (fill_rel hr hu).1)
theorem e_puts {b r t : Int} (h : e_q P Q) (ok : q_ok H 8 P) (bk : q_bk P) (h4 : P 4 < 6) (hb : 1 ≤ b ∧ b ≤ 9) (hr : 0 ≤ r ∧ r ≤ 9) (ht : 0 ≤ t ∧ t ≤ 99) : e_q (q_puts P b r t) (q_puts Q b r t) := e_of (fun P => q_puts P b r t) (fun A => q_puts A b r t) h ok bk (fun X hX hr1 => (puts_rel hr1 (by rw [sl_lt hX.1 (j := 4) (by omega), ← sl_lt h.1 (j := 4) (by omega)]; exact h4) hb hr ht).1)
theorem e_putg {b r : Int} (h : e_q P Q) (ok : q_ok H 8 P) (bk : q_bk P) (hb : 0 ≤ b ∧ b < P 4) (hr : 0 ≤ r ∧ r ≤ 3) : e_q (q_putg P b r) (q_putg Q b r) := e_of (fun P => q_putg P b r) (fun A => q_putg A b r) h ok bk (fun X hX hr1 => (putg_rl hr1 (by rw [sl_lt hX.1 (j := 4) (by omega), ← sl_lt h.1 (j := 4) (by omega)]; exact hb) hr).1)
theorem e_cell {j : Nat} {x : Int} (h : e_q P Q) (hj : j ≠ 4 ∧ j ≠ 5 ∧ j ≠ 6 ∧ j ≠ 14 ∧ j < 117) : e_q (q_pu P j x) (q_pu Q j x) := by
  refine ⟨sl_pu h.1 (by omega) rfl, ?_⟩
  have e14 := sl_lt h.1 (j := 14) (by omega)
  have b1 : q_bl (q_pu P j x) = q_bl P := bl_c (q_pn (by omega)) (fun i hi => q_pn (by omega))
  have b2 : q_bl (q_pu Q j x) = q_bl Q := bl_c (q_pn (by omega)) (fun i hi => q_pn (by omega))
  rw [b1, b2]; exact h.2
theorem e_gat {s : Int} (h : e_q P Q) (hk : q_ok H 9 P) : q_gat P s = q_gat Q s := by
  unfold q_gat
  have a5 := hk.1.2.2.2.2.2.1
  rw [← sl_lt h.1 (j := 5) (by omega)]
  exact q_it_c _ (fun i y hi => by rw [show P (39 + 6 * i) = Q (39 + 6 * i) from sl_g h.1 hk (g := i) (i := 0) (by omega) (by omega)])
theorem e_drop {s : Nat} (h : e_q P Q) (ok : q_ok H 8 P) (bk : q_bk P) (hs : (s : Int) < P 4) (hg : q_gat P s ≤ 0) : e_q (q_dropC P s) (q_dropC Q s) := e_of (fun P => q_dropC P s) (fun A => q_dropM A s) h ok bk (fun X hX hr1 => (drop_rel hr1 (by rw [sl_lt hX.1 (j := 4) (by omega), ← sl_lt h.1 (j := 4) (by omega)]; exact hs) (by rw [e_gat hX (ok_9 hr1.2.1), ← e_gat h (ok_9 ok)]; exact hg)).1)
end Z42
