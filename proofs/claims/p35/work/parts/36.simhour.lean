/-! THE SAME HOUR, whole -/
section Z36
variable {P A K O Z Z1 B B1 : Nat → Int} {H G : Int}
theorem ok_sl (h : q_sl P A) (hk : q_ok H G P) (hG : G ≤ 9) : q_ok H G A := by
  obtain ⟨⟨a0, a1, a2, a3, a4, a5, a6, a7, a8, a14⟩, hs, hg, hw⟩ := hk
  unfold q_ok
  rw [← sl_lt h (j := 0) (by omega), ← sl_lt h (j := 1) (by omega), ← sl_lt h (j := 2) (by omega), ← sl_lt h (j := 3) (by omega), ← sl_lt h (j := 4) (by omega), ← sl_lt h (j := 5) (by omega), ← sl_lt h (j := 6) (by omega), ← sl_lt h (j := 7) (by omega), ← sl_lt h (j := 8) (by omega), ← sl_lt h (j := 14) (by omega)]
  refine ⟨⟨a0, a1, a2, a3, a4, a5, a6, a7, a8, a14⟩, fun s e => ?_, fun g e => ?_, fun i e => ?_⟩
  · rw [← h _ (show q_lv P (15 + 4 * s) by unfold q_lv; omega), ← h _ (show q_lv P (15 + 4 * s + 1) by unfold q_lv; omega), ← h _ (show q_lv P (15 + 4 * s + 2) by unfold q_lv; omega), ← h _ (show q_lv P (15 + 4 * s + 3) by unfold q_lv; omega)]
    exact hs s e
  · rw [← h _ (show q_lv P (39 + 6 * g) by unfold q_lv; omega), ← h _ (show q_lv P (39 + 6 * g + 1) by unfold q_lv; omega), ← h _ (show q_lv P (39 + 6 * g + 2) by unfold q_lv; omega), ← h _ (show q_lv P (39 + 6 * g + 3) by unfold q_lv; omega)]
    exact hg g e
  · rw [← h _ (show q_lv P (93 + i) by unfold q_lv; omega)]
    exact hw i e
theorem sim_enter (h : q_sim P A) (hk : q_ok H 9 P) (hB : ∀ s : Nat, (s : Int) < P 4 → B s = B1 s) : q_sim (q_enter P B) (q_enterM A B1) := by
  have a4 := hk.1.2.2.2.2.1
  unfold q_enter q_enterM
  rw [← sl_lt h.1 (j := 4) (by omega)]
  refine (q_it_r (f := q_es B) (g := q_es1 B1) (Z := fun n x y => q_sim x y ∧ q_ok H 9 x ∧ q_kb P x) (N := (P 4).toNat) (x := P) (y := A) (fun n x y hn hxy => ?_) ⟨h, hk, fun _ _ _ => rfl⟩ _ (Nat.le_refl _)).1
  obtain ⟨h1, h2, h3⟩ := hxy
  have e4 : x 4 = P 4 := h3 4 (by omega) (by omega)
  have b14 := h2.1.2.2.2.2.2.2.2.2.2
  have z := q_es_z (B := B) (n := n) (⟨h2, h3⟩ : q_ok H 9 x ∧ q_kb P x)
  refine ⟨?_, z.1, z.2⟩
  have e := sl_rd h1.1 h2 (s := n) (by omega)
  unfold q_es q_es1
  rw [← hB n (by omega)]
  by_cases c1 : q_rd x n
  · rw [if_pos c1]
    by_cases c2 : B n = 0
    · rw [if_pos c2, if_pos c2, if_pos (e.mp c1)]; exact sim_ent h1 b14
    · rw [if_neg c2, if_neg c2]; exact h1
  · rw [if_neg c1]
    by_cases c2 : B n = 0
    · rw [if_pos c2, if_neg (fun q => c1 (e.mpr q))]; exact h1
    · rw [if_neg c2]; exact h1
theorem bl_c {Q : Nat → Int} (h14 : Q 14 = P 14) (h : ∀ j, 117 ≤ j → Q j = P j) : q_bl Q = q_bl P := by
  unfold q_bl
  rw [h14]
  apply map_range_c
  intro i hi
  rw [h _ (by omega), h _ (by omega)]
theorem made_c {Q : Nat → Int} (h5 : Q 5 = P 5) (h : ∀ g : Nat, (g : Int) < P 5 → Q (39 + 6 * g + 4) = P (39 + 6 * g + 4)) : q_made Q = q_made P := by
  unfold q_made
  rw [h5]
  exact q_it_c _ (fun i y hi => by rw [h i (by omega)])
theorem made_pu {g : Nat} {d : Int} (hg : (g : Int) < P 5) : q_made (q_pu P (39 + 6 * g + 4) (P (39 + 6 * g + 4) + d)) = q_made P + d := by
  have key : ∀ n : Nat, q_it (fun i c => c + q_pu P (39 + 6 * g + 4) (P (39 + 6 * g + 4) + d) (39 + 6 * i + 4)) n (0 : Int) = q_it (fun i c => c + P (39 + 6 * i + 4)) n 0 + (if g < n then d else 0) := by
    intro n
    induction n with
    | zero => rw [if_neg (by omega)]; rfl
    | succ n ih =>
      rw [q_its, q_its, ih]
      by_cases e : n = g
      · subst e
        rw [q_pe, if_neg (by omega), if_pos (by omega)]; omega
      · rw [q_pn (by omega)]
        by_cases e1 : g < n
        · rw [if_pos e1, if_pos (by omega)]; omega
        · rw [if_neg e1, if_neg (by omega)]; omega
  unfold q_made
  rw [q_pn (by omega), key, if_pos (by omega)]
theorem shoot_made {g s : Nat} {u : Int} (hg : (g : Int) < P 5) (hs : s < 6) : q_made (q_shoot P g s u) = q_made P + q_mk P g u := by
  unfold q_shoot q_mk
  split
  · rw [Int.add_zero]
    exact made_c (by rw [q_pn (by omega), q_pn (by omega), q_pn (by omega)]) (fun i hi => by rw [q_pn (by omega), q_pn (by omega), q_pn (by omega)])
  · rw [← made_pu hg]
    exact made_c (by rw [q_pn (by omega), q_pn (by omega), q_pn (by omega), q_pn (by omega), q_pn (by omega), q_pn (by omega), q_pn (by omega)]) (fun i hi => by
      rw [q_pn (by omega), q_pn (by omega), q_pn (by omega)]
      unfold q_pu
      (repeat' split) <;> first | rfl | (exfalso; omega))
/-- what the guns keep, and what they make -/
def q_gm (H : Int) (P : Nat → Int) (n : Nat) (x : (Nat → Int) × Int × (Nat → Int) × Int) : Prop := q_gz H P x ∧ (∀ j, 93 ≤ j → x.1 j = P j) ∧ q_made x.1 = q_made P + x.2.2.2 ∧ 0 ≤ x.2.2.2 ∧ x.2.2.2 ≤ 12 * n
theorem gm_s {x : (Nat → Int) × Int × (Nat → Int) × Int} {g n : Nat} {c : Int} (h : q_gm H P n x) (hg : (g : Int) < P 5) (hc : 0 ≤ c ∧ c ≤ 3) : q_gm H P (n + 1) (q_gs g c x) := by
  obtain ⟨h1, h2, h3, h4, h5⟩ := h
  have h6 := q_gz_s h1 hg hc
  have hk := h1.1
  have e5 : x.1 5 = P 5 := h1.2.2.1 5 (by omega)
  have hg1 : (g : Int) < x.1 5 := by rw [e5]; exact hg
  have a4 := hk.1.2.2.2.2.1
  have a5 := hk.1.2.2.2.2.2.1
  have b := hk.2.2.1 g hg1
  have u1 := q_use_w (P := x.1) (g := g) b.2.1 hc
  have l1 := q_lost_w (P := x.1) u1 hk.1.2.2.2.1
  have m1 : 0 ≤ q_mk x.1 g (q_use x.1 g c) ∧ q_mk x.1 g (q_use x.1 g c) ≤ 12 := by unfold q_mk; split <;> omega
  refine ⟨h6, ?_⟩
  unfold q_gs
  split
  · refine ⟨fun j hj => ?_, ?_, ?_, ?_⟩
    · show q_shoot _ _ _ _ j = _
      rw [q_cnt_shoot (by omega) (by omega)]; exact h2 j hj
    · show q_made (q_shoot _ _ _ _) = _ + (_ + _)
      rw [shoot_made hg1 (by omega), h3]; omega
    · show 0 ≤ _ + _; omega
    · show _ + _ ≤ _; omega
  · refine ⟨fun j hj => ?_, ?_, h4, by show x.2.2.2 ≤ _; omega⟩
    · show q_pu _ _ _ j = _
      rw [q_pn (by omega)]; exact h2 j hj
    · show q_made (q_pu _ _ _) = _
      rw [← h3]
      exact made_c (by rw [q_pn (by omega)]) (fun i hi => by rw [q_pn (by omega)])
theorem guns_gm {ord : Nat → Nat} (h : q_ok H 9 P) (ho : ∀ i : Nat, (i : Int) < P 5 → (ord i : Int) < P 5) : q_gm H P 9 (q_guns ord P Z) := by
  have a5 := h.1.2.2.2.2.2.1
  have h1 : q_gm H P (P 5).toNat (q_guns ord P Z) := by
    unfold q_guns
    exact q_it_inv (Z := fun n x => q_gm H P n x) (N := (P 5).toNat) (x := (P, P 0, Z, 0)) (fun n x hn hx => gm_s hx (ho n (by omega)) q_cold_w) ⟨⟨h, h.1.1, q_kp_r⟩, fun _ _ => rfl, (Int.add_zero _).symm, Int.le_refl _, Int.le_refl _⟩ _ (Nat.le_refl _)
  obtain ⟨h2, h3, h4, h5, h6⟩ := h1
  exact ⟨h2, h3, h4, h5, by omega⟩
theorem g_M_k {ord : Nat → Nat} (h : q_ok H 9 P) (ho : ∀ i : Nat, (i : Int) < P 5 → (ord i : Int) < P 5) : q_bl (g_M ord P Z) = q_bl P ∧ q_made (g_M ord P Z) = q_made P + (g_G ord P Z).2.2.2 ∧ 0 ≤ (g_G ord P Z).2.2.2 ∧ (g_G ord P Z).2.2.2 ≤ 108 := by
  obtain ⟨-, m2, m3⟩ := g_M_z (Z := Z) h ho
  have h2 := h.1.2.2.1
  have hf := q_fill_ok h (by omega) (u := P 2) (by omega)
  have gm : q_gm H (q_fill P (P 2)) 9 (g_G ord P Z) := guns_gm hf (fun i hi => by rw [q_fill_o (by omega)] at hi ⊢; exact ho i hi)
  obtain ⟨-, g2, g3, g4, g5⟩ := gm
  refine ⟨?_, ?_, g4, by omega⟩
  · apply bl_c
    · unfold g_M
      rw [q_pn (by omega), m2 14 (by omega), m3.2.2.2.2.1, q_fill_o (by omega)]
    · intro j hj
      unfold g_M
      rw [q_pn (by omega), m2 j (by omega), g2 j (by omega), q_fill_o (by omega)]
  · have e1 : q_made (g_M ord P Z) = q_made (g_G ord P Z).1 := by
      apply made_c
      · unfold g_M; rw [q_pn (by omega), m2 5 (by omega)]
      · intro g hg; unfold g_M; rw [q_pn (by omega), m2 _ (by omega)]
    have e2 : q_made (q_fill P (P 2)) = q_made P := made_c (q_fill_o (by omega)) (fun g hg => q_fill_o (by omega))
    rw [e1, g3, e2]
theorem q_ord_on (h : q_ok H 9 P) {g : Nat} (hg : (g : Int) < P 5) : ∃ i : Nat, (i : Int) < P 5 ∧ q_ordC (q_keys P K) i = g := by
  have a5 := h.1.2.2.2.2.2.1
  have r := q_rkw hg
  obtain ⟨g1, h1, h2, h3⟩ := q_ord (K := K) h (i := (q_rk P g).toNat) (by omega)
  have h4 := q_rk_inj h1 hg a5.2 (by omega)
  refine ⟨(q_rk P g).toNat, by omega, ?_⟩
  have h9 := q_key_9 (P := P) (g := g1) (by omega)
  unfold q_ordC
  rw [h2, h9, ← h4]; omega
/-- an hour goes by on both pages alike -/
theorem sim_hour (h : q_sim P A) (hk : q_ok H 9 P) : q_sim (h_P P K Z B) (n_P A O Z1 B1) ∧ (∀ g : Nat, (g : Int) < P 5 → (h_G P K Z).2.2.1 g = (g_G (n_ord A O) A Z1).2.2.1 g) ∧ q_made (h_P P K Z B) = q_made P + (g_G (n_ord A O) A Z1).2.2.2 ∧ 0 ≤ (g_G (n_ord A O) A Z1).2.2.2 ∧ (g_G (n_ord A O) A Z1).2.2.2 ≤ 108 := by
  obtain ⟨hs, hb⟩ := h
  have hA := ok_sl hs hk (by omega)
  have a2 := hk.1.2.2.1
  have a4 := hk.1.2.2.2.2.1
  have e2 := sl_lt hs (j := 2) (by omega)
  have e4 := sl_lt hs (j := 4) (by omega)
  have e5 := sl_lt hs (j := 5) (by omega)
  have hf := q_fill_ok hk (by omega) (u := P 2) (by omega)
  have hfA := q_fill_ok hA (by omega) (u := A 2) (by omega)
  have f5 : q_fill P (P 2) 5 = P 5 := q_fill_o (by omega)
  have f5A : q_fill A (A 2) 5 = A 5 := q_fill_o (by omega)
  have sf : q_sl (q_fill P (P 2)) (q_fill A (A 2)) := by rw [← e2]; exact sl_fill hs
  have ho : ∀ i : Nat, (i : Int) < P 5 → ((q_ordC (h_K P K) i : Nat) : Int) < P 5 ∧ q_ordC (h_K P K) i = n_ord A O i := by
    intro i hi
    have k1 := (q_keys_w (K := K) hf i (by rw [f5]; exact hi)).2
    have k2 := (q_ord_eq (O := O) (K := K) hfA (i := i) (by rw [f5A, ← e5]; exact hi)).2
    refine ⟨by rw [f5] at k1; exact k1, ?_⟩
    unfold h_K n_ord
    rw [sl_keys sf hf, k2]
  have hoA : ∀ i : Nat, (i : Int) < A 5 → ((n_ord A O i : Nat) : Int) < A 5 := n_ord_w hA
  have hoP : ∀ i : Nat, (i : Int) < P 5 → ((q_ordC (h_K P K) i : Nat) : Int) < P 5 := fun i hi => (ho i hi).1
  have gr : q_gr H (q_fill P (P 2)) (q_ordC (h_K P K)) (q_fill P (P 2) 5).toNat (h_G P K Z) (g_G (n_ord A O) A Z1) := sl_guns sf hf (fun i hi => by rw [f5] at hi ⊢; exact ho i hi)
  obtain ⟨r1, r2, r3, r4, r5⟩ := gr
  have sm : q_sl (h_M P K Z) (g_M (n_ord A O) A Z1) := by
    have m := sl_melt r1 r5.1
    unfold h_M g_M
    exact sl_pu m (by omega) (by rw [sl_lt m (j := 8) (by omega)])
  have kP := g_M_k (Z := Z) hk hoP
  have kA := g_M_k (Z := Z1) hA hoA
  have hMP : h_M P K Z = g_M (q_ordC (h_K P K)) P Z := rfl
  have hGP : h_G P K Z = g_G (q_ordC (h_K P K)) P Z := rfl
  have okM := h_M_ok (K := K) (Z := Z) hk
  have sim1 : q_sim (h_M P K Z) (g_M (n_ord A O) A Z1) := ⟨sm, by rw [hMP, kP.1, kA.1]; exact hb⟩
  have c4 : h_M P K Z 4 = P 4 := h_M_c hk (by omega)
  refine ⟨?_, ?_, ?_, kA.2.2⟩
  · unfold h_P n_P
    refine sim_enter sim1 okM (fun s hs1 => ?_)
    unfold q_was
    rw [q_was_v _ s (by omega), q_was_v _ s (by omega)]
    exact q_b_iff (sl_rd hs hk (by omega))
  · intro g hg
    obtain ⟨i, hi, hig⟩ := q_ord_on (K := K) hf (g := g) (by rw [f5]; exact hg)
    have h4 := r4 i (by omega)
    have hig1 : q_ordC (h_K P K) i = g := hig
    rw [hig1] at h4
    exact h4
  · have e := kP.2.1
    rw [← hMP, ← hGP, r3] at e
    rw [← e]
    unfold h_P q_enter
    have z := (q_enter_z (B := q_was P B) okM (h_M P K Z 4).toNat).2
    exact made_c (z 5 (by omega) (by omega)) (fun g hg => z _ (by have := okM.1.2.2.2.2.2.1; omega) (by omega))
end Z36
