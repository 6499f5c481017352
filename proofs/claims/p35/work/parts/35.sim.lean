/-! THE SAME HOUR: a page of the class and a page of the model -/
def q_lv (P : Nat → Int) (j : Nat) : Prop := j < 15 ∨ (15 ≤ j ∧ j < 15 + 4 * (P 4).toNat ∧ j < 39) ∨ (39 ≤ j ∧ j < 39 + 6 * (P 5).toNat ∧ j < 93) ∨ (93 ≤ j ∧ j < 93 + (P 6).toNat ∧ j < 117)
def q_sl (P A : Nat → Int) : Prop := ∀ j, q_lv P j → P j = A j
def q_bl (P : Nat → Int) : List (Int × Int) := (List.range (P 14).toNat).map fun i => (P (117 + 2 * i), P (118 + 2 * i))
def q_sim (P A : Nat → Int) : Prop := q_sl P A ∧ (q_bl P).reverse = q_bl A
section Z35
variable {P A K O Z Z1 B B1 : Nat → Int} {H G : Int}
theorem q_b_iff {c d : Prop} [Decidable c] [Decidable d] (h : c ↔ d) : q_b c = q_b d := by
  unfold q_b
  by_cases e : c
  · rw [if_pos e, if_pos (h.mp e)]
  · rw [if_neg e, if_neg (fun q => e (h.mpr q))]
theorem sl_pu {j : Nat} {x y : Int} (h : q_sl P A) (hj : j ≠ 4 ∧ j ≠ 5 ∧ j ≠ 6) (e : x = y) : q_sl (q_pu P j x) (q_pu A j y) := by
  intro i hi
  unfold q_lv at hi
  rw [q_pn (i := 4) (by omega), q_pn (i := 5) (by omega), q_pn (i := 6) (by omega)] at hi
  unfold q_pu
  split
  · exact e
  · exact h i hi
theorem sl_lt (h : q_sl P A) {j : Nat} (hj : j < 15) : P j = A j := h j (Or.inl hj)
theorem sl_amt (h : q_sl P A) {u : Int} : q_amt P u = q_amt A u := by
  unfold q_amt; rw [sl_lt h (j := 1) (by omega), sl_lt h (j := 7) (by omega)]
theorem sl_pour (h : q_sl P A) {u : Int} : q_sl (q_pour P u) (q_pour A u) := sl_pu h (by omega) (by rw [sl_lt h (j := 7) (by omega), sl_amt h])
theorem sl_fill (h : q_sl P A) {u : Int} : q_sl (q_fill P u) (q_fill A u) := sl_pu (sl_pour h) (by omega) (by rw [sl_lt h (j := 9) (by omega), sl_amt h])
theorem sl_tme (h : q_sl P A) {u : Int} : q_sl (q_tme P u) (q_tme A u) :=
  sl_pu (sl_pour (sl_pu h (by omega) (by rw [sl_lt h (j := 12) (by omega)]))) (by omega) (by rw [sl_lt h (j := 11) (by omega), sl_amt h])
/-- a slope's cells -/
theorem sl_s (h : q_sl P A) (hk : q_ok H G P) {s i : Nat} (hs : (s : Int) < P 4) (hi : i < 4) : P (15 + 4 * s + i) = A (15 + 4 * s + i) := by
  have a4 := hk.1.2.2.2.2.1
  exact h _ (by unfold q_lv; omega)
theorem sl_g (h : q_sl P A) (hk : q_ok H 9 P) {g i : Nat} (hs : (g : Int) < P 5) (hi : i < 6) : P (39 + 6 * g + i) = A (39 + 6 * g + i) := by
  have a4 := hk.1.2.2.2.2.2.1
  exact h _ (by unfold q_lv; omega)
theorem sl_w (h : q_sl P A) (hk : q_ok H G P) {i : Nat} (hi : (i : Int) < P 6) : P (93 + i) = A (93 + i) := by
  have a4 := hk.1.2.2.2.2.2.2.1
  exact h _ (by unfold q_lv; omega)
theorem sl_rd (h : q_sl P A) (hk : q_ok H G P) {s : Nat} (hs : (s : Int) < P 4) : q_rd P s ↔ q_rd A s := by
  have e0 := sl_s h hk hs (i := 0) (by omega)
  have e2 := sl_s h hk hs (i := 2) (by omega)
  have e3 := sl_s h hk hs (i := 3) (by omega)
  rw [Nat.add_zero] at e0
  unfold q_rd
  rw [e0, e2, e3]
theorem sl_dp (h : q_sl P A) (hk : q_ok H G P) {s : Nat} (hs : (s : Int) < P 4) : q_dp P s = q_dp A s := by
  have e0 := sl_s h hk hs (i := 0) (by omega)
  have e3 := sl_s h hk hs (i := 3) (by omega)
  rw [Nat.add_zero] at e0
  unfold q_dp
  rw [e0, e3]
theorem sl_wet (h : q_sl P A) (hk : q_ok H G P) {t : Int} (ht : 0 ≤ t) : q_wet P t = q_wet A t := by
  have a6 := hk.1.2.2.2.2.2.2.1
  have ha : 0 ≤ t % P 6 := Int.emod_nonneg t (by omega)
  have hb : t % P 6 < P 6 := Int.emod_lt_of_pos t (by omega)
  unfold q_wet
  rw [← sl_lt h (j := 6) (by omega)]
  exact sl_w h hk (by omega)
theorem sl_key (h : q_sl P A) (hk : q_ok H 9 P) {g : Nat} (hg : (g : Int) < P 5) : q_key P g = q_key A g := by
  have b := (hk.2.2.1 g hg).1
  have e0 := sl_g h hk hg (i := 0) (by omega)
  rw [Nat.add_zero] at e0
  have e1 := sl_s h hk (s := (P (39 + 6 * g)).toNat) (by omega) (i := 1) (by omega)
  have e2 := sl_dp h hk (s := (P (39 + 6 * g)).toNat) (by omega)
  unfold q_key
  rw [← e0, e1, e2]
theorem q_it_c {α : Type} {f g : Nat → α → α} {x : α} : ∀ n, (∀ i y, i < n → f i y = g i y) → q_it f n x = q_it g n x
  | 0, _ => rfl
  | n + 1, h => by rw [q_its, q_its, q_it_c n (fun i y hi => h i y (by omega)), h n _ (by omega)]
theorem sl_keys (h : q_sl P A) (hk : q_ok H 9 P) : q_keys P K = q_keys A K := by
  have a5 := hk.1.2.2.2.2.2.1
  unfold q_keys
  rw [← sl_lt h (j := 5) (by omega)]
  exact q_it_c _ (fun i y hi => by rw [sl_key h hk (g := i) (by omega)])
/-- two relations kept by a repetition -/
theorem q_it_r {α β : Type} {f : Nat → α → α} {g : Nat → β → β} {Z : Nat → α → β → Prop} {N : Nat} (hs : ∀ n x y, n < N → Z n x y → Z (n + 1) (f n x) (g n y)) {x : α} {y : β} (h0 : Z 0 x y) : ∀ n, n ≤ N → Z n (q_it f n x) (q_it g n y)
  | 0, _ => h0
  | n + 1, h => hs n _ _ (by omega) (q_it_r hs h0 n (by omega))
theorem sl_use (h : q_sl P A) (hk : q_ok H 9 P) {g : Nat} (hg : (g : Int) < P 5) {c : Int} : q_use P g c = q_use A g c := by
  unfold q_use; rw [sl_g h hk hg (i := 1) (by omega)]
theorem sl_why (h : q_sl P A) (hk : q_ok H 9 P) {g s : Nat} (hg : (g : Int) < P 5) (hs : (s : Int) < P 4) {u l : Int} : q_why P g s u l = q_why A g s u l := by
  have e := sl_rd h hk hs
  unfold q_why
  rw [sl_g h hk hg (i := 2) (by omega), sl_lt h (j := 7) (by omega)]
  by_cases c : q_rd P s
  · rw [if_pos c, if_pos (e.mp c)]
  · rw [if_neg c, if_neg (fun q => c (e.mpr q))]
theorem sl_lost (h : q_sl P A) {u : Int} : q_lost P u = q_lost A u := by unfold q_lost; rw [sl_lt h (j := 3) (by omega)]
theorem sl_over (h : q_sl P A) (hk : q_ok H G P) {s : Nat} (hs : (s : Int) < P 4) {u : Int} : q_over P s u = q_over A s u := by
  unfold q_over; rw [sl_s h hk hs (i := 3) (by omega)]
theorem sl_shoot (h : q_sl P A) (hk : q_ok H 9 P) {g s : Nat} (hg : (g : Int) < P 5) (hs : (s : Int) < P 4) {u : Int} : q_sl (q_shoot P g s u) (q_shoot A g s u) := by
  have e3 := sl_g h hk hg (i := 3) (by omega)
  have e4 := sl_g h hk hg (i := 4) (by omega)
  have e5 := sl_g h hk hg (i := 5) (by omega)
  have f3 := sl_s h hk hs (i := 3) (by omega)
  have o := sl_over h hk hs (u := u - q_lost A u)
  have l := sl_lost h (u := u)
  unfold q_shoot
  rw [← e3, l, o, e4, e5, f3, sl_lt h (j := 7) (by omega), sl_lt h (j := 10) (by omega)]
  split
  · exact sl_pu (sl_pu (sl_pu h (by omega) rfl) (by omega) rfl) (by omega) rfl
  · exact sl_pu (sl_pu (sl_pu (sl_pu (sl_pu (sl_pu h (by omega) rfl) (by omega) rfl) (by omega) rfl) (by omega) rfl) (by omega) rfl) (by omega) rfl
theorem sl_mk (h : q_sl P A) (hk : q_ok H 9 P) {g : Nat} (hg : (g : Int) < P 5) {u : Int} : q_mk P g u = q_mk A g u := by
  unfold q_mk; rw [sl_g h hk hg (i := 3) (by omega), sl_lost h]
/-- the guns' turns, side by side -/
def q_gr (H : Int) (P0 : Nat → Int) (ord : Nat → Nat) (n : Nat) (x y : (Nat → Int) × Int × (Nat → Int) × Int) : Prop := q_sl x.1 y.1 ∧ x.2.1 = y.2.1 ∧ x.2.2.2 = y.2.2.2 ∧ (∀ i, i < n → x.2.2.1 (ord i) = y.2.2.1 (ord i)) ∧ q_gz H P0 x
theorem sl_gs {P0 : Nat → Int} {ord : Nat → Nat} {n : Nat} {x y : (Nat → Int) × Int × (Nat → Int) × Int} {c : Int} (hc : 0 ≤ c ∧ c ≤ 3) (ho : (ord n : Int) < P0 5) (h : q_gr H P0 ord n x y) : q_gr H P0 ord (n + 1) (q_gs (ord n) c x) (q_gs (ord n) c y) := by
  obtain ⟨h1, h2, h3, h4, h5⟩ := h
  have h6 := q_gz_s h5 ho hc
  have hk := h5.1
  have e5 : x.1 5 = P0 5 := h5.2.2.1 5 (by omega)
  have hg : ((ord n : Nat) : Int) < x.1 5 := by rw [e5]; exact ho
  have b := (hk.2.2.1 (ord n) hg).1
  have hs : (((x.1 (39 + 6 * ord n)).toNat : Nat) : Int) < x.1 4 := by omega
  have e0 := sl_g h1 hk hg (i := 0) (by omega)
  rw [Nat.add_zero] at e0
  have w := sl_why h1 hk hg hs (u := q_use x.1 (ord n) c) (l := x.2.1)
  have us := sl_use h1 hk hg (c := c)
  by_cases hw : q_why x.1 (ord n) (x.1 (39 + 6 * ord n)).toNat (q_use x.1 (ord n) c) x.2.1 = 0
  · have hx : q_gs (ord n) c x = (q_shoot x.1 (ord n) (x.1 (39 + 6 * ord n)).toNat (q_use x.1 (ord n) c), x.2.1 - q_use x.1 (ord n) c, q_pu x.2.2.1 (ord n) 0, x.2.2.2 + q_mk x.1 (ord n) (q_use x.1 (ord n) c)) := if_pos hw
    have hy : q_gs (ord n) c y = (q_shoot y.1 (ord n) (y.1 (39 + 6 * ord n)).toNat (q_use y.1 (ord n) c), y.2.1 - q_use y.1 (ord n) c, q_pu y.2.2.1 (ord n) 0, y.2.2.2 + q_mk y.1 (ord n) (q_use y.1 (ord n) c)) := if_pos (by rw [← e0, ← us, ← h2, ← w]; exact hw)
    refine ⟨?_, ?_, ?_, ?_, h6⟩
    · rw [hx, hy]; show q_sl (q_shoot _ _ _ _) (q_shoot _ _ _ _); rw [← e0, ← us]; exact sl_shoot h1 hk hg hs
    · rw [hx, hy]; show _ - _ = _ - _; rw [h2, us]
    · rw [hx, hy]; show _ + _ = _ + _; rw [h3, ← us, sl_mk h1 hk hg]
    · intro i hi
      rw [hx, hy]; show q_pu _ _ _ _ = q_pu _ _ _ _
      unfold q_pu
      by_cases e : ord i = ord n
      · rw [if_pos e, if_pos e]
      · rw [if_neg e, if_neg e]
        by_cases e1 : i = n
        · exact absurd (by rw [e1]) e
        · exact h4 i (by omega)
  · have hx : q_gs (ord n) c x = (q_pu x.1 (39 + 6 * ord n + 3) 0, x.2.1, q_pu x.2.2.1 (ord n) (q_why x.1 (ord n) (x.1 (39 + 6 * ord n)).toNat (q_use x.1 (ord n) c) x.2.1), x.2.2.2) := if_neg hw
    have hy : q_gs (ord n) c y = (q_pu y.1 (39 + 6 * ord n + 3) 0, y.2.1, q_pu y.2.2.1 (ord n) (q_why y.1 (ord n) (y.1 (39 + 6 * ord n)).toNat (q_use y.1 (ord n) c) y.2.1), y.2.2.2) := if_neg (by rw [← e0, ← us, ← h2, ← w]; exact hw)
    refine ⟨?_, ?_, ?_, ?_, h6⟩
    · rw [hx, hy]; exact sl_pu h1 (by omega) rfl
    · rw [hx, hy]; exact h2
    · rw [hx, hy]; exact h3
    · intro i hi
      rw [hx, hy]; show q_pu _ _ _ _ = q_pu _ _ _ _
      unfold q_pu
      by_cases e : ord i = ord n
      · rw [if_pos e, if_pos e, ← e0, ← us, ← h2, w]
      · rw [if_neg e, if_neg e]
        by_cases e1 : i = n
        · exact absurd (by rw [e1]) e
        · exact h4 i (by omega)
theorem sl_guns {ord ord1 : Nat → Nat} (h : q_sl P A) (hk : q_ok H 9 P) (ho : ∀ i : Nat, (i : Int) < P 5 → (ord i : Int) < P 5 ∧ ord i = ord1 i) : q_gr H P ord (P 5).toNat (q_guns ord P Z) (q_guns ord1 A Z1) := by
  have a5 := hk.1.2.2.2.2.2.1
  have a8 := hk.1.2.2.2.2.2.2.2.2.1
  have e1 : q_guns ord1 A Z1 = q_it (fun i x => q_gs (ord i) (q_cold (q_wet P (P 8))) x) (P 5).toNat (A, A 0, Z1, 0) := by
    unfold q_guns
    rw [← sl_lt h (j := 5) (by omega), ← sl_lt h (j := 8) (by omega), sl_wet h hk a8.1]
    exact q_it_c _ (fun i y hi => by rw [(ho i (by omega)).2])
  rw [e1]
  unfold q_guns
  refine q_it_r (Z := fun n x y => q_gr H P ord n x y) (N := (P 5).toNat) (x := (P, P 0, Z, 0)) (y := (A, A 0, Z1, 0)) (fun n x y hn hxy => sl_gs q_cold_w (ho n (by omega)).1 hxy) ⟨h, sl_lt h (j := 0) (by omega), rfl, fun i hi => absurd hi (by omega), hk, hk.1.1, q_kp_r⟩ _ (Nat.le_refl _)
theorem sl_mm (h : q_sl P A) (hk : q_ok H G P) {w : Int} {s : Nat} (hs : (s : Int) < P 4) : q_mm w s P = q_mm w s A := by
  have e0 := sl_s h hk hs (i := 0) (by omega)
  rw [Nat.add_zero] at e0
  unfold q_mm; rw [e0, sl_s h hk hs (i := 3) (by omega)]
theorem sl_ms (h : q_sl P A) (hk : q_ok H G P) {w : Int} {s : Nat} (hs : (s : Int) < P 4) : q_sl (q_ms w s P) (q_ms w s A) := by
  unfold q_ms
  rw [← sl_mm h hk hs, sl_s h hk hs (i := 3) (by omega)]
  exact sl_tme (sl_pu h (by omega) rfl)
theorem sl_melt (h : q_sl P A) (hk : q_ok H 9 P) : q_sl (q_melt P) (q_melt A) := by
  have a8 := hk.1.2.2.2.2.2.2.2.2.1
  have a4 := hk.1.2.2.2.2.1
  have w1 := q_wet_w hk a8.1
  unfold q_melt
  rw [← sl_lt h (j := 8) (by omega), ← sl_wet h hk a8.1, ← sl_lt h (j := 4) (by omega)]
  generalize q_wet P (P 8) = w at w1 ⊢
  split
  · exact h
  · exact (q_it_r (f := q_ms w) (g := q_ms w) (Z := fun n x y => q_sl x y ∧ q_ok H 9 x ∧ q_kq P x) (N := (P 4).toNat) (x := P) (y := A) (fun n x y hn hxy => by
      obtain ⟨h1, h2, h3⟩ := hxy
      have e4 : x 4 = P 4 := h3 4 (by omega)
      refine ⟨sl_ms h1 h2 (by omega), q_ms_ok h2 (by omega) (by omega), fun j hj => ?_⟩
      rw [q_ms_o (by omega)]
      exact h3 j hj) ⟨h, hk, fun _ _ => rfl⟩ _ (Nat.le_refl _)).1
theorem q_was_v : ∀ n s : Nat, s < n → q_it (q_wsd P) n B s = q_b (q_rd P s)
  | 0, s, h => absurd h (by omega)
  | n + 1, s, h => by
    show q_pu _ n _ s = _
    by_cases e : s = n
    · subst e; rw [q_pe]
    · rw [q_pn e]; exact q_was_v n s (by omega)
/-- the book: its entries -/
theorem q_bl_map {n : Nat} (h : P 14 = n) : q_bl P = (List.range n).map fun i => (P (117 + 2 * i), P (118 + 2 * i)) := by
  unfold q_bl; rw [h, Int.toNat_natCast]
theorem map_range_c {f g : Nat → Int × Int} {n : Nat} (h : ∀ i, i < n → f i = g i) : (List.range n).map f = (List.range n).map g := by
  apply List.map_congr_left
  intro i hi
  exact h i (List.mem_range.mp hi)
theorem q_bl_ent1 {s t : Int} {n : Nat} (h : P 14 = n) (hn : n < 20) : q_bl (q_ent1 P s t) = q_bl P ++ [(s, t)] := by
  have e : q_ent1 P s t 14 = ((n + 1 : Nat) : Int) := by unfold q_ent1; rw [q_pe, h]; omega
  rw [q_bl_map e, q_bl_map h, List.range_succ, List.map_append]
  congr 1
  · apply map_range_c
    intro i hi
    unfold q_ent1
    rw [h, Int.toNat_natCast, q_pn (by omega), q_pn (by omega), q_pn (by omega), q_pn (by omega), q_pn (by omega), q_pn (by omega)]
  · show [(q_ent1 P s t (117 + 2 * n), q_ent1 P s t (118 + 2 * n))] = _
    unfold q_ent1
    rw [h, Int.toNat_natCast, q_pn (by omega), q_pn (by omega), q_pe, q_pn (by omega), q_pe]
theorem q_bsh_v {i : Nat} (hi : i < 19) : q_bsh P (117 + 2 * i) = P (117 + 2 * (i + 1)) ∧ q_bsh P (118 + 2 * i) = P (118 + 2 * (i + 1)) := by
  constructor
  · unfold q_bsh
    rw [q_pn (by omega)]
    unfold q_cp
    rw [if_neg (by omega), if_pos (by omega)]
    congr 1; omega
  · unfold q_bsh
    rw [q_pn (by omega)]
    unfold q_cp
    rw [if_pos (by omega), if_neg (by omega)]
    congr 1; omega
theorem map_range_s {f : Nat → Int × Int} : ∀ n, (List.range (n + 1)).map f = f 0 :: (List.range n).map fun i => f (i + 1)
  | n => by rw [List.range_succ_eq_map, List.map_cons, List.map_map]; rfl
theorem q_bl_bsh (h : P 14 = 20) : q_bl (q_bsh P) = (q_bl P).tail := by
  have e : q_bsh P 14 = ((19 : Nat) : Int) := by unfold q_bsh; rw [q_pe]; rfl
  rw [q_bl_map e, q_bl_map (n := 20) (by rw [h]; rfl), map_range_s (f := fun i => (P (117 + 2 * i), P (118 + 2 * i))) 19, List.tail_cons]
  apply map_range_c
  intro i hi
  have := q_bsh_v (P := P) hi
  rw [this.1, this.2]
theorem q_bl_ent {s t : Int} (h : 0 ≤ P 14 ∧ P 14 ≤ 20) : q_bl (q_ent P s t) = (if P 14 < 20 then q_bl P else (q_bl P).tail) ++ [(s, t)] := by
  unfold q_ent
  split
  · rename_i hc
    exact q_bl_ent1 (n := (P 14).toNat) (by omega) (by omega)
  · rename_i hc
    have e : q_bsh P 14 = ((19 : Nat) : Int) := by unfold q_bsh; rw [q_pe]; rfl
    rw [q_bl_ent1 e (by omega), q_bl_bsh (by omega)]
theorem q_wr_v {s : Int} {i : Nat} (hi : i < 19) : q_wr P s (117 + 2 * (i + 1)) = P (117 + 2 * i) ∧ q_wr P s (118 + 2 * (i + 1)) = P (118 + 2 * i) := by
  constructor
  · unfold q_wr
    rw [q_pn (by omega), q_pn (by omega), q_pn (by omega), if_pos (by omega)]
    congr 1
  · unfold q_wr
    rw [q_pn (by omega), q_pn (by omega), q_pn (by omega), if_pos (by omega)]
    congr 1
theorem q_bl_wr {s : Int} (h : 0 ≤ P 14 ∧ P 14 ≤ 20) : q_bl (q_wr P s) = (s, P 8) :: (if P 14 < 20 then q_bl P else (q_bl P).dropLast) := by
  have e0 : q_wr P s (117 + 2 * 0) = s ∧ q_wr P s (118 + 2 * 0) = P 8 := by
    constructor
    · unfold q_wr; rw [q_pn (by omega), q_pn (by omega), q_pe]
    · unfold q_wr; rw [q_pn (by omega), q_pe]
  by_cases c : P 14 < 20
  · rw [if_pos c]
    have e : q_wr P s 14 = (((P 14).toNat + 1 : Nat) : Int) := by unfold q_wr; rw [q_pe, if_neg (by omega)]; omega
    rw [q_bl_map e, q_bl_map (P := P) (n := (P 14).toNat) (by omega), map_range_s, e0.1, e0.2]
    congr 1
    apply map_range_c
    intro i hi
    have := q_wr_v (P := P) (s := s) (i := i) (by omega)
    rw [this.1, this.2]
  · rw [if_neg c]
    have e : q_wr P s 14 = ((19 + 1 : Nat) : Int) := by unfold q_wr; rw [q_pe, if_pos (by omega)]; rfl
    have er : ((List.range (19 + 1)).map fun i => (P (117 + 2 * i), P (118 + 2 * i))).dropLast = (List.range 19).map fun i => (P (117 + 2 * i), P (118 + 2 * i)) := by
      rw [List.range_succ (n := 19), List.map_append, List.map_cons, List.map_nil, List.dropLast_concat]
    rw [q_bl_map e, q_bl_map (P := P) (n := 19 + 1) (by omega), er, map_range_s (f := fun i => (q_wr P s (117 + 2 * i), q_wr P s (118 + 2 * i))) 19, e0.1, e0.2]
    congr 1
theorem sl_kb {P1 A1 : Nat → Int} (h : q_sl P A) (h1 : q_kb P P1) (h2 : q_kb A A1) (h3 : P1 14 = A1 14) : q_sl P1 A1 := by
  intro j hj
  unfold q_lv at hj
  rw [h1 4 (by omega) (by omega), h1 5 (by omega) (by omega), h1 6 (by omega) (by omega)] at hj
  by_cases e : j = 14
  · subst e; exact h3
  · rw [h1 j (by omega) e, h2 j (by omega) e]
    exact h j (by unfold q_lv; omega)
theorem sim_ent (h : q_sim P A) (h14 : 0 ≤ P 14 ∧ P 14 ≤ 20) {s : Int} : q_sim (q_ent P s (P 8)) (q_wr A s) := by
  obtain ⟨h1, h2⟩ := h
  have e14 := sl_lt h1 (j := 14) (by omega)
  have e8 := sl_lt h1 (j := 8) (by omega)
  constructor
  · refine sl_kb h1 (fun j hj hj1 => q_ent_o hj hj1) (fun j hj hj1 => q_wr_o hj hj1) ?_
    unfold q_ent q_ent1 q_wr
    rw [q_pe, ← e14]
    split
    · rw [q_pe, if_neg (by omega)]
    · rw [q_pe, if_pos (by omega)]; unfold q_bsh; rw [q_pe]; rfl
  · rw [q_bl_ent h14, q_bl_wr (by omega), List.reverse_append, ← e14, ← e8]
    split
    · rw [h2]; rfl
    · rw [← h2, List.dropLast_reverse]; rfl
end Z35
