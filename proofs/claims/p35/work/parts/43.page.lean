/-! WHAT A PAGE KEEPS: the order, the turns of the guns, thaw, the book -/
section Z43
variable {P Q K Z B A : Nat → Int} {H H1 G u v w : Int} {ord : Nat → Nat} {g s n : Nat}
/-! sums -/
theorem su_1 {f g : Nat → Int} {k N : Nat} (h : ∀ i, i < N → i ≠ k → f i = g i) : ∀ n, n ≤ N → q_it (fun s c => c + f s) n (0 : Int) = q_it (fun s c => c + g s) n 0 + (if k < n then f k - g k else 0)
  | 0, _ => by rw [if_neg (by omega)]; rfl
  | n + 1, hn => by
    have ih := su_1 h n (by omega)
    rw [q_its, q_its, ih]
    by_cases e : n = k
    · subst e
      rw [if_neg (show ¬ n < n by omega), if_pos (show n < n + 1 by omega)]; omega
    · rw [h n (by omega) e]
      by_cases e1 : k < n
      · rw [if_pos e1, if_pos (show k < n + 1 by omega)]; omega
      · rw [if_neg e1, if_neg (show ¬ k < n + 1 by omega)]; omega
theorem su_2 {f g : Nat → Int} : ∀ n, q_it (fun s c => c + (f s - g s)) n (0 : Int) = q_it (fun s c => c + f s) n 0 - q_it (fun s c => c + g s) n 0
  | 0 => rfl
  | n + 1 => by rw [q_its, q_its, q_its, su_2 n]; omega
theorem su_0 {f : Nat → Int} (h : ∀ i, f i = 0) : ∀ n, q_it (fun s c => c + f s) n (0 : Int) = 0
  | 0 => rfl
  | n + 1 => by rw [q_its, su_0 h n, h n]; rfl
theorem snow_1 (h4 : Q 4 = P 4) (hs : (s : Int) < P 4) (h : ∀ t : Nat, (t : Int) < P 4 → t ≠ s → Q (15 + 4 * t + 3) = P (15 + 4 * t + 3)) : q_snow Q = q_snow P + (Q (15 + 4 * s + 3) - P (15 + 4 * s + 3)) := by
  have e := su_1 (f := fun t => Q (15 + 4 * t + 3)) (g := fun t => P (15 + 4 * t + 3)) (k := s) (N := (P 4).toNat) (fun i hi hk => h i (by omega) hk) (P 4).toNat (Nat.le_refl _)
  rw [if_pos (by omega)] at e
  unfold q_snow
  rw [h4]
  exact e
theorem snow_c (h4 : Q 4 = P 4) (h : ∀ t : Nat, (t : Int) < P 4 → Q (15 + 4 * t + 3) = P (15 + 4 * t + 3)) : q_snow Q = q_snow P := by
  unfold q_snow
  rw [h4]
  exact q_it_c _ (fun i y hi => by rw [h i (by omega)])
/-! the order -/
theorem c_ne {f : Nat → Int} {y : Int} : ∀ n, (∀ i, i < n → f i ≠ y) → c_n f n (y + 1) = c_n f n y
  | 0, _ => rfl
  | n + 1, h => by
    have e : (f n < y + 1) ↔ (f n < y) := by
      have := h n (by omega)
      omega
    rw [c_s, c_s, c_ne n (fun i hi => h i (by omega)), q_b_iff e]
theorem or_key (h : q_ok H 9 P) {i : Nat} (hi : (i : Int) < P 5) : q_keys P K i = q_key P (q_ordC (q_keys P K) i) ∧ ((q_ordC (q_keys P K) i : Nat) : Int) < P 5 := by
  have a5 := h.1.2.2.2.2.2.1
  obtain ⟨g, h1, h2, -⟩ := q_ord (K := K) h hi
  have e : q_ordC (q_keys P K) i = g := by
    have := q_key_9 (P := P) (g := g) (by omega)
    unfold q_ordC
    rw [h2]
    omega
  rw [e]
  exact ⟨h2, h1⟩
theorem or_lt (h : q_ok H 9 P) {i j : Nat} (hij : i < j) (hj : (j : Int) < P 5) : q_key P (q_ordC (q_keys P K) i) < q_key P (q_ordC (q_keys P K) j) := by
  have a5 := h.1.2.2.2.2.2.1
  rw [← (or_key (K := K) h (i := i) (by omega)).1, ← (or_key (K := K) h hj).1]
  exact keys_so (P := P) (K := K) (P 5).toNat (by omega) i j hij (by omega)
theorem or_inj (h : q_ok H 9 P) {i j : Nat} (hi : (i : Int) < P 5) (hj : (j : Int) < P 5) (e : q_ordC (q_keys P K) i = q_ordC (q_keys P K) j) : i = j := by
  by_cases c : i < j
  · have := or_lt (K := K) h c hj
    rw [e] at this
    omega
  · by_cases c1 : j < i
    · have := or_lt (K := K) h c1 hi
      rw [e] at this
      omega
    · omega
theorem or_sur (h : q_ok H 9 P) (hg : (g : Int) < P 5) : ∃ i : Nat, (i : Int) < P 5 ∧ q_ordC (q_keys P K) i = g := by
  have a5 := h.1.2.2.2.2.2.1
  by_cases c : ∃ i : Nat, (i : Int) < P 5 ∧ q_ordC (q_keys P K) i = g
  · exact c
  · exfalso
    have h1 : ∀ i, i < (P 5).toNat → q_it (fun g K => q_ins (q_key P g) g K) (P 5).toNat K i ≠ q_key P g := fun i hi q => by
      refine c ⟨i, by omega, ?_⟩
      have := q_key_9 (P := P) (g := g) (by omega)
      unfold q_ordC
      show (q_it (fun g K => q_ins (q_key P g) g K) (P 5).toNat K i % 9).toNat = g
      rw [q]
      omega
    have h2 := c_ne (P 5).toNat h1
    rw [keys_c, keys_c] at h2
    have h3 := c_strict (f := q_key P) (x := q_key P g) (y := q_key P g + 1) (by omega) (g := g) ⟨by omega, by omega⟩ (P 5).toNat (by omega)
    omega
/-! a gun that shoots, cell by cell -/
theorem sh_7 (hs : s < 6) : q_shoot P g s u 7 = P 7 - u := by
  unfold q_shoot
  split
  · rw [q_pn (by omega), q_pn (by omega), q_pe]
  · rw [q_pn (by omega), q_pn (by omega), q_pn (by omega), q_pn (by omega), q_pn (by omega), q_pe]
theorem sh_10 : q_shoot P g s u 10 = P 10 + (if P (39 + 6 * g + 3) = 0 then u else q_lost P u + q_over P s (u - q_lost P u)) := by
  unfold q_shoot
  split
  · rw [q_pe]
  · rw [q_pe]
theorem sh_st (hs : s < 6) : q_shoot P g s u (39 + 6 * g + 3) = if P (39 + 6 * g + 3) = 0 then 1 else 2 := by
  unfold q_shoot
  split
  · rw [q_pn (by omega), q_pe]
  · rw [q_pn (by omega), q_pn (by omega), q_pn (by omega), q_pn (by omega), q_pe]
theorem sh_mk (hs : s < 6) : q_shoot P g s u (39 + 6 * g + 4) = P (39 + 6 * g + 4) + q_mk P g u := by
  unfold q_shoot q_mk
  split
  · rw [q_pn (by omega), q_pn (by omega), q_pn (by omega), Int.add_zero]
  · rw [q_pn (by omega), q_pn (by omega), q_pn (by omega), q_pe]
theorem sh_sn (hs : s < 6) : q_shoot P g s u (15 + 4 * s + 3) = P (15 + 4 * s + 3) + (if P (39 + 6 * g + 3) = 0 then 0 else u - q_lost P u - q_over P s (u - q_lost P u)) := by
  unfold q_shoot
  split
  · rw [q_pn (by omega), q_pn (by omega), q_pn (by omega), Int.add_zero]
  · rw [q_pn (by omega), q_pe]; omega
/-! the turns of the guns -/
def g_d (ord : Nat → Nat) (k : Nat) (n : Nat) : Int := q_it (fun i b => if ord i = k then 1 else b) n 0
theorem g_d_s {k : Nat} : g_d ord k (n + 1) = if ord n = k then 1 else g_d ord k n := rfl
theorem g_d_1 {k : Nat} : ∀ n, g_d ord k n = 1 ∨ (g_d ord k n = 0 ∧ ∀ i, i < n → ord i ≠ k)
  | 0 => Or.inr ⟨rfl, fun i hi => absurd hi (by omega)⟩
  | n + 1 => by
    rw [g_d_s]
    by_cases c : ord n = k
    · rw [if_pos c]; exact Or.inl rfl
    · rw [if_neg c]
      rcases g_d_1 (k := k) n with h | ⟨h, h1⟩
      · exact Or.inl h
      · refine Or.inr ⟨h, fun i hi => ?_⟩
        by_cases e : i = n
        · rw [e]; exact c
        · exact h1 i (by omega)
theorem g_d_i {k : Nat} (h : g_d ord k n = 1) (hi : ∀ i, i < n → ord i ≠ k) : False := by
  induction n with
  | zero => exact absurd h (by show (0 : Int) ≠ 1; decide)
  | succ n ih =>
    rw [g_d_s, if_neg (hi n (by omega))] at h
    exact ih h (fun i hi1 => hi i (by omega))
/-- what is known of a gun whose turn has been -/
def g_D (c : Int) (P : Nat → Int) (g : Nat) (z st mk : Int) : Prop :=
  (0 ≤ z ∧ z ≤ 5) ∧ (z = 1 ↔ P (39 + 6 * g + 2) = 0) ∧ (2 ≤ z → (z = 2 ↔ c = 0)) ∧
  (z = 3 → q_rd P (P (39 + 6 * g)).toNat ∨ 1 < P 5) ∧ (z = 0 → ¬ q_rd P (P (39 + 6 * g)).toNat ∧ 0 < c) ∧
  st = (if 0 < z then 0 else if P (39 + 6 * g + 3) = 0 then 1 else 2) ∧
  mk = P (39 + 6 * g + 4) + (if st = 2 then q_use P g c - q_lost P (q_use P g c) else 0)
def g_S (ord : Nat → Nat) (c : Int) (P Z : Nat → Int) (n : Nat) : Int := q_it (fun g y => y + (if g_d ord g n = 1 ∧ Z g = 0 then q_use P g c else 0)) (P 5).toNat 0
/-- n turns have been -/
def g_N (ord : Nat → Nat) (c : Int) (P : Nat → Int) (n : Nat) (x : (Nat → Int) × Int × (Nat → Int) × Int) : Prop :=
  (q_snow x.1 + x.1 7 + x.1 10 = q_snow P + P 7 + P 10 ∧ P 10 + (P 0 - x.2.1) - x.2.2.2 ≤ x.1 10 ∧ P 10 ≤ x.1 10 ∧ P 0 - x.2.1 = g_S ord c P x.2.2.1 n) ∧
  (∀ j, (j = 9 ∨ j = 11 ∨ j = 12 ∨ j = 13 ∨ (15 ≤ j ∧ j < 39 ∧ (j - 15) % 4 ≠ 3) ∨ 93 ≤ j) → x.1 j = P j) ∧
  ((∀ s : Nat, (s : Int) < P 4 → P (15 + 4 * s + 3) ≤ x.1 (15 + 4 * s + 3)) ∧ ((c = 0 ∨ n = 0) → ∀ s : Nat, (s : Int) < P 4 → x.1 (15 + 4 * s + 3) = P (15 + 4 * s + 3))) ∧
  (∀ g : Nat, (g : Int) < P 5 → x.1 (39 + 6 * g + 2) = P (39 + 6 * g + 2) ∧ (g_d ord g n ≠ 1 → x.1 (39 + 6 * g + 3) = P (39 + 6 * g + 3) ∧ x.1 (39 + 6 * g + 4) = P (39 + 6 * g + 4)) ∧ (g_d ord g n = 1 → g_D c P g (x.2.2.1 g) (x.1 (39 + 6 * g + 3)) (x.1 (39 + 6 * g + 4))))
theorem g_S_s {x : Int} (hn : ((ord n : Nat) : Int) < P 5) (hd : g_d ord (ord n) n ≠ 1) : g_S ord w P (q_pu Z (ord n) x) (n + 1) = g_S ord w P Z n + (if x = 0 then q_use P (ord n) w else 0) := by
  have e := su_1 (f := fun g => if g_d ord g (n + 1) = 1 ∧ q_pu Z (ord n) x g = 0 then q_use P g w else 0) (g := fun g => if g_d ord g n = 1 ∧ Z g = 0 then q_use P g w else 0) (k := ord n) (N := (P 5).toNat) (fun i _ hi => by
    rw [g_d_s, if_neg (Ne.symm hi), q_pn hi]) (P 5).toNat (Nat.le_refl _)
  rw [if_pos (by omega), g_d_s, if_pos rfl, q_pe, if_neg (c := g_d ord (ord n) n = 1 ∧ Z (ord n) = 0) (fun q => hd q.1)] at e
  unfold g_S
  rw [e]
  by_cases c : x = 0
  · rw [if_pos ⟨rfl, c⟩, if_pos c]; omega
  · rw [if_neg (fun q => c q.2), if_neg c]; omega
theorem use_0 (hn : 0 ≤ P (39 + 6 * g + 1)) (hw : 0 ≤ w) : q_use P g w = 0 ↔ w = 0 := by
  unfold q_use
  constructor
  · intro e
    rcases Int.mul_eq_zero.mp e with h | h
    · omega
    · exact h
  · intro e
    rw [e, Int.mul_zero]
theorem gN_s {x : (Nat → Int) × Int × (Nat → Int) × Int} (h : g_N ord w P n x) (hz : q_gz H P x) (okP : q_ok H 9 P) (hn : ((ord n : Nat) : Int) < P 5) (hn5 : (n : Int) < P 5) (hd : g_d ord (ord n) n ≠ 1) (hw : 0 ≤ w ∧ w ≤ 3) : g_N ord w P (n + 1) (q_gs (ord n) w x) := by
  obtain ⟨⟨h1, h2, h3, h4⟩, h5, ⟨h6, h7⟩, h8⟩ := h
  obtain ⟨ok, hl, kp⟩ := hz
  have a4 := okP.1.2.2.2.2.1
  have a5 := okP.1.2.2.2.2.2.1
  have e4 : x.1 4 = P 4 := kp.1 4 (by omega)
  have e5 : x.1 5 = P 5 := kp.1 5 (by omega)
  have e3 : x.1 3 = P 3 := kp.1 3 (by omega)
  obtain ⟨k0, k1⟩ := kp.2.2.2 (ord n) (by omega)
  have bP := okP.2.2.1 (ord n) hn
  have b := ok.2.2.1 (ord n) (by rw [e5]; exact hn)
  have hs4 : (((P (39 + 6 * ord n)).toNat : Nat) : Int) < P 4 := by omega
  generalize hs : (P (39 + 6 * ord n)).toNat = s at hs4
  have hs6 : s < 6 := by omega
  have us : q_use x.1 (ord n) w = q_use P (ord n) w := by unfold q_use; rw [k1]
  have uw := q_use_w (P := P) (g := ord n) (c := w) bP.2.1 hw
  have u0 := use_0 (P := P) (g := ord n) (w := w) bP.2.1.1 hw.1
  have lo : q_lost x.1 (q_use P (ord n) w) = q_lost P (q_use P (ord n) w) := by unfold q_lost; rw [e3]
  have lw := q_lost_w (P := P) (u := q_use P (ord n) w) uw okP.1.2.2.2.1
  have sn := (ok.2.1 s (by rw [e4]; exact hs4)).2.2.2
  have rd : q_rd x.1 s ↔ P (15 + 4 * s + 2) * P (15 + 4 * s) ≤ x.1 (15 + 4 * s + 3) := by
    show x.1 (15 + 4 * s + 2) * x.1 (15 + 4 * s) ≤ x.1 (15 + 4 * s + 3) ↔ _
    rw [h5 (15 + 4 * s + 2) (by omega), h5 (15 + 4 * s) (by omega)]
  have sm := h6 s hs4
  obtain ⟨c8, d8, -⟩ := h8 (ord n) hn
  obtain ⟨d3, d4⟩ := d8 hd
  have nd : ∀ g : Nat, g ≠ ord n → g_d ord g (n + 1) = g_d ord g n := fun g hg => by rw [g_d_s, if_neg (Ne.symm hg)]
  unfold q_gs
  rw [us, k0, hs]
  have why : q_why x.1 (ord n) s (q_use P (ord n) w) x.2.1 = if P (39 + 6 * ord n + 2) = 0 then 1 else if q_use P (ord n) w = 0 then 2 else if q_rd x.1 s then 3 else if x.2.1 < q_use P (ord n) w then 4 else if x.1 7 < q_use P (ord n) w then 5 else 0 := by unfold q_why; rw [c8]
  have ww := q_why_w (P := x.1) (g := ord n) (s := s) (u := q_use P (ord n) w) (l := x.2.1)
  generalize hy : q_why x.1 (ord n) s (q_use P (ord n) w) x.2.1 = y at why ww
  -- what the reason says
  have f1 : y = 1 ↔ P (39 + 6 * ord n + 2) = 0 := by
    rw [why]; (repeat' split) <;> omega
  have f2 : 2 ≤ y → (y = 2 ↔ w = 0) := by
    rw [why, ← u0]; (repeat' split) <;> omega
  have f3 : y = 3 → q_rd P s ∨ 1 < P 5 := by
    intro e
    have hr : q_rd x.1 s := by
      rw [why] at e
      by_cases q : q_rd x.1 s
      · exact q
      · rw [if_neg q] at e
        exfalso
        revert e; (repeat' split) <;> omega
    by_cases n0 : n = 0
    · left
      show P (15 + 4 * s + 2) * P (15 + 4 * s) ≤ P (15 + 4 * s + 3)
      rw [← h7 (Or.inr n0) s hs4]
      exact rd.mp hr
    · right; omega
  have f0 : y = 0 → ¬ q_rd P s ∧ 0 < w := by
    intro e
    rw [why] at e
    refine ⟨fun q => ?_, ?_⟩
    · have q1 : q_rd x.1 s := rd.mpr (by have : P (15 + 4 * s + 2) * P (15 + 4 * s) ≤ P (15 + 4 * s + 3) := q; omega)
      rw [if_pos q1] at e
      revert e; (repeat' split) <;> omega
    · by_cases w0 : w = 0
      · rw [if_pos (u0.mpr w0)] at e
        revert e; split <;> omega
      · omega
  by_cases hw0 : y = 0
  · rw [if_pos hw0]
    have g0 := h4
    refine ⟨⟨?_, ?_, ?_, ?_⟩, fun j hj => ?_, ⟨fun t ht => ?_, fun hc t ht => ?_⟩, fun g hg => ⟨?_, fun hg1 => ?_, fun hg1 => ?_⟩⟩
    · show q_snow (q_shoot x.1 (ord n) s (q_use P (ord n) w)) + q_shoot x.1 (ord n) s (q_use P (ord n) w) 7 + q_shoot x.1 (ord n) s (q_use P (ord n) w) 10 = _
      rw [snow_1 (s := s) (P := x.1) (q_cnt_shoot hs6 (by omega)) (by rw [e4]; exact hs4) (fun t ht4 ht => q_cnt_shoot hs6 (by omega)), sh_7 hs6, sh_10, sh_sn hs6]
      split <;> omega
    · show P 10 + (P 0 - (x.2.1 - q_use P (ord n) w)) - (x.2.2.2 + q_mk x.1 (ord n) (q_use P (ord n) w)) ≤ q_shoot x.1 (ord n) s (q_use P (ord n) w) 10
      have ow := q_over_w (P := x.1) (s := s) (u := q_use P (ord n) w - q_lost x.1 (q_use P (ord n) w)) (by rw [lo]; omega) sn
      rw [sh_10]
      unfold q_mk
      split <;> omega
    · show P 10 ≤ q_shoot x.1 (ord n) s (q_use P (ord n) w) 10
      have ow := q_over_w (P := x.1) (s := s) (u := q_use P (ord n) w - q_lost x.1 (q_use P (ord n) w)) (by rw [lo]; omega) sn
      rw [sh_10]
      split <;> omega
    · show P 0 - (x.2.1 - q_use P (ord n) w) = g_S ord w P (q_pu x.2.2.1 (ord n) 0) (n + 1)
      rw [g_S_s hn hd, if_pos rfl]; omega
    · show q_shoot x.1 (ord n) s (q_use P (ord n) w) j = P j
      rw [q_cnt_shoot hs6 (by omega)]; exact h5 j hj
    · show P (15 + 4 * t + 3) ≤ q_shoot x.1 (ord n) s (q_use P (ord n) w) (15 + 4 * t + 3)
      have ow := q_over_w (P := x.1) (s := s) (u := q_use P (ord n) w - q_lost x.1 (q_use P (ord n) w)) (by rw [lo]; omega) sn
      have ht6 := h6 t ht
      by_cases e : t = s
      · subst e
        have oo : q_over x.1 t (q_use P (ord n) w - q_lost x.1 (q_use P (ord n) w)) ≤ q_use P (ord n) w - q_lost x.1 (q_use P (ord n) w) := by
          unfold q_over; split <;> omega
        rw [sh_sn hs6]
        split <;> omega
      · rw [q_cnt_shoot hs6 (by omega)]; exact ht6
    · exfalso
      rcases hc with hc | hc
      · have := (f0 hw0).2; omega
      · omega
    · show q_shoot x.1 (ord n) s (q_use P (ord n) w) (39 + 6 * g + 2) = _
      rw [q_cnt_shoot hs6 (by omega)]; exact (h8 g hg).1
    · have hgn : g ≠ ord n := fun q => hg1 (by rw [q, g_d_s, if_pos rfl])
      rw [nd g hgn] at hg1
      show q_shoot x.1 (ord n) s (q_use P (ord n) w) (39 + 6 * g + 3) = _ ∧ q_shoot x.1 (ord n) s (q_use P (ord n) w) (39 + 6 * g + 4) = _
      rw [q_cnt_shoot hs6 (by omega), q_cnt_shoot hs6 (by omega)]
      exact (h8 g hg).2.1 hg1
    · by_cases hgn : g = ord n
      · subst hgn
        show g_D w P (ord n) (q_pu x.2.2.1 (ord n) 0 (ord n)) (q_shoot x.1 (ord n) s (q_use P (ord n) w) (39 + 6 * ord n + 3)) (q_shoot x.1 (ord n) s (q_use P (ord n) w) (39 + 6 * ord n + 4))
        rw [q_pe, sh_st hs6, sh_mk hs6]
        unfold g_D q_mk
        rw [hs, d3, d4, lo]
        refine ⟨by omega, by rw [hw0] at f1; exact f1, fun q => by omega, fun q => by omega, fun _ => f0 hw0, by rw [if_neg (show ¬ ((0 : Int) < 0) by omega)], ?_⟩
        by_cases q : P (39 + 6 * ord n + 3) = 0
        · rw [if_pos q, if_pos q, if_neg (by omega)]
        · rw [if_neg q, if_neg q, if_pos rfl]
      · rw [nd g hgn] at hg1
        have r := (h8 g hg).2.2 hg1
        show g_D w P g (q_pu x.2.2.1 (ord n) 0 g) (q_shoot x.1 (ord n) s (q_use P (ord n) w) (39 + 6 * g + 3)) (q_shoot x.1 (ord n) s (q_use P (ord n) w) (39 + 6 * g + 4))
        rw [q_pn hgn, q_cnt_shoot hs6 (by omega), q_cnt_shoot hs6 (by omega)]
        exact r
  · rw [if_neg hw0]
    refine ⟨⟨?_, ?_, ?_, ?_⟩, fun j hj => ?_, ⟨fun t ht => ?_, fun hc t ht => ?_⟩, fun g hg => ⟨?_, fun hg1 => ?_, fun hg1 => ?_⟩⟩
    · show q_snow (q_pu x.1 (39 + 6 * ord n + 3) 0) + q_pu x.1 (39 + 6 * ord n + 3) 0 7 + q_pu x.1 (39 + 6 * ord n + 3) 0 10 = _
      rw [snow_c (P := x.1) (q_pn (by omega)) (fun t ht => q_pn (by omega)), q_pn (by omega), q_pn (by omega)]; exact h1
    · show _ ≤ q_pu x.1 (39 + 6 * ord n + 3) 0 10
      rw [q_pn (by omega)]; exact h2
    · show _ ≤ q_pu x.1 (39 + 6 * ord n + 3) 0 10
      rw [q_pn (by omega)]; exact h3
    · show P 0 - x.2.1 = g_S ord w P (q_pu x.2.2.1 (ord n) y) (n + 1)
      rw [g_S_s hn hd, if_neg hw0]; omega
    · show q_pu x.1 (39 + 6 * ord n + 3) 0 j = _
      have e : j ≠ 39 + 6 * ord n + 3 := by omega
      rw [q_pn e]; exact h5 j hj
    · show _ ≤ q_pu x.1 (39 + 6 * ord n + 3) 0 (15 + 4 * t + 3)
      rw [q_pn (by omega)]; exact h6 t ht
    · show q_pu x.1 (39 + 6 * ord n + 3) 0 (15 + 4 * t + 3) = _
      rw [q_pn (by omega)]; exact h7 (by omega) t ht
    · show q_pu x.1 (39 + 6 * ord n + 3) 0 (39 + 6 * g + 2) = _
      rw [q_pn (by omega)]; exact (h8 g hg).1
    · have hgn : g ≠ ord n := fun q => hg1 (by rw [q, g_d_s, if_pos rfl])
      rw [nd g hgn] at hg1
      show q_pu x.1 (39 + 6 * ord n + 3) 0 (39 + 6 * g + 3) = _ ∧ q_pu x.1 (39 + 6 * ord n + 3) 0 (39 + 6 * g + 4) = _
      rw [q_pn (by omega), q_pn (by omega)]
      exact (h8 g hg).2.1 hg1
    · by_cases hgn : g = ord n
      · subst hgn
        show g_D w P (ord n) (q_pu x.2.2.1 (ord n) y (ord n)) (q_pu x.1 (39 + 6 * ord n + 3) 0 (39 + 6 * ord n + 3)) (q_pu x.1 (39 + 6 * ord n + 3) 0 (39 + 6 * ord n + 4))
        rw [q_pe, q_pe, q_pn (by omega), d4]
        unfold g_D
        rw [hs]
        refine ⟨ww, f1, f2, f3, fun q => absurd q hw0, by rw [if_pos (by omega)], by rw [if_neg (by omega)]; omega⟩
      · rw [nd g hgn] at hg1
        have r := (h8 g hg).2.2 hg1
        show g_D w P g (q_pu x.2.2.1 (ord n) y g) (q_pu x.1 (39 + 6 * ord n + 3) 0 (39 + 6 * g + 3)) (q_pu x.1 (39 + 6 * ord n + 3) 0 (39 + 6 * g + 4))
        rw [q_pn hgn, q_pn (by omega), q_pn (by omega)]
        exact r
theorem gN_0 : g_N ord w P 0 (P, P 0, Z, 0) := by
  refine ⟨⟨rfl, by dsimp only; omega, Int.le_refl _, ?_⟩, fun _ _ => rfl, ⟨fun _ _ => Int.le_refl _, fun _ _ _ => rfl⟩, fun g hg => ⟨rfl, fun _ => ⟨rfl, rfl⟩, fun q => ?_⟩⟩
  · have e := su_0 (f := fun g => if g_d ord g 0 = 1 ∧ Z g = 0 then q_use P g w else 0) (fun i => if_neg (fun q => absurd q.1 (by show ¬ ((0 : Int) = 1); decide))) (P 5).toNat
    unfold g_S
    rw [e]
    show P 0 - P 0 = 0
    omega
  · exact absurd q (by show ¬ ((0 : Int) = 1); decide)
/-- all turns of an hour -/
theorem guns_N (ok : q_ok H 9 P) (ho : ∀ i : Nat, (i : Int) < P 5 → ((ord i : Nat) : Int) < P 5) (hi : ∀ i j : Nat, (i : Int) < P 5 → (j : Int) < P 5 → ord i = ord j → i = j) : g_N ord (q_cold (q_wet P (P 8))) P (P 5).toNat (q_guns ord P Z) := by
  have a5 := ok.1.2.2.2.2.2.1
  unfold q_guns
  exact (q_it_inv (Z := fun n x => g_N ord (q_cold (q_wet P (P 8))) P n x ∧ q_gz H P x) (N := (P 5).toNat) (x := (P, P 0, Z, 0)) (fun n x hn hx => ⟨gN_s hx.1 hx.2 ok (ho n (by omega)) (by omega) (fun q => g_d_i q (fun i hin e => by have := hi i n (by omega) (by omega) e; omega)) q_cold_w, q_gz_s hx.2 (ho n (by omega)) q_cold_w⟩) ⟨gN_0, ok, ok.1.1, q_kp_r⟩ _ (Nat.le_refl _)).1
end Z43
