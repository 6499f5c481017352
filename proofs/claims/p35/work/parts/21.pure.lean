/-! PURE: what the two programs do to a page of integers -/
def q_amt (P : Nat → Int) (u : Int) : Int := if P 1 - P 7 ≤ u then P 1 - P 7 else u
def q_pour (P : Nat → Int) (u : Int) : Nat → Int := q_pu P 7 (P 7 + q_amt P u)
def q_fill (P : Nat → Int) (u : Int) : Nat → Int := q_pu (q_pour P u) 9 (P 9 + q_amt P u)
def q_tme (P : Nat → Int) (u : Int) : Nat → Int := q_pu (q_pour (q_pu P 12 (P 12 + u)) (u / 2)) 11 (P 11 + (u - q_amt P (u / 2)))
def q_lost (P : Nat → Int) (u : Int) : Int := (u * P 3 + 99) / 100
def q_rest (P : Nat → Int) (j : Nat) (v : Int) : Int := if 0 < P 7 - q_pu P j v 1 then P 7 - q_pu P j v 1 else 0
def q_set (P : Nat → Int) (j : Nat) (v : Int) : Nat → Int := q_pu (q_pu (q_pu P j v) 7 (P 7 - q_rest P j v)) 13 (P 13 + q_rest P j v)
def q_wet (P : Nat → Int) (h : Int) : Int := P (93 + (h % P 6).toNat)
def q_cold (w : Int) : Int := if w ≤ -2 then (if w < -4 then (if w < -7 then 3 else 2) else 1) else 0
abbrev q_rd (P : Nat → Int) (s : Nat) : Prop := P (15 + 4 * s + 2) * P (15 + 4 * s) ≤ P (15 + 4 * s + 3)

def q_dp (P : Nat → Int) (s : Nat) : Int := P (15 + 4 * s + 3) / P (15 + 4 * s)
/-- a page as it must be: hours up to H, guns up to G -/
def q_ok (H G : Int) (P : Nat → Int) : Prop := ((0 ≤ P 0 ∧ P 0 ≤ 99) ∧ (0 ≤ P 1 ∧ P 1 ≤ 9999) ∧ (0 ≤ P 2 ∧ P 2 ≤ 9) ∧ (0 ≤ P 3 ∧ P 3 ≤ 50) ∧ (0 ≤ P 4 ∧ P 4 ≤ 6) ∧ (0 ≤ P 5 ∧ P 5 ≤ G) ∧ (1 ≤ P 6 ∧ P 6 ≤ 24) ∧ (0 ≤ P 7 ∧ P 7 ≤ P 1) ∧ (0 ≤ P 8 ∧ P 8 ≤ H) ∧ (0 ≤ P 14 ∧ P 14 ≤ 20)) ∧
  (∀ s : Nat, (s : Int) < P 4 → (1 ≤ P (15 + 4 * s) ∧ P (15 + 4 * s) ≤ 9) ∧ (0 ≤ P (15 + 4 * s + 1) ∧ P (15 + 4 * s + 1) ≤ 9) ∧ (0 ≤ P (15 + 4 * s + 2) ∧ P (15 + 4 * s + 2) ≤ 99) ∧ (0 ≤ P (15 + 4 * s + 3) ∧ P (15 + 4 * s + 3) ≤ 999)) ∧
  (∀ g : Nat, (g : Int) < P 5 → (0 ≤ P (39 + 6 * g) ∧ P (39 + 6 * g) < P 4) ∧ (0 ≤ P (39 + 6 * g + 1) ∧ P (39 + 6 * g + 1) ≤ 3) ∧ (0 ≤ P (39 + 6 * g + 2) ∧ P (39 + 6 * g + 2) ≤ 1) ∧ (0 ≤ P (39 + 6 * g + 3) ∧ P (39 + 6 * g + 3) ≤ 2)) ∧
  (∀ i : Nat, (i : Int) < P 6 → -9 ≤ P (93 + i) ∧ P (93 + i) ≤ 9)
theorem q_tar {a t : Int} (h : 1 ≤ a ∧ a ≤ 9) (h1 : 0 ≤ t ∧ t ≤ 99) : 0 ≤ t * a ∧ t * a ≤ 891 := by
  constructor
  · exact Int.mul_nonneg h1.1 (by omega)
  · have := Int.mul_le_mul h1.2 h.2 (by omega) (by omega)
    omega
def q_over (P : Nat → Int) (s : Nat) (u : Int) : Int := if 999 ≤ P (15 + 4 * s + 3) + u then P (15 + 4 * s + 3) + u - 999 else 0
/-- the class's book: an entry behind the last, the oldest goes -/
def q_bsh (P : Nat → Int) : Nat → Int := q_pu (q_cp (q_cp P P 117 2 1 117 2 0 19) (q_cp P P 117 2 1 117 2 0 19) 118 2 1 118 2 0 19) 14 19
def q_ent1 (P : Nat → Int) (s h : Int) : Nat → Int := q_pu (q_pu (q_pu P (117 + 2 * (P 14).toNat) s) (118 + 2 * (P 14).toNat) h) 14 (P 14 + 1)
def q_ent (P : Nat → Int) (s h : Int) : Nat → Int := if P 14 < 20 then q_ent1 P s h else q_ent1 (q_bsh P) s h
def q_rds (P : Nat → Int) : Int := q_it (fun s c => c + q_b (q_rd P s)) (P 4).toNat 0
def q_snow (P : Nat → Int) : Int := q_it (fun s c => c + P (15 + 4 * s + 3)) (P 4).toNat 0
def q_runs (P : Nat → Int) : Int := q_it (fun g c => c + q_b (P (39 + 6 * g + 3) = 2)) (P 5).toNat 0
def q_alls (P : Nat → Int) : Int := q_it (fun g c => c + P (39 + 6 * g + 2)) (P 5).toNat 0
def q_made (P : Nat → Int) : Int := q_it (fun g c => c + P (39 + 6 * g + 4)) (P 5).toNat 0
def q_gat (P : Nat → Int) (s : Int) : Int := q_it (fun g c => c + q_b (P (39 + 6 * g) = s)) (P 5).toNat 0
def q_puts (P : Nat → Int) (a r t : Int) : Nat → Int := q_pu (q_pu (q_pu (q_pu (q_pu P (15 + 4 * (P 4).toNat) a) (15 + 4 * (P 4).toNat + 1) r) (15 + 4 * (P 4).toNat + 2) t) (15 + 4 * (P 4).toNat + 3) 0) 4 (P 4 + 1)
def q_putg (P : Nat → Int) (s n : Int) : Nat → Int := q_pu (q_pu (q_pu (q_pu (q_pu (q_pu (q_pu P (39 + 6 * (P 5).toNat) s) (39 + 6 * (P 5).toNat + 1) n) (39 + 6 * (P 5).toNat + 2) 1) (39 + 6 * (P 5).toNat + 3) 0) (39 + 6 * (P 5).toNat + 4) 0) (39 + 6 * (P 5).toNat + 5) 0) 5 (P 5 + 1)
def q_begin (P : Nat → Int) (p c i l : Int) : Nat → Int := q_pu (q_pu (q_pu (q_pu (q_pu (q_pu (q_pu (q_pu (q_pu (q_pu (q_pu (q_pu (q_pu (q_pu (q_pu P 0 p) 1 c) 2 i) 3 l) 7 c) 9 c) 10 0) 11 0) 12 0) 13 0) 6 0) 14 0) 4 0) 5 0) 8 0
def q_row (P Q : Nat → Int) (b n : Nat) : Nat → Int := fun j => if b ≤ j ∧ j < b + n then Q j else P j
theorem q_row0 {P Q : Nat → Int} {b : Nat} : q_row P Q b 0 = P := by
  funext j; unfold q_row; rw [if_neg (by omega)]
theorem q_row4 {P Q : Nat → Int} {n : Nat} : q_pu (q_pu (q_pu (q_pu (q_row P Q 15 (4 * n)) (15 + 4 * n) (Q (15 + 4 * n))) (15 + 4 * n + 1) (Q (15 + 4 * n + 1))) (15 + 4 * n + 2) (Q (15 + 4 * n + 2))) (15 + 4 * n + 3) (Q (15 + 4 * n + 3)) = q_row P Q 15 (4 * (n + 1)) := by
  funext j
  simp only [q_row, q_pu]
  (repeat' split) <;> first | rfl | (exfalso; omega) | (congr 1; omega)
theorem q_row6 {P Q : Nat → Int} {n : Nat} : q_pu (q_pu (q_pu (q_pu (q_pu (q_pu (q_row P Q 39 (6 * n)) (39 + 6 * n) (Q (39 + 6 * n))) (39 + 6 * n + 1) (Q (39 + 6 * n + 1))) (39 + 6 * n + 2) (Q (39 + 6 * n + 2))) (39 + 6 * n + 3) (Q (39 + 6 * n + 3))) (39 + 6 * n + 4) (Q (39 + 6 * n + 4))) (39 + 6 * n + 5) (Q (39 + 6 * n + 5)) = q_row P Q 39 (6 * (n + 1)) := by
  funext j
  simp only [q_row, q_pu]
  (repeat' split) <;> first | rfl | (exfalso; omega) | (congr 1; omega)
theorem q_pq {P Q : Nat → Int} {i j : Nat} : q_pu P i (Q i) j = if j = i then Q j else P j := by
  unfold q_pu; split
  · rename_i h; rw [h]
  · rfl
theorem q_oo {c d : Prop} [Decidable c] [Decidable d] {x y : Int} : (if c then x else if d then x else y) = if c ∨ d then x else y := by
  by_cases h : c
  · rw [if_pos h, if_pos (Or.inl h)]
  · rw [if_neg h]
    by_cases h1 : d
    · rw [if_pos h1, if_pos (Or.inr h1)]
    · rw [if_neg h1, if_neg (fun q => q.elim h h1)]
theorem q_cp1 {P Q : Nat → Int} {b n j : Nat} : q_cp Q P b 1 0 b 1 0 n j = if b ≤ j ∧ j < b + n then Q j else P j := by
  unfold q_cp
  by_cases h : b ≤ j ∧ j < b + n
  · rw [if_pos h, if_pos (by omega)]; congr 1; omega
  · rw [if_neg h, if_neg (by omega)]
theorem q_cp2 {P Q : Nat → Int} {b n j : Nat} : q_cp Q P b 2 0 b 2 0 n j = if b ≤ j ∧ j < b + 2 * n ∧ (j - b) % 2 = 0 then Q j else P j := by
  unfold q_cp
  by_cases h : b ≤ j ∧ j < b + 2 * n ∧ (j - b) % 2 = 0
  · rw [if_pos h, if_pos (by omega)]; congr 1; omega
  · rw [if_neg h, if_neg (by omega)]
/-- what the class copies: the rows in use -/
def q_copy (P Q : Nat → Int) : Nat → Int := fun j => if 157 ≤ j then P j else if 15 + 4 * (Q 4).toNat ≤ j ∧ j < 39 then P j else if 39 + 6 * (Q 5).toNat ≤ j ∧ j < 93 then P j else Q j
/-- the book without a slope, as the class has it -/
def q_strs (s : Int) (i : Nat) (x : (Nat → Int) × Int) : (Nat → Int) × Int := if x.1 (117 + 2 * i) = s then x else (q_pu (q_pu x.1 (117 + 2 * x.2.toNat) (if x.1 (117 + 2 * i) ≤ s then x.1 (117 + 2 * i) else x.1 (117 + 2 * i) - 1)) (118 + 2 * x.2.toNat) (x.1 (118 + 2 * i)), x.2 + 1)
def q_strC (P : Nat → Int) (s : Int) : Nat → Int := q_pu (q_it (q_strs s) (P 14).toNat (P, 0)).1 14 (q_it (q_strs s) (P 14).toNat (P, 0)).2
def q_shf (P : Nat → Int) (s n : Nat) : Nat → Int := fun j => if 15 + 4 * s ≤ j ∧ j < 15 + 4 * (s + n) then P (j + 4) else P j
theorem q_shf0 {P : Nat → Int} {s : Nat} : q_shf P s 0 = P := by funext j; unfold q_shf; rw [if_neg (by omega)]
theorem q_shfn {P : Nat → Int} {s n j : Nat} (h : j < 15 + 4 * s ∨ 15 + 4 * (s + n) ≤ j) : q_shf P s n j = P j := by unfold q_shf; rw [if_neg (by omega)]
theorem q_shf4 {P : Nat → Int} {s n : Nat} : q_pu (q_pu (q_pu (q_pu (q_shf P s n) (15 + 4 * (s + n)) (q_shf P s n (15 + 4 * (s + n + 1)))) (15 + 4 * (s + n) + 1) (q_shf P s n (15 + 4 * (s + n + 1) + 1))) (15 + 4 * (s + n) + 2) (q_shf P s n (15 + 4 * (s + n + 1) + 2))) (15 + 4 * (s + n) + 3) (q_shf P s n (15 + 4 * (s + n + 1) + 3)) = q_shf P s (n + 1) := by
  rw [q_shfn (by omega), q_shfn (by omega), q_shfn (by omega), q_shfn (by omega)]
  funext j
  simp only [q_shf, q_pu]
  (repeat' split) <;> first | rfl | (exfalso; omega) | (congr 1; omega)
/-- guns of later slopes have a number less -/
def q_gds (s : Nat) (g : Nat) (P : Nat → Int) : Nat → Int := if P (39 + 6 * g) ≤ s then P else q_pu P (39 + 6 * g) (P (39 + 6 * g) - 1)
def q_drop3 (P : Nat → Int) (s : Nat) : Nat → Int := q_it (q_gds s) (P 5).toNat (q_pu (q_shf P s ((P 4).toNat - 1 - s)) 4 (P 4 - 1))
def q_dropC (P : Nat → Int) (s : Nat) : Nat → Int := q_pu (q_strC (q_drop3 P s) s) 13 (q_strC (q_drop3 P s) s 13 + P (15 + 4 * s + 3))
def q_use (P : Nat → Int) (g : Nat) (c : Int) : Int := (P (39 + 6 * g + 1) + 1) * c
def q_why (P : Nat → Int) (g s : Nat) (u l : Int) : Int := if P (39 + 6 * g + 2) = 0 then 1 else if u = 0 then 2 else if q_rd P s then 3 else if l < u then 4 else if P 7 < u then 5 else 0
def q_shoot (P : Nat → Int) (g s : Nat) (u : Int) : Nat → Int := if P (39 + 6 * g + 3) = 0 then q_pu (q_pu (q_pu P 7 (P 7 - u)) (39 + 6 * g + 3) 1) 10 (P 10 + u) else q_pu (q_pu (q_pu (q_pu (q_pu (q_pu P 7 (P 7 - u)) (39 + 6 * g + 3) 2) (39 + 6 * g + 4) (P (39 + 6 * g + 4) + (u - q_lost P u))) (39 + 6 * g + 5) (P (39 + 6 * g + 5) + 1)) (15 + 4 * s + 3) (P (15 + 4 * s + 3) + (u - q_lost P u) - q_over P s (u - q_lost P u))) 10 (P 10 + (q_lost P u + q_over P s (u - q_lost P u)))
def q_key (P : Nat → Int) (g : Nat) : Int := ((9 - P (15 + 4 * (P (39 + 6 * g)).toNat + 1)) * 1000 + q_dp P (P (39 + 6 * g)).toNat) * 9 + g
def q_ins (x : Int) : Nat → (Nat → Int) → (Nat → Int)
  | 0, K => q_pu K 0 x
  | a + 1, K => if K a ≤ x then q_pu K (a + 1) x else q_ins x a (q_pu K (a + 1) (K a))
def q_keys (P K : Nat → Int) : Nat → Int := q_it (fun g K => q_ins (q_key P g) g K) (P 5).toNat K
def q_mk (P : Nat → Int) (g : Nat) (u : Int) : Int := if P (39 + 6 * g + 3) = 0 then 0 else u - q_lost P u
/-- a gun's turn: page, what is left of the pump, reasons, what is made -/
def q_gs (g : Nat) (c : Int) (x : (Nat → Int) × Int × (Nat → Int) × Int) : (Nat → Int) × Int × (Nat → Int) × Int := if q_why x.1 g (x.1 (39 + 6 * g)).toNat (q_use x.1 g c) x.2.1 = 0 then (q_shoot x.1 g (x.1 (39 + 6 * g)).toNat (q_use x.1 g c), x.2.1 - q_use x.1 g c, q_pu x.2.2.1 g 0, x.2.2.2 + q_mk x.1 g (q_use x.1 g c)) else (q_pu x.1 (39 + 6 * g + 3) 0, x.2.1, q_pu x.2.2.1 g (q_why x.1 g (x.1 (39 + 6 * g)).toNat (q_use x.1 g c) x.2.1), x.2.2.2)
def q_guns (ord : Nat → Nat) (P Z : Nat → Int) : (Nat → Int) × Int × (Nat → Int) × Int := q_it (fun i x => q_gs (ord i) (q_cold (q_wet P (P 8))) x) (P 5).toNat (P, P 0, Z, 0)
def q_mm (w : Int) (s : Nat) (P : Nat → Int) : Int := if w * P (15 + 4 * s) < P (15 + 4 * s + 3) then w * P (15 + 4 * s) else P (15 + 4 * s + 3)
def q_ms (w : Int) (s : Nat) (P : Nat → Int) : Nat → Int := q_tme (q_pu P (15 + 4 * s + 3) (P (15 + 4 * s + 3) - q_mm w s P)) (q_mm w s P)
def q_melt (P : Nat → Int) : Nat → Int := if q_wet P (P 8) ≤ 0 then P else q_it (q_ms (q_wet P (P 8))) (P 4).toNat P
def q_wsd (P : Nat → Int) (s : Nat) (B : Nat → Int) : Nat → Int := q_pu B s (q_b (q_rd P s))
def q_was (P B : Nat → Int) : Nat → Int := q_it (q_wsd P) (P 4).toNat B
def q_es (B : Nat → Int) (s : Nat) (P : Nat → Int) : Nat → Int := if q_rd P s then (if B s = 0 then q_ent P s (P 8) else P) else P
def q_enter (P B : Nat → Int) : Nat → Int := q_it (q_es B) (P 4).toNat P
/-- the order that the keys tell -/
def q_ordC (K : Nat → Int) (i : Nat) : Nat := (K i % 9).toNat
/-- an hour of the class: the keys, the guns' turns, the page -/
def h_K (P K : Nat → Int) : Nat → Int := q_keys (q_fill P (P 2)) K
def h_G (P K Z : Nat → Int) : (Nat → Int) × Int × (Nat → Int) × Int := q_guns (q_ordC (h_K P K)) (q_fill P (P 2)) Z
def h_M (P K Z : Nat → Int) : Nat → Int := q_pu (q_melt (h_G P K Z).1) 8 (q_melt (h_G P K Z).1 8 + 1)
def h_P (P K Z B : Nat → Int) : Nat → Int := q_enter (h_M P K Z) (q_was P B)
def m_hour (k : Nat) (W : Nat → Nat → Int) : Nat → Nat → Int := q_rg (q_rg (q_rg (q_rg W 23 (q_was (W k) (W 23))) k (h_P (W k) (W 21) (W 22) (W 23))) 21 (h_K (W k) (W 21))) 22 (h_G (W k) (W 21) (W 22)).2.2.1
def m_hours (k : Nat) (m : Nat) (W : Nat → Nat → Int) : Nat → Nat → Int := q_it (fun _ W => m_hour k W) m W
/-- the model's order: how many keys are less -/
def q_rk (P : Nat → Int) (g : Nat) : Int := q_it (fun h c => c + q_b (q_key P h < q_key P g)) (P 5).toNat 0
def q_lay (P O : Nat → Int) : Nat → Int := q_it (fun g O => q_pu O (q_rk P g).toNat g) (P 5).toNat O
/-- the model's book: an entry before the first -/
def q_wr (P : Nat → Int) (s : Int) : Nat → Int := q_pu (q_pu (q_pu (fun j => if 119 ≤ j ∧ j ≤ 156 then P (j - 2) else P j) 117 s) 118 (P 8)) 14 (if 20 ≤ P 14 then 20 else P 14 + 1)
def q_cpg (P Q : Nat → Int) (i j n : Nat) : Nat → Int := fun q => if j ≤ q ∧ q < j + n then Q (i + (q - j)) else P q
def q_es1 (B : Nat → Int) (s : Nat) (P : Nat → Int) : Nat → Int := if B s = 0 then (if q_rd P s then q_wr P s else P) else P
def q_enterM (P B : Nat → Int) : Nat → Int := q_it (q_es1 B) (P 4).toNat P
