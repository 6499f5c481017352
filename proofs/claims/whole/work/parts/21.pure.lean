/-! PURE: what the two programs do to a page of integers -/
def q_amt (P : Nat → Int) (u : Int) : Int := if P 1 - P 7 ≤ u then P 1 - P 7 else u
def q_pour (P : Nat → Int) (u : Int) : Nat → Int := q_pu P 7 (P 7 + q_amt P u)
def q_fill (P : Nat → Int) (u : Int) : Nat → Int := q_pu (q_pour P u) 9 (P 9 + q_amt P u)
def q_tme (P : Nat → Int) (u : Int) : Nat → Int := q_pu (q_pour (q_pu P 12 (P 12 + u)) (u / 2)) 11 (P 11 + (u - q_amt P (u / 2)))
def q_lost (P : Nat → Int) (u : Int) : Int := (u * P 3 + 99) / 100
def q_rest (P : Nat → Int) (j : Nat) (v : Int) : Int := if 0 < P 7 - q_pu P j v 1 then P 7 - q_pu P j v 1 else 0
def q_set (P : Nat → Int) (j : Nat) (v : Int) : Nat → Int := q_pu (q_pu (q_pu P j v) 7 (P 7 - q_rest P j v)) 13 (P 13 + q_rest P j v)
def q_wet (P : Nat → Int) (h : Int) : Int := P (93 + (h % P 6).toNat)
def q_cold (w : Int) : Int := if w ≤ -2 then (if w < -4 then (if w < -7 then 3 else 2) else 1) else 0
abbrev q_rd (P : Nat → Int) (s : Nat) : Prop := P (15 + 4 * s + 2) * P (15 + 4 * s) ≤ P (15 + 4 * s + 3)

def q_dp (P : Nat → Int) (s : Nat) : Int := P (15 + 4 * s + 3) / P (15 + 4 * s)
/-- a page as it must be: hours up to H, guns up to G -/
def q_ok (H G : Int) (P : Nat → Int) : Prop := ((0 ≤ P 0 ∧ P 0 ≤ 99) ∧ (0 ≤ P 1 ∧ P 1 ≤ 9999) ∧ (0 ≤ P 2 ∧ P 2 ≤ 9) ∧ (0 ≤ P 3 ∧ P 3 ≤ 50) ∧ (0 ≤ P 4 ∧ P 4 ≤ 6) ∧ (0 ≤ P 5 ∧ P 5 ≤ G) ∧ (1 ≤ P 6 ∧ P 6 ≤ 24) ∧ (0 ≤ P 7 ∧ P 7 ≤ P 1) ∧ (0 ≤ P 8 ∧ P 8 ≤ H) ∧ (0 ≤ P 14 ∧ P 14 ≤ 20)) ∧
  (∀ s : Nat, (s : Int) < P 4 → (1 ≤ P (15 + 4 * s) ∧ P (15 + 4 * s) ≤ 9) ∧ (0 ≤ P (15 + 4 * s + 1) ∧ P (15 + 4 * s + 1) ≤ 9) ∧ (0 ≤ P (15 + 4 * s + 2) ∧ P (15 + 4 * s + 2) ≤ 99) ∧ (0 ≤ P (15 + 4 * s + 3) ∧ P (15 + 4 * s + 3) ≤ 999)) ∧
  (∀ g : Nat, (g : Int) < P 5 → (0 ≤ P (39 + 6 * g) ∧ P (39 + 6 * g) < P 4) ∧ (0 ≤ P (39 + 6 * g + 1) ∧ P (39 + 6 * g + 1) ≤ 3) ∧ (0 ≤ P (39 + 6 * g + 2) ∧ P (39 + 6 * g + 2) ≤ 1) ∧ (0 ≤ P (39 + 6 * g + 3) ∧ P (39 + 6 * g + 3) ≤ 2)) ∧
  (∀ i : Nat, (i : Int) < P 6 → -9 ≤ P (93 + i) ∧ P (93 + i) ≤ 9)
theorem q_tar {a t : Int} (h : 1 ≤ a ∧ a ≤ 9) (h1 : 0 ≤ t ∧ t ≤ 99) : 0 ≤ t * a ∧ t * a ≤ 891 := by
  constructor
  · exact Int.mul_nonneg h1.1 (by omega)
  · have := Int.mul_le_mul h1.2 h.2 (by omega) (by omega)
    omega
def q_over (P : Nat → Int) (s : Nat) (u : Int) : Int := if 999 ≤ P (15 + 4 * s + 3) + u then P (15 + 4 * s + 3) + u - 999 else 0
/-- the class's book: an entry behind the last, the oldest goes -/
def q_bsh (P : Nat → Int) : Nat → Int := q_pu (q_cp (q_cp P P 117 2 1 117 2 0 19) (q_cp P P 117 2 1 117 2 0 19) 118 2 1 118 2 0 19) 14 19
def q_ent1 (P : Nat → Int) (s h : Int) : Nat → Int := q_pu (q_pu (q_pu P (117 + 2 * (P 14).toNat) s) (118 + 2 * (P 14).toNat) h) 14 (P 14 + 1)
def q_ent (P : Nat → Int) (s h : Int) : Nat → Int := if P 14 < 20 then q_ent1 P s h else q_ent1 (q_bsh P) s h
