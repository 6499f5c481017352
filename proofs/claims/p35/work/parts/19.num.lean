/-! NUMBERS: a word of 32 bits as an integer, the memory as integers -/
def q_i (x : Int) : Int32 := Int32.ofInt x
def q_I (W : Nat → Nat → Int) : Nat → Nat → Int32 := fun r j => q_i (W r j)
def q_pu (P : Nat → Int) (j : Nat) (x : Int) : Nat → Int := fun q => if q = j then x else P q
def q_rg (W : Nat → Nat → Int) (a : Nat) (P : Nat → Int) : Nat → Nat → Int := fun r => if r = a then P else W r
def q_u (W : Nat → Nat → Int) (a j : Nat) (x : Int) : Nat → Nat → Int := q_rg W a (q_pu (W a) j x)
theorem q_Ia {W : Nat → Nat → Int} {r j : Nat} : q_I W r j = q_i (W r j) := rfl
theorem q_Iu {W : Nat → Nat → Int} {a j : Nat} {x : Int} : sm_u (q_I W) a j (q_i x) = q_I (q_u W a j x) := by
  funext r q
  unfold sm_u sm_rg sm_pu q_I q_u q_rg q_pu
  by_cases h : r = a
  · subst h; simp only [if_true]; by_cases h1 : q = j
    · simp only [h1, if_true]
    · simp only [h1, if_false]
  · simp only [h, if_false]
theorem q_Ist {W : Nat → Nat → Int} {o : Int64} {a j : Nat} {x : Int} : sm_st (q_I W, o) a j (q_i x) = (q_I (q_u W a j x), o) := by rw [sm_st_u, q_Iu]
theorem q_pe {P : Nat → Int} {j : Nat} {x : Int} : q_pu P j x j = x := if_pos rfl
theorem q_pn {P : Nat → Int} {i j : Nat} {x : Int} (h : i ≠ j) : q_pu P j x i = P i := if_neg h
theorem q_re {W : Nat → Nat → Int} {a : Nat} {P : Nat → Int} : q_rg W a P a = P := if_pos rfl
theorem q_rn {W : Nat → Nat → Int} {r a : Nat} {P : Nat → Int} (h : r ≠ a) : q_rg W a P r = W r := if_neg h
theorem q_ue {W : Nat → Nat → Int} {a j : Nat} {x : Int} : q_u W a j x a = q_pu (W a) j x := q_re
theorem q_un {W : Nat → Nat → Int} {r a j : Nat} {x : Int} (h : r ≠ a) : q_u W a j x r = W r := q_rn h
theorem q_uu {W : Nat → Nat → Int} {a j : Nat} {x : Int} : q_u W a j x = q_rg W a (q_pu (W a) j x) := rfl
theorem q_rr {W : Nat → Nat → Int} {a : Nat} {P Q : Nat → Int} : q_rg (q_rg W a P) a Q = q_rg W a Q := by
  funext r
  unfold q_rg
  by_cases h : r = a
  · rw [if_pos h, if_pos h]
  · rw [if_neg h, if_neg h, if_neg h]
theorem q_rs {W : Nat → Nat → Int} {a : Nat} : q_rg W a (W a) = W := by
  funext r
  unfold q_rg
  by_cases h : r = a
  · rw [if_pos h, h]
  · rw [if_neg h]
theorem q_rc {W : Nat → Nat → Int} {a b : Nat} {P Q : Nat → Int} (h : a ≠ b) : q_rg (q_rg W a P) b Q = q_rg (q_rg W b Q) a P := by
  funext r
  unfold q_rg
  by_cases h1 : r = a
  · subst h1; rw [if_neg h, if_pos rfl, if_pos rfl]
  · by_cases h2 : r = b
    · rw [if_pos h2, if_neg h1, if_pos h2]
    · rw [if_neg h2, if_neg h1, if_neg h1, if_neg h2]
theorem q_r3 {W : Nat → Nat → Int} {a b : Nat} {P Q R : Nat → Int} (h : a ≠ b) : q_rg (q_rg (q_rg W a P) b Q) a R = q_rg (q_rg W a R) b Q := by
  rw [q_rc h, q_rr, q_rc (fun e => h e.symm)]
theorem q_r4 {W : Nat → Nat → Int} {a b c : Nat} {P Q R S : Nat → Int} (h : a ≠ b) (h1 : a ≠ c) : q_rg (q_rg (q_rg (q_rg W a P) b Q) c S) a R = q_rg (q_rg (q_rg W a R) b Q) c S := by
  rw [q_rc (W := q_rg (q_rg W a P) b Q) (a := c) (b := a) (fun e => h1 e.symm), q_r3 h]
theorem q_pp {P : Nat → Int} {j : Nat} {x y : Int} : q_pu (q_pu P j x) j y = q_pu P j y := by
  funext r
  unfold q_pu
  by_cases h : r = j
  · rw [if_pos h, if_pos h]
  · rw [if_neg h, if_neg h, if_neg h]
theorem q_pc {P : Nat → Int} {i j : Nat} {x y : Int} (h : i ≠ j) : q_pu (q_pu P i x) j y = q_pu (q_pu P j y) i x := by
  funext r
  unfold q_pu
  by_cases h1 : r = i
  · subst h1; rw [if_neg h, if_pos rfl, if_pos rfl]
  · by_cases h2 : r = j
    · rw [if_pos h2, if_neg h1, if_pos h2]
    · rw [if_neg h2, if_neg h1, if_neg h1, if_neg h2]
theorem q_ps {P : Nat → Int} {j : Nat} : q_pu P j (P j) = P := by
  funext r
  unfold q_pu
  by_cases h : r = j
  · rw [if_pos h, h]
  · rw [if_neg h]
theorem q_to {x : Int} (h : -2147483648 ≤ x) (h1 : x < 2147483648) : (q_i x).toInt = x := by
  unfold q_i; rw [Int32.toInt_ofInt]; exact Int.bmod_eq_of_le (by show -((4294967296 : Nat) : Int) / 2 ≤ x; omega) (by show x < (((4294967296 : Nat) : Int) + 1) / 2; omega)
theorem q_of {x : Int32} : q_i x.toInt = x := by unfold q_i; exact Int32.ofInt_toInt x
theorem q_add {x y : Int} : q_i x + q_i y = q_i (x + y) := by unfold q_i; exact (Int32.ofInt_add x y).symm
theorem q_sub {x y : Int} : q_i x - q_i y = q_i (x - y) := by unfold q_i; exact (Int32.ofInt_sub x y).symm
theorem q_mul {x y : Int} : q_i x * q_i y = q_i (x * y) := by unfold q_i; exact (Int32.ofInt_mul x y).symm
theorem q_neg {x : Int} : -q_i x = q_i (-x) := by unfold q_i; exact (Int32.ofInt_neg x).symm
theorem q_lt {x y : Int} (h : -2147483648 ≤ x) (h1 : x < 2147483648) (h2 : -2147483648 ≤ y) (h3 : y < 2147483648) : (q_i x < q_i y) = (x < y) := by
  rw [Int32.lt_iff_toInt_lt, q_to h h1, q_to h2 h3]
theorem q_le {x y : Int} (h : -2147483648 ≤ x) (h1 : x < 2147483648) (h2 : -2147483648 ≤ y) (h3 : y < 2147483648) : (q_i x ≤ q_i y) = (x ≤ y) := by
  rw [Int32.le_iff_toInt_le, q_to h h1, q_to h2 h3]
theorem q_eq {x y : Int} (h : -2147483648 ≤ x) (h1 : x < 2147483648) (h2 : -2147483648 ≤ y) (h3 : y < 2147483648) : (q_i x = q_i y) = (x = y) := by
  refine propext ⟨fun q => ?_, fun q => by rw [q]⟩
  rw [← q_to h h1, ← q_to h2 h3, q]
theorem q_tn {x : Int} (h : 0 ≤ x) (h1 : x < 2147483648) : (q_i x).toNatClampNeg = x.toNat := by
  show (q_i x).toInt.toNat = _
  rw [q_to (by omega) h1]
theorem q_vp {x : Int} {n : Nat} (h : 0 ≤ x) (h1 : x < n) (h2 : n ≤ 4096) : vp_in (q_i x) n := by
  unfold vp_in
  rw [q_tn h (by omega)]
  have e0 : (0 : Int32) = q_i 0 := rfl
  rw [e0, q_lt (by omega) (by omega) (by omega) (by omega)]
  omega
theorem q_vpn {x : Int} {n m : Nat} (hm : n = m) (h : 0 ≤ x) (h1 : x < m) (h2 : m ≤ 4096) : vp_in (q_i x) n := by subst hm; exact q_vp h h1 h2
theorem q_div {x y : Int} (h : 0 ≤ x) (h1 : x < 2147483648) (h2 : 0 < y) (h3 : y < 2147483648) : q_i x / q_i y = q_i (x / y) := by
  have h8 : x / y ≤ x := Int.ediv_le_self y h
  have h7 : 0 ≤ x / y := Int.ediv_nonneg h (by omega)
  apply Int32.toInt_inj.mp
  rw [Int32.toInt_div, q_to (by omega) h1, q_to (by omega) h3, q_to (by omega) (by omega), Int.tdiv_eq_ediv_of_nonneg h]
  exact Int.bmod_eq_of_le (by show -((4294967296 : Nat) : Int) / 2 ≤ _; omega) (by show _ < (((4294967296 : Nat) : Int) + 1) / 2; omega)
theorem q_mod {x y : Int} (h : 0 ≤ x) (h1 : x < 2147483648) (h2 : 0 < y) (h3 : y < 2147483648) : q_i x % q_i y = q_i (x % y) := by
  have h8 : x % y < y := Int.emod_lt_of_pos x h2
  have h7 : 0 ≤ x % y := Int.emod_nonneg x (by omega)
  apply Int32.toInt_inj.mp
  rw [Int32.toInt_mod, q_to (by omega) h1, q_to (by omega) h3, q_to (by omega) (by omega), Int.tmod_eq_emod_of_nonneg h]
theorem q_nz {x : Int} (h : x ≠ 0) (h1 : -2147483648 ≤ x) (h2 : x < 2147483648) : ¬ q_i x = 0 := by
  have e0 : (0 : Int32) = q_i 0 := rfl
  rw [e0, q_eq h1 h2 (by omega) (by omega)]; exact h
theorem q_if {c : Prop} [Decidable c] {x y : Int} : (if c then q_i x else q_i y) = q_i (if c then x else y) := by split <;> rfl
/-- a truth as a number -/
def q_b (c : Prop) [Decidable c] : Int := if c then 1 else 0
theorem q_b0 {c : Prop} [Decidable c] : (q_i (q_b c) = q_i 0) = ¬ c := by
  unfold q_b
  by_cases h : c
  · rw [if_pos h]; exact propext ⟨fun q => absurd q (by decide), fun q => absurd h q⟩
  · rw [if_neg h]; exact propext ⟨fun _ => h, fun _ => rfl⟩
theorem q_zo {x : Int} (h : 0 ≤ x ∧ x ≤ 1) : q_i x = 0 ∨ q_i x = 1 := by
  have e : x = 0 ∨ x = 1 := by omega
  rcases e with rfl | rfl
  · exact Or.inl rfl
  · exact Or.inr rfl
theorem q_bt {c : Prop} [Decidable c] (h : c) : q_b c = 1 := if_pos h
theorem q_bf {c : Prop} [Decidable c] (h : ¬ c) : q_b c = 0 := if_neg h
theorem q_bz {c : Prop} [Decidable c] : q_i (q_b c) = 0 ∨ q_i (q_b c) = 1 := by unfold q_b; split; exact Or.inr rfl; exact Or.inl rfl
theorem q_bw {c : Prop} [Decidable c] : 0 ≤ q_b c ∧ q_b c ≤ 1 := by unfold q_b; split <;> omega
theorem sm_fn_e {T : sm_T} {nL b : Nat} {M : sm_M} {avs : List sm_V} {ls : sm_L} (h : (sm_av avs).length ≤ nL) (hs : sm_ent nL avs = ls) : sm_fn T nL b M avs = sm_R T (b, 0, M, ls, []) := by subst hs; unfold sm_fn; exact sm_gt h
theorem q_mo {x y : Int} : x - x / y * y = x % y := by rw [Int.emod_def, Int.mul_comm]
theorem q_ta {a b : Int} (h : 0 ≤ a) (h1 : 0 ≤ b) : (a + b).toNat = a.toNat + b.toNat := Int.toNat_add h h1
theorem q_tm {a b : Int} (h : 0 ≤ a) (h1 : 0 ≤ b) : (a * b).toNat = a.toNat * b.toNat := Int.toNat_mul h h1
theorem q_tc {n : Nat} : ((n : Nat) : Int).toNat = n := Int.toNat_natCast n
theorem q_na {a b : Nat} : (((a + b) : Nat) : Int) = (a : Int) + (b : Int) := Int.natCast_add a b
theorem q_n1 : ((1 : Nat) : Int) = 1 := rfl
theorem q_n0 : ((0 : Nat) : Int) = 0 := rfl
theorem q_ip {α : Type} {c : Prop} [Decidable c] {x y : α} (h : c) : (if c then x else y) = x := if_pos h
theorem q_in {α : Type} {c : Prop} [Decidable c] {x y : α} (h : ¬ c) : (if c then x else y) = y := if_neg h
theorem q_cg {a b c : Int} {n m : Nat} (ha : 0 ≤ a) (hb : 0 ≤ b) (hc : 0 ≤ c) (h : a + c ≤ n) (h1 : b + c ≤ m) (h2 : n ≤ 4096) (h3 : m ≤ 4096) : ¬ q_i a < 0 ∧ ¬ q_i b < 0 ∧ ¬ q_i c < 0 ∧ (q_i a).toNatClampNeg + (q_i c).toNatClampNeg ≤ n ∧ (q_i b).toNatClampNeg + (q_i c).toNatClampNeg ≤ m := by
  have e0 : (0 : Int32) = q_i 0 := rfl
  rw [e0, q_lt (by omega) (by omega) (by omega) (by omega), q_lt (by omega) (by omega) (by omega) (by omega), q_lt (by omega) (by omega) (by omega) (by omega), q_tn ha (by omega), q_tn hb (by omega), q_tn hc (by omega)]
  omega
def q_cp (P Q : Nat → Int) (o0 s0 sp o1 s1 dp n : Nat) : Nat → Int := fun j => if o1 + s1 * dp ≤ j ∧ j < o1 + s1 * (dp + n) ∧ (j - o1) % s1 = 0 then P (o0 + s0 * (sp + ((j - o1) / s1 - dp))) else Q j
theorem q_cpe {W : Nat → Nat → Int} {o : Int64} {r0 o0 s0 sp r1 o1 s1 dp n : Nat} : sm_cp (q_I W, o) r0 o0 s0 sp r1 o1 s1 dp n = (q_I (q_rg W r1 (q_cp (W r0) (W r1) o0 s0 sp o1 s1 dp n)), o) := by
  unfold sm_cp
  congr 1
  funext r j
  unfold q_I q_rg q_cp
  by_cases h : r = r1
  · subst h
    simp only [true_and, if_true]
    split <;> rfl
  · simp only [h, false_and, if_false]
/-- steps repeated -/
def q_it {α : Type} (f : Nat → α → α) : Nat → α → α
  | 0, x => x
  | n + 1, x => f n (q_it f n x)
theorem q_it0 {α : Type} {f : Nat → α → α} {x : α} : q_it f 0 x = x := rfl
theorem q_its {α : Type} {f : Nat → α → α} {n : Nat} {x : α} : q_it f (n + 1) x = f n (q_it f n x) := rfl
theorem q_it_inv {α : Type} {f : Nat → α → α} {Z : Nat → α → Prop} {N : Nat} (hs : ∀ n x, n < N → Z n x → Z (n + 1) (f n x)) {x : α} (h0 : Z 0 x) : ∀ n, n ≤ N → Z n (q_it f n x)
  | 0, _ => h0
  | n + 1, h => hs n _ (by omega) (q_it_inv hs h0 n (by omega))
theorem q_it_eq {α : Type} {f g : Nat → α → α} {N : Nat} {Z : α → Prop} (hZ : ∀ n x, n < N → Z x → Z (f n x)) (hs : ∀ n x, n < N → Z x → f n x = g n x) {x : α} (h0 : Z x) : ∀ n, n ≤ N → q_it f n x = q_it g n x
  | 0, _ => rfl
  | n + 1, h => by
    have e := q_it_eq hZ hs h0 n (by omega)
    show f n (q_it f n x) = g n (q_it g n x)
    rw [← e]
    exact hs n _ (by omega) (q_it_inv (Z := fun _ => Z) hZ h0 n (by omega))
/-- a loop, from its head: the body's step, the way out -/
theorem q_loop {α : Type} {β : Type} {S : Nat → α → β} {f : Nat → α → α} {N : Nat} {Z : Nat → α → Prop} {x : α} {R : β} (h0 : Z 0 x) (hZ : ∀ n y, n < N → Z n y → Z (n + 1) (f n y)) (hs : ∀ n y, n < N → Z n y → S n y = S (n + 1) (f n y)) (hx : ∀ y, y = q_it f N x → Z N y → S N y = R) : S 0 x = R := by
  have h : ∀ d n, n + d = N → S n (q_it f n x) = R := by
    intro d
    induction d with
    | zero => intro n h; have e : n = N := by omega
              subst e; exact hx _ rfl (q_it_inv hZ h0 n (Nat.le_refl n))
    | succ d ih => intro n h; rw [hs n _ (by omega) (q_it_inv hZ h0 n (by omega))]; exact ih (n + 1) (by omega)
  exact h N 0 (by omega)
/-- .. with what the body leaves behind -/
theorem q_loopJ {α J : Type} {β : Type} {S : Nat → α → J → β} {f : Nat → α → α} {N : Nat} {Z : Nat → α → Prop} {K : J → Prop} {x : α} {j : J} {R : β} (h0 : Z 0 x) (hj : K j) (hZ : ∀ n y, n < N → Z n y → Z (n + 1) (f n y)) (hs : ∀ n y i, n < N → Z n y → K i → ∃ i1, K i1 ∧ S n y i = S (n + 1) (f n y) i1) (hx : ∀ y i, y = q_it f N x → Z N y → K i → S N y i = R) : S 0 x j = R := by
  have h : ∀ d n i, n + d = N → K i → S n (q_it f n x) i = R := by
    intro d
    induction d with
    | zero => intro n i h hi; have e : n = N := by omega
              subst e; exact hx _ _ rfl (q_it_inv hZ h0 n (Nat.le_refl n)) hi
    | succ d ih => intro n i h hi
                   obtain ⟨i1, h1, h2⟩ := hs n _ i (by omega) (q_it_inv hZ h0 n (by omega)) hi
                   rw [h2]; exact ih (n + 1) i1 (by omega) h1
  exact h N 0 j (by omega) hj
theorem q_loop0 {β : Type} {S : Nat → β} {N : Nat} {R : β} (hs : ∀ n, n < N → S n = S (n + 1)) (hx : S N = R) : S 0 = R := by
  have h : ∀ d n, n + d = N → S n = R := by
    intro d
    induction d with
    | zero => intro n h; have e : n = N := by omega
              subst e; exact hx
    | succ d ih => intro n h; rw [hs n (by omega)]; exact ih (n + 1) (by omega)
  exact h N 0 (by omega)
theorem q_l0 : (0 : Int32) = q_i 0 := rfl
theorem q_l1 : (1 : Int32) = q_i 1 := rfl
theorem q_l2 : (2 : Int32) = q_i 2 := rfl
theorem q_l3 : (3 : Int32) = q_i 3 := rfl
theorem q_l4 : (4 : Int32) = q_i 4 := rfl
theorem q_l5 : (5 : Int32) = q_i 5 := rfl
theorem q_l6 : (6 : Int32) = q_i 6 := rfl
theorem q_l7 : (7 : Int32) = q_i 7 := rfl
theorem q_l8 : (8 : Int32) = q_i 8 := rfl
theorem q_l9 : (9 : Int32) = q_i 9 := rfl
theorem q_l10 : (10 : Int32) = q_i 10 := rfl
theorem q_l11 : (11 : Int32) = q_i 11 := rfl
theorem q_l12 : (12 : Int32) = q_i 12 := rfl
theorem q_l13 : (13 : Int32) = q_i 13 := rfl
theorem q_l14 : (14 : Int32) = q_i 14 := rfl
theorem q_l15 : (15 : Int32) = q_i 15 := rfl
theorem q_l18 : (18 : Int32) = q_i 18 := rfl
theorem q_l19 : (19 : Int32) = q_i 19 := rfl
theorem q_l20 : (20 : Int32) = q_i 20 := rfl
theorem q_l22 : (22 : Int32) = q_i 22 := rfl
theorem q_l24 : (24 : Int32) = q_i 24 := rfl
theorem q_l32 : (32 : Int32) = q_i 32 := rfl
theorem q_l36 : (36 : Int32) = q_i 36 := rfl
theorem q_l37 : (37 : Int32) = q_i 37 := rfl
theorem q_l39 : (39 : Int32) = q_i 39 := rfl
theorem q_l43 : (43 : Int32) = q_i 43 := rfl
theorem q_l45 : (45 : Int32) = q_i 45 := rfl
theorem q_l48 : (48 : Int32) = q_i 48 := rfl
theorem q_l49 : (49 : Int32) = q_i 49 := rfl
theorem q_l50 : (50 : Int32) = q_i 50 := rfl
theorem q_l52 : (52 : Int32) = q_i 52 := rfl
theorem q_l53 : (53 : Int32) = q_i 53 := rfl
theorem q_l55 : (55 : Int32) = q_i 55 := rfl
theorem q_l57 : (57 : Int32) = q_i 57 := rfl
theorem q_l80 : (80 : Int32) = q_i 80 := rfl
theorem q_l93 : (93 : Int32) = q_i 93 := rfl
theorem q_l99 : (99 : Int32) = q_i 99 := rfl
theorem q_l100 : (100 : Int32) = q_i 100 := rfl
theorem q_l103 : (103 : Int32) = q_i 103 := rfl
theorem q_l115 : (115 : Int32) = q_i 115 := rfl
theorem q_l117 : (117 : Int32) = q_i 117 := rfl
theorem q_l119 : (119 : Int32) = q_i 119 := rfl
theorem q_l120 : (120 : Int32) = q_i 120 := rfl
theorem q_l154 : (154 : Int32) = q_i 154 := rfl
theorem q_l155 : (155 : Int32) = q_i 155 := rfl
theorem q_l157 : (157 : Int32) = q_i 157 := rfl
theorem q_l255 : (255 : Int32) = q_i 255 := rfl
theorem q_l256 : (256 : Int32) = q_i 256 := rfl
theorem q_l300 : (300 : Int32) = q_i 300 := rfl
theorem q_l314 : (314 : Int32) = q_i 314 := rfl
theorem q_l500 : (500 : Int32) = q_i 500 := rfl
theorem q_l990 : (990 : Int32) = q_i 990 := rfl
theorem q_l999 : (999 : Int32) = q_i 999 := rfl
theorem q_l1000 : (1000 : Int32) = q_i 1000 := rfl
theorem q_l1041 : (1041 : Int32) = q_i 1041 := rfl
theorem q_l2041 : (2041 : Int32) = q_i 2041 := rfl
theorem q_l9999 : (9999 : Int32) = q_i 9999 := rfl
theorem q_l10000 : (10000 : Int32) = q_i 10000 := rfl
theorem q_l31 : (31 : Int32) = q_i 31 := rfl
theorem q_l33 : (33 : Int32) = q_i 33 := rfl
theorem q_m1 : ((-1) : Int32) = q_i (-1) := rfl
theorem q_m2 : ((-2) : Int32) = q_i (-2) := rfl
theorem q_m3 : ((-3) : Int32) = q_i (-3) := rfl
theorem q_m4 : ((-4) : Int32) = q_i (-4) := rfl
theorem q_m5 : ((-5) : Int32) = q_i (-5) := rfl
theorem q_m7 : ((-7) : Int32) = q_i (-7) := rfl
theorem q_m8 : ((-8) : Int32) = q_i (-8) := rfl
theorem q_m9 : ((-9) : Int32) = q_i (-9) := rfl
theorem q_m9999 : ((-9999) : Int32) = q_i (-9999) := rfl
theorem q_m99003 : ((-99003) : Int32) = q_i (-99003) := rfl
theorem q_m99002 : ((-99002) : Int32) = q_i (-99002) := rfl
theorem q_m99001 : ((-99001) : Int32) = q_i (-99001) := rfl
theorem q_m10 : ((-10) : Int32) = q_i (-10) := rfl
theorem q_l16 : (16 : Int32) = q_i 16 := rfl
theorem q_l25 : (25 : Int32) = q_i 25 := rfl
theorem q_l30 : (30 : Int32) = q_i 30 := rfl
theorem q_l38 : (38 : Int32) = q_i 38 := rfl
theorem q_l40 : (40 : Int32) = q_i 40 := rfl
theorem q_l41 : (41 : Int32) = q_i 41 := rfl
theorem q_l42 : (42 : Int32) = q_i 42 := rfl
theorem q_l51 : (51 : Int32) = q_i 51 := rfl
theorem q_l60 : (60 : Int32) = q_i 60 := rfl
theorem q_l64 : (64 : Int32) = q_i 64 := rfl
theorem q_l98 : (98 : Int32) = q_i 98 := rfl
theorem q_l128 : (128 : Int32) = q_i 128 := rfl
theorem q_l1024 : (1024 : Int32) = q_i 1024 := rfl
theorem q_l2000 : (2000 : Int32) = q_i 2000 := rfl
theorem q_l2048 : (2048 : Int32) = q_i 2048 := rfl
theorem q_l9000 : (9000 : Int32) = q_i 9000 := rfl
theorem q_l9996 : (9996 : Int32) = q_i 9996 := rfl
theorem q_l10111 : (10111 : Int32) = q_i 10111 := rfl
theorem q_l16384 : (16384 : Int32) = q_i 16384 := rfl
theorem q_l100000 : (100000 : Int32) = q_i 100000 := rfl
theorem q_l15516947 : (15516947 : Int32) = q_i 15516947 := rfl
theorem q_l2147483647 : (2147483647 : Int32) = q_i 2147483647 := rfl
theorem q_t0 : Int.toNat 0 = 0 := rfl
theorem q_t1 : Int.toNat 1 = 1 := rfl
theorem q_t2 : Int.toNat 2 = 2 := rfl
theorem q_t3 : Int.toNat 3 = 3 := rfl
theorem q_t4 : Int.toNat 4 = 4 := rfl
theorem q_t5 : Int.toNat 5 = 5 := rfl
theorem q_t6 : Int.toNat 6 = 6 := rfl
theorem q_t7 : Int.toNat 7 = 7 := rfl
theorem q_t8 : Int.toNat 8 = 8 := rfl
theorem q_t9 : Int.toNat 9 = 9 := rfl
theorem q_t10 : Int.toNat 10 = 10 := rfl
theorem q_t11 : Int.toNat 11 = 11 := rfl
theorem q_t12 : Int.toNat 12 = 12 := rfl
theorem q_t13 : Int.toNat 13 = 13 := rfl
theorem q_t14 : Int.toNat 14 = 14 := rfl
theorem q_t15 : Int.toNat 15 = 15 := rfl
theorem q_t18 : Int.toNat 18 = 18 := rfl
theorem q_t19 : Int.toNat 19 = 19 := rfl
theorem q_t20 : Int.toNat 20 = 20 := rfl
theorem q_t22 : Int.toNat 22 = 22 := rfl
theorem q_t24 : Int.toNat 24 = 24 := rfl
theorem q_t32 : Int.toNat 32 = 32 := rfl
theorem q_t36 : Int.toNat 36 = 36 := rfl
theorem q_t37 : Int.toNat 37 = 37 := rfl
theorem q_t39 : Int.toNat 39 = 39 := rfl
theorem q_t43 : Int.toNat 43 = 43 := rfl
theorem q_t45 : Int.toNat 45 = 45 := rfl
theorem q_t48 : Int.toNat 48 = 48 := rfl
theorem q_t49 : Int.toNat 49 = 49 := rfl
theorem q_t50 : Int.toNat 50 = 50 := rfl
theorem q_t52 : Int.toNat 52 = 52 := rfl
theorem q_t53 : Int.toNat 53 = 53 := rfl
theorem q_t55 : Int.toNat 55 = 55 := rfl
theorem q_t57 : Int.toNat 57 = 57 := rfl
theorem q_t80 : Int.toNat 80 = 80 := rfl
theorem q_t93 : Int.toNat 93 = 93 := rfl
theorem q_t99 : Int.toNat 99 = 99 := rfl
theorem q_t100 : Int.toNat 100 = 100 := rfl
theorem q_t103 : Int.toNat 103 = 103 := rfl
theorem q_t115 : Int.toNat 115 = 115 := rfl
theorem q_t117 : Int.toNat 117 = 117 := rfl
theorem q_t119 : Int.toNat 119 = 119 := rfl
theorem q_t120 : Int.toNat 120 = 120 := rfl
theorem q_t154 : Int.toNat 154 = 154 := rfl
theorem q_t155 : Int.toNat 155 = 155 := rfl
theorem q_t157 : Int.toNat 157 = 157 := rfl
theorem q_t255 : Int.toNat 255 = 255 := rfl
theorem q_t256 : Int.toNat 256 = 256 := rfl
theorem q_t300 : Int.toNat 300 = 300 := rfl
theorem q_t314 : Int.toNat 314 = 314 := rfl
theorem q_t500 : Int.toNat 500 = 500 := rfl
theorem q_t990 : Int.toNat 990 = 990 := rfl
theorem q_t999 : Int.toNat 999 = 999 := rfl
theorem q_t1000 : Int.toNat 1000 = 1000 := rfl
theorem q_t1041 : Int.toNat 1041 = 1041 := rfl
theorem q_t2041 : Int.toNat 2041 = 2041 := rfl
theorem q_t9999 : Int.toNat 9999 = 9999 := rfl
theorem q_t10000 : Int.toNat 10000 = 10000 := rfl
theorem q_t31 : Int.toNat 31 = 31 := rfl
theorem q_t33 : Int.toNat 33 = 33 := rfl
theorem q_t16 : Int.toNat 16 = 16 := rfl
theorem q_t25 : Int.toNat 25 = 25 := rfl
theorem q_t30 : Int.toNat 30 = 30 := rfl
theorem q_t38 : Int.toNat 38 = 38 := rfl
theorem q_t40 : Int.toNat 40 = 40 := rfl
theorem q_t41 : Int.toNat 41 = 41 := rfl
theorem q_t42 : Int.toNat 42 = 42 := rfl
theorem q_t51 : Int.toNat 51 = 51 := rfl
theorem q_t60 : Int.toNat 60 = 60 := rfl
theorem q_t64 : Int.toNat 64 = 64 := rfl
theorem q_t98 : Int.toNat 98 = 98 := rfl
theorem q_t128 : Int.toNat 128 = 128 := rfl
theorem q_t1024 : Int.toNat 1024 = 1024 := rfl
theorem q_t2000 : Int.toNat 2000 = 2000 := rfl
theorem q_t2048 : Int.toNat 2048 = 2048 := rfl
theorem q_t9000 : Int.toNat 9000 = 9000 := rfl
theorem q_t9996 : Int.toNat 9996 = 9996 := rfl
theorem q_t10111 : Int.toNat 10111 = 10111 := rfl
theorem q_t16384 : Int.toNat 16384 = 16384 := rfl
theorem q_t100000 : Int.toNat 100000 = 100000 := rfl
theorem q_t15516947 : Int.toNat 15516947 = 15516947 := rfl
theorem q_t2147483647 : Int.toNat 2147483647 = 2147483647 := rfl
