/-! WHAT AN OBJECT STANDS FOR: a page, the pages remembered, two slots, the text -/
abbrev x_sp : Type := (Nat → Int) × List (Nat → Int) × Option (Nat → Int) × Option (Nat → Int) × List Int
def x_slot (σ : x_sp) (i : Nat) : Option (Nat → Int) := if i = 0 then σ.2.2.1 else σ.2.2.2.1
def x_R (W : Nat → Nat → Int) (σ : x_sp) : Prop := e_q (W 0) σ.1 ∧ ((0 ≤ W 24 0 ∧ W 24 0 ≤ 13) ∧ W 24 1 = σ.2.1.length ∧ ∀ (i : Nat) (P : Nat → Int), σ.2.1[i]? = some P → e_q (W (3 + ((W 24 0).toNat + 13 - i) % 14)) P) ∧ (∀ i : Nat, i < 2 → W 25 i = (if (x_slot σ i).isSome then 1 else 0) ∧ ∀ P, x_slot σ i = some P → e_q (W (17 + i)) P) ∧ (W 19 0 = σ.2.2.2.2.length ∧ ∀ (i : Nat) (x : Int), σ.2.2.2.2[i]? = some x → W 20 i = x)
/-- the account of all water, and how great the numbers can be -/
def y_b (H : Int) (P : Nat → Int) : Prop := P 9 = P 7 + P 10 + P 11 + q_snow P + P 13 ∧ (0 ≤ P 10 ∧ 0 ≤ P 11 ∧ 0 ≤ P 13 ∧ P 11 ≤ P 12 ∧ P 9 ≤ 20000 * (H + 1) ∧ P 12 ≤ 20000 * (H + 1)) ∧ ∀ g : Nat, (g : Int) < P 5 → 0 ≤ P (39 + 6 * g + 4) ∧ P (39 + 6 * g + 4) ≤ 20 * (H + 1)
def x_pg (H : Int) (P : Nat → Int) : Prop := q_ok H 8 P ∧ q_bk P ∧ y_b H P
def x_ok (H : Int) (σ : x_sp) : Prop := x_pg H σ.1 ∧ (∀ P ∈ σ.2.1, x_pg H P) ∧ (∀ i P, x_slot σ i = some P → x_pg H P) ∧ σ.2.1.length ≤ 14 ∧ σ.2.2.2.2.length ≤ 120 ∧ ∀ c ∈ σ.2.2.2.2, 0 ≤ c ∧ c ≤ 255
/-- a call that gives v and leaves σ1 -/
def x_T (F : sm_F) (as : List sm_V) (σ : x_sp) (v : Int) (σ1 : x_sp) : Prop := ∀ (W : Nat → Nat → Int) (o : Int64), x_R W σ → ∃ V : Nat → Nat → Int, F (q_I W, o) as = some ((q_I V, o), .ok (some (.inl (q_i (v))))) ∧ x_R V σ1 ∧ ∀ r, 40 ≤ r → V r = W r
section Z41
variable {P Q R A : Nat → Int} {W V C : Nat → Nat → Int} {σ : x_sp} {H H1 G : Int}
theorem y_b_mono (h : y_b H P) (hH : H ≤ H1) : y_b H1 P := by
  obtain ⟨h1, ⟨h2, h3, h4, h5, h6, h7⟩, h8⟩ := h
  exact ⟨h1, ⟨h2, h3, h4, h5, by omega, by omega⟩, fun g hg => ⟨(h8 g hg).1, by have := (h8 g hg).2; omega⟩⟩
theorem x_pg_mono (h : x_pg H P) (hH : H ≤ H1) : x_pg H1 P := ⟨ok_mono h.1 hH h.1.1.2.2.2.2.2.1.2, h.2.1, y_b_mono h.2.2 hH⟩
theorem x_ok_mono (h : x_ok H σ) (hH : H ≤ H1) : x_ok H1 σ := ⟨x_pg_mono h.1 hH, fun P hP => x_pg_mono (h.2.1 P hP) hH, fun i P hP => x_pg_mono (h.2.2.1 i P hP) hH, h.2.2.2⟩
theorem x_rok (h : x_R W σ) (hk : x_ok H σ) : q_ok H 8 (W 0) := e_ok (e_sy h.1) hk.1.1 (by omega)
theorem x_rbk (h : x_R W σ) (hk : x_ok H σ) : q_bk (W 0) := e_bk (e_sy h.1) hk.1.2.1
theorem x_same (h : x_R W σ) (hs : ∀ r, (r = 0 ∨ (3 ≤ r ∧ r ≤ 18) ∨ r = 20 ∨ r = 24 ∨ r = 25) → V r = W r) (h19 : V 19 0 = W 19 0) : x_R V σ := by
  obtain ⟨h1, ⟨h2, h3, h4⟩, h5, h6, h7⟩ := h
  refine ⟨by rw [hs 0 (by omega)]; exact h1, ?_, fun i hi => ?_, by rw [h19]; exact h6, fun i x hx => by rw [hs 20 (by omega)]; exact h7 i x hx⟩
  · rw [hs 24 (by omega)]
    refine ⟨h2, h3, fun i P hP => ?_⟩
    rw [hs _ (by have := Nat.mod_lt ((W 24 0).toNat + 13 - i) (show 14 > 0 by omega); omega)]
    exact h4 i P hP
  · rw [hs 25 (by omega), hs _ (by omega)]
    exact h5 i hi
theorem copy_lv (h : q_ok H G Q) (hG : G ≤ 9) {j : Nat} (hj : q_lv Q j ∨ (117 ≤ j ∧ j < 157)) : q_copy P Q j = Q j := by
  have a4 := h.1.2.2.2.2.1
  have a5 := h.1.2.2.2.2.2.1
  have a6 := h.1.2.2.2.2.2.2.1
  unfold q_copy
  unfold q_lv at hj
  rw [if_neg (by omega), if_neg (by omega), if_neg (by omega)]
theorem map_range_c2 {f g : Nat → Int × Int} {n : Nat} (h : ∀ i, i < n → f i = g i) : (List.range n).map f = (List.range n).map g := List.map_congr_left fun i hi => h i (List.mem_range.mp hi)
theorem copy_bl (h : q_ok H G Q) (hG : G ≤ 9) : q_bl (q_copy P Q) = q_bl Q := by
  have a14 := h.1.2.2.2.2.2.2.2.2.2
  unfold q_bl
  rw [copy_lv h hG (j := 14) (Or.inl (Or.inl (by omega)))]
  apply map_range_c2
  intro i hi
  rw [copy_lv h hG (Or.inr (by omega)), copy_lv h hG (Or.inr (by omega))]
/-- a copy is as good as what it was made of -/
theorem e_copy (h : q_ok H G Q) (hG : G ≤ 9) (he : e_q Q A) : e_q (q_copy P Q) A := by
  refine ⟨fun j hj => ?_, by rw [copy_bl h hG]; exact he.2⟩
  have hj1 : q_lv Q j := by
    unfold q_lv at hj ⊢
    rw [copy_lv h hG (j := 4) (Or.inl (Or.inl (by omega))), copy_lv h hG (j := 5) (Or.inl (Or.inl (by omega))), copy_lv h hG (j := 6) (Or.inl (Or.inl (by omega)))] at hj
    exact hj
  rw [copy_lv h hG (Or.inl hj1)]
  exact he.1 j hj1
/-- the class's side of an action -/
theorem z_rem (h : x_R W σ) (hk : x_ok H σ) : ∃ C : Nat → Nat → Int, (∀ o, F_X2_remember (q_I W, o) [.inr (.inr (2, 0, 0)), .inr (.inr (5, 0, 0))] = some ((q_I C, o), .ok none)) ∧ (∀ r, r ≠ 24 → r ≠ 3 + (W 24 0).toNat → C r = W r) ∧ C (3 + (W 24 0).toNat) = q_copy (W (3 + (W 24 0).toNat)) (W 0) ∧ C 24 0 = (if W 24 0 + 1 < 14 then W 24 0 + 1 else 0) ∧ C 24 1 = (if 14 < W 24 1 + 1 then 14 else W 24 1 + 1) := by
  have ok := x_rok h hk
  obtain ⟨-, ⟨n1, n2, -⟩, -⟩ := h
  have n3 := hk.2.2.2.1
  refine ⟨_, fun o => z_X2_remember (k := 0) (by omega) n1 (by omega) ok.1.2.2.2.2.1 (by have := ok.1.2.2.2.2.2.1; omega) (fun g hg => (ok.2.2.1 g hg).2.2.1), fun r h24 h3 => ?_, ?_, ?_, ?_⟩
  · rw [q_rn h24, q_rn h3]
  · rw [q_rn (by omega), q_re]
  · rw [q_re, q_pn (by omega), q_pe]
  · rw [q_re, q_pe]
/-- what an action leaves -/
def x_a (σ : x_sp) (P : Nat → Int) : x_sp := (P, (σ.1 :: σ.2.1).take 14, σ.2.2)
theorem x_act {CC : Nat → Nat → Int} (h : x_R W σ) (hk : x_ok H σ) (c2 : ∀ r, r ≠ 24 → r ≠ 3 + (W 24 0).toNat → C r = W r) (c3 : C (3 + (W 24 0).toNat) = q_copy (W (3 + (W 24 0).toNat)) (W 0)) (c4 : C 24 0 = (if W 24 0 + 1 < 14 then W 24 0 + 1 else 0)) (c5 : C 24 1 = (if 14 < W 24 1 + 1 then 14 else W 24 1 + 1)) (hd : ∀ r, r ≠ 0 → r ≠ 1 → r ≠ 2 → r ≠ 21 → r ≠ 22 → r ≠ 23 → CC r = C r) (hp : e_q (CC 0) P) : x_R CC (x_a σ P) := by
  have ok := x_rok h hk
  have n3 := hk.2.2.2.1
  obtain ⟨h1, ⟨n1, n2, n4⟩, h5, h6, h7⟩ := h
  obtain ⟨n, hn⟩ : ∃ n : Nat, W 24 0 = n := ⟨(W 24 0).toNat, by omega⟩
  have en : (W 24 0).toNat = n := by omega
  rw [en] at c2 c3 n4
  have e24 : CC 24 = C 24 := hd 24 (by omega) (by omega) (by omega) (by omega) (by omega) (by omega)
  have vn : C 24 0 = (((n + 1) % 14 : Nat) : Int) := by rw [c4, hn]; split <;> omega
  have vnt : (C 24 0).toNat = (n + 1) % 14 := by omega
  have hl : ((σ.1 :: σ.2.1).take 14).length = if 14 < σ.2.1.length + 1 then 14 else σ.2.1.length + 1 := by
    rw [List.length_take, List.length_cons]
    split <;> omega
  have hh : ∀ r, 3 ≤ r → r ≤ 16 → CC r = C r := fun r r1 r2 => hd r (by omega) (by omega) (by omega) (by omega) (by omega) (by omega)
  refine ⟨hp, ⟨by rw [e24]; omega, ?_, fun i P1 hP => ?_⟩, fun i hi => ?_, ?_, fun i x hx => ?_⟩
  · rw [e24, c5, n2]
    show _ = ((((σ.1 :: σ.2.1).take 14).length : Nat) : Int)
    rw [hl]
    split <;> split <;> omega
  · have hlt : i < ((σ.1 :: σ.2.1).take 14).length := (List.getElem?_eq_some_iff.mp hP).1
    have hi14 : i < 14 := by rw [hl] at hlt; split at hlt <;> omega
    have hP2 : (σ.1 :: σ.2.1)[i]? = some P1 := by
      have : ((σ.1 :: σ.2.1).take 14)[i]? = some P1 := hP
      rw [List.getElem?_take] at this
      rw [if_pos hi14] at this
      exact this
    rw [e24, vnt]
    cases i with
    | zero =>
      have er : ((n + 1) % 14 + 13 - 0) % 14 = n := by omega
      rw [er, hh _ (by omega) (by omega), c3]
      cases hP2
      exact e_copy ok (by omega) h1
    | succ i =>
      have er : ((n + 1) % 14 + 13 - (i + 1)) % 14 = (n + 13 - i) % 14 := by omega
      rw [er, hh _ (by omega) (by omega), c2 _ (by omega) (by omega)]
      exact n4 i P1 hP2
  · rw [hd 25 (by omega) (by omega) (by omega) (by omega) (by omega) (by omega), c2 25 (by omega) (by omega), hd _ (by omega) (by omega) (by omega) (by omega) (by omega) (by omega), c2 _ (by omega) (by omega)]
    exact h5 i hi
  · rw [hd 19 (by omega) (by omega) (by omega) (by omega) (by omega) (by omega), c2 19 (by omega) (by omega)]
    exact h6
  · rw [hd 20 (by omega) (by omega) (by omega) (by omega) (by omega) (by omega), c2 20 (by omega) (by omega)]
    exact h7 i x hx
theorem x_a_ok (h : x_ok H σ) (hH : H ≤ H1) (hp : x_pg H1 P) : x_ok H1 (x_a σ P) := by
  obtain ⟨h1, h2, h3, h4, h5⟩ := x_ok_mono h hH
  refine ⟨hp, fun Q hQ => ?_, h3, ?_, h5⟩
  · have : Q ∈ σ.1 :: σ.2.1 := List.mem_of_mem_take hQ
    rcases List.mem_cons.mp this with rfl | hq
    · exact h1
    · exact h2 Q hq
  · show ((σ.1 :: σ.2.1).take 14).length ≤ 14
    rw [List.length_take]; omega
end Z41
