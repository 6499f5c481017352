/-! THE FIRST PAGE -/
section Z74
theorem wa_low : w_new 24 0 = 20 ∧ w_new 24 1 = 500 ∧ w_new 24 2 = 2 ∧ w_new 24 3 = 10 ∧ w_new 24 4 = 1 ∧ w_new 24 5 = 1 ∧ w_new 24 6 = 24 ∧ w_new 24 7 = 500 ∧ w_new 24 8 = 0 ∧ w_new 24 14 = 0 := by decide +kernel
theorem wa_sl : w_new 24 15 = 4 ∧ w_new 24 16 = 5 ∧ w_new 24 17 = 10 ∧ w_new 24 18 = 0 ∧ w_new 24 39 = 0 ∧ w_new 24 40 = 1 ∧ w_new 24 41 = 1 ∧ w_new 24 42 = 0 ∧ w_new 24 43 = 0 ∧ w_new 24 44 = 0 := by decide +kernel
theorem wa_wet : ∀ i, i < 24 → w_new 24 (93 + i) = -4 := by decide +kernel
theorem wa_d : y_d (w_new 24) 0 0 := by
  obtain ⟨a0, a1, a2, a3, a4, a5, a6, a7, a8, a14⟩ := wa_low
  obtain ⟨s0, s1, s2, s3, g0, g1, g2, g3, g4, g5⟩ := wa_sl
  refine ⟨⟨⟨a0, a1, a2, a3⟩, a4, a5, a6⟩, by rw [a7]; omega, by rw [a8]; omega, ⟨s0, s2, s3⟩, ⟨g0, g1, g2, g3⟩, fun j h1 h2 => ?_⟩
  have h := wa_wet (j - 93) (by omega)
  rw [show 93 + (j - 93) = j by omega] at h
  exact h
theorem wa_acc : w_new 24 9 = 500 ∧ w_new 24 10 = 0 ∧ w_new 24 11 = 0 ∧ w_new 24 12 = 0 ∧ w_new 24 13 = 0 := by decide +kernel
theorem wa_pg : x_pg 0 (w_new 24) := by
  obtain ⟨a0, a1, a2, a3, a4, a5, a6, a7, a8, a14⟩ := wa_low
  obtain ⟨s0, s1, s2, s3, g0, g1, g2, g3, g4, g5⟩ := wa_sl
  obtain ⟨b9, b10, b11, b12, b13⟩ := wa_acc
  have e1 : q_bl (w_new 24) = [] := by unfold q_bl; rw [a14]; rfl
  refine ⟨?_, fun e he => (by rw [e1] at he; cases he), ?_⟩
  · unfold q_ok
    rw [a0, a1, a2, a3, a4, a5, a6, a7, a8, a14]
    refine ⟨⟨by omega, by omega, by omega, by omega, by omega, by omega, by omega, by omega, by omega, by omega⟩, fun s hs => ?_, fun g hg => ?_, fun i hi => ?_⟩
    · have : s = 0 := by omega
      subst this
      rw [show w_new 24 (15 + 4 * 0) = 4 from s0, show w_new 24 (15 + 4 * 0 + 1) = 5 from s1, show w_new 24 (15 + 4 * 0 + 2) = 10 from s2, show w_new 24 (15 + 4 * 0 + 3) = 0 from s3]
      omega
    · have : g = 0 := by omega
      subst this
      rw [show w_new 24 (39 + 6 * 0) = 0 from g0, show w_new 24 (39 + 6 * 0 + 1) = 1 from g1, show w_new 24 (39 + 6 * 0 + 2) = 1 from g2, show w_new 24 (39 + 6 * 0 + 3) = 0 from g3]
      omega
    · rw [wa_wet i (by omega)]
      omega
  · have es : q_snow (w_new 24) = 0 := by
      unfold q_snow
      rw [a4, show (1 : Int).toNat = 0 + 1 from rfl, q_its, q_it0, show w_new 24 (15 + 4 * 0 + 3) = 0 from s3]
      rfl
    unfold y_b
    rw [b9, b10, b11, b12, b13, a7, es]
    refine ⟨by omega, ⟨by omega, by omega, by omega, by omega, by omega, by omega⟩, fun g hg => ?_⟩
    rw [a5] at hg
    have : g = 0 := by omega
    subst this
    rw [show w_new 24 (39 + 6 * 0 + 4) = 0 from g4]
    omega
/-- a new object's memory stands for it -/
theorem wa_R {W : Nat → Nat → Int} (h0 : W 0 = w_new 24) (hz : ∀ r, 1 ≤ r → r < 100 → W r = fun _ => 0) : x_R W (w_new 24, [], none, none, []) := by
  refine ⟨by rw [h0]; exact e_rf, ⟨?_, ?_, fun i P hP => by cases hP⟩, fun i hi => ⟨?_, fun P hP => ?_⟩, ?_, fun i x hx => by cases hx⟩
  · rw [hz 24 (by omega) (by omega)]
    show (0 : Int) ≤ 0 ∧ (0 : Int) ≤ 13
    omega
  · rw [hz 24 (by omega) (by omega)]; rfl
  · rw [hz 25 (by omega) (by omega)]
    have e : x_slot ((w_new 24, [], none, none, []) : x_sp) i = none := by
      show (if i = 0 then none else none) = none
      split <;> rfl
    rw [e]; rfl
  · have e : x_slot ((w_new 24, [], none, none, []) : x_sp) i = none := by
      show (if i = 0 then none else none) = none
      split <;> rfl
    rw [e] at hP; cases hP
  · rw [hz 19 (by omega) (by omega)]; rfl
/-- the first memory of both -/
def w_W2 : Nat → Nat → Int := x_mu (q_rg w_Z 0 (w_new 24)) (q_rg w_Z 0 (w_new 24))
theorem wa_R2 : x_R2 w_W2 (w_new 24, [], none, none, []) (w_new 24, [], none, none, []) := by
  have z : ∀ r, 1 ≤ r → q_rg w_Z 0 (w_new 24) r = fun _ => 0 := fun r hr => by rw [q_rn (by omega)]; rfl
  constructor
  · refine wa_R ?_ (fun r h1 h2 => ?_)
    · funext j
      show (if 100 ≤ 0 then q_rg w_Z 0 (w_new 24) (0 - 100) j else q_rg w_Z 0 (w_new 24) 0 j) = _
      rw [if_neg (by omega), q_re]
    · funext j
      show (if 100 ≤ r then q_rg w_Z 0 (w_new 24) (r - 100) j else q_rg w_Z 0 (w_new 24) r j) = _
      rw [if_neg (by omega), z r h1]
  · unfold w_W2
    rw [u_mu]
    exact wa_R q_re (fun r h1 _ => z r h1)
def w_M2 : sm_M := (q_I w_W2, 0)
theorem w_M2_lo {r j : Nat} (h : r < 100) : w_M2.1 r j = w_M9.1 r j := by
  show q_i (if 100 ≤ r then q_rg w_Z 0 (w_new 24) (r - 100) j else q_rg w_Z 0 (w_new 24) r j) = q_i (q_rg w_Z 0 (w_new 24) r j)
  rw [if_neg (by omega)]
theorem w_M2_um : sm_um w_M2 = w_M9 := by
  show (q_I (x_u w_W2), (0 : Int64)) = (q_I (q_rg w_Z 0 (w_new 24)), 0)
  unfold w_W2
  rw [u_mu]
section Y74
variable {D : va_G} {ca : Nat → ClassId} {N0 b t : Nat} {sc : Nat × (Nat → Int32)} {H : Heap}
/-- both objects' cells -/
theorem al_rep2 (h1 : sm_Rep (al_GG D ca N0 b t xs_9 sc) w_M9 H) (h2 : sm_Rep (al_GG D ca (N0 + 486) b t xs_9 sc) w_M9 H) : sm_Rep (al_GG D ca N0 b t xs_a sc) w_M2 H := by
  refine ⟨fun c k i g => ?_, fun c k i g => ?_⟩
  · have z9 : sm_og (al_GG D ca N0 b t xs_9 sc) c k i := ⟨g.1, by
      rcases g.2 with z | z
      · exact z
      · have := (ok_100 g.1).1; omega⟩
    have z := h1.1 c k i z9
    rw [← sm_en_cg (M1 := w_M2) g.1 (fun r j hr => w_M2_lo hr)] at z
    exact z
  · have z9 : sm_og (al_GG D ca (N0 + 486) b t xs_9 sc) c k i := ⟨g.1, by
      have e := (ok_100 g.1).1
      rcases g.2 with z | z
      · omega
      · exact ⟨e, by omega⟩⟩
    have z := h2.1 c k i z9
    rw [w_M2_um]
    have e1 : sm_ad (sm_up (al_GG D ca N0 b t xs_a sc)) c k i = sm_ad (al_GG D ca (N0 + 486) b t xs_9 sc) c k i := by rw [al_ad2 g.1, al_ad g.1]
    have e2 : sm_en (sm_up (al_GG D ca N0 b t xs_a sc)) w_M9 c k i = sm_en (al_GG D ca (N0 + 486) b t xs_9 sc) w_M9 c k i := sm_en_ad rfl (fun c k i q1 q2 q3 q4 => by
      show (if c = 61 ∨ c = 62 then sm_ad (al_GG D ca N0 b t xs_a sc) c k i else (if c + 100 = 61 then b else if c + 100 = 62 then t else if c + 100 < 100 then N0 + al_of (c + 100) k i else N0 + 486 + al_of (c + 100 - 100) k i)) = (if c = 61 then b else if c = 62 then t else if c < 100 then N0 + 486 + al_of c k i else N0 + 486 + 486 + al_of (c - 100) k i)
      rw [if_neg (by omega), if_neg (by omega), if_neg (by omega), if_neg (by omega), if_neg q3, if_neg q4, if_pos q1, Nat.add_sub_cancel])
    rw [e1, e2]
    exact z
theorem al_AN {x : Nat} : sm_A (al_GG D ca N0 b t xs_a sc) x → N0 ≤ x := by
  rintro (⟨c, k, i, g, rfl⟩ | ⟨c, k, i, g, rfl⟩)
  · rw [al_ad g.1]
    omega
  · rw [al_ad2 g.1]
    omega
end Y74
end Z74
