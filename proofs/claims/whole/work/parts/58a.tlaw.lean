/-! THE LAW'S OWN TABLE: whole -/
def lw_ro (L : Nat) (xs : Nat → Int32) : Nat → Option (Nat × (Nat → Int32)) := fun c => if c = 61 then some (L, xs) else none
noncomputable def T_law (L : Nat) (xs : Nat → Int32) : sm_T := (lk_L, (sm_mk [] [] rc_L [] [] kl_L [] [] (lw_ro L xs) 2).2)
theorem T_law_tok {L : Nat} {xs : Nat → Int32} : sm_Tok (T_law L xs) RL code :=
  ⟨fun pc i len h => lk_L_ok h, fun x ci f h => (by cases h), fun x v h => ko_L (x, v) (sm_look h), fun x v h => (by cases h), fun x h => absurd h (by show ¬ (0 : Nat) = 1; decide), fun x h => absurd h (by show ¬ (0 : Nat) = 2; decide), fun x h => absurd h (by show ¬ (0 : Nat) = 3; decide), fun x c h => (by cases h)⟩
theorem T_law_0 {L : Nat} {xs : Nat → Int32} : (∀ pc e, sm_hnd (T_law L xs) pc e = none) ∧ sm_rk (T_law L xs) < 10 ∧ ∀ x, sm_nat (T_law L xs) x = 0 := ⟨fun _ _ => rfl, by show 2 < 10; decide, fun _ => rfl⟩
theorem T_law_cal {l : Launch} {G : sm_G} {L : Nat} {xs : Nat → Int32} (hI : sm_Inj G) (hfl : l.stackTraces = false) : sm_Cal l G (T_law L xs) RL 10 := fun x kd n cost cy f hl => rc_L_ok hI hfl _ (sm_look hl)
