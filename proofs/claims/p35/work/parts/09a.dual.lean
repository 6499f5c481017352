/-! THE SECOND FACE: a contract lifted -/
theorem sm_um_um_none {G : sm_G} (h2 : ∀ c k i, ¬ sm_xs G (c + 200) k i) {c k i : Nat} : ¬ sm_og (sm_up (sm_up G)) c k i := fun h => h2 c k i (by have := h.2; show sm_xs G (c + 200) k i; exact this)
theorem sm_A1_none {G : sm_G} (h2 : ∀ c k i, ¬ sm_xs G (c + 200) k i) {q : Nat} : ¬ sm_A1 (sm_up (sm_up G)) q := fun ⟨c, k, i, h, _⟩ => sm_um_um_none h2 h
theorem sm_A_up {G : sm_G} (h2 : ∀ c k i, ¬ sm_xs G (c + 200) k i) {q : Nat} (h : sm_A (sm_up G) q) : sm_A G q := h.elim Or.inr (fun z => (sm_A1_none h2 z).elim)
/-- two faces and no third -/
def sm_Two (G : sm_G) : Prop := sm_Inj1 (sm_up G) ∧ ∀ c k i, ¬ sm_xs G (c + 200) k i
theorem sm_Inj.up {G : sm_G} (hI : sm_Inj1 (sm_up G)) (h2 : ∀ c k i, ¬ sm_xs G (c + 200) k i) : sm_Inj (sm_up G) := ⟨hI, fun _ _ _ _ _ _ _ h => (sm_um_um_none h2 h).elim⟩
def sm_nr (v : sm_V) : Bool := match v with | .inr (.inr _) => false | _ => true
/-- the memory with the second face's written back -/
def sm_mu (M M1 : sm_M) : sm_M := (fun r j => if 100 ≤ r then M1.1 (r - 100) j else M.1 r j, M1.2)
/-- a method of one face, called with either -/
def sm_du (f : sm_F) : sm_F := fun M avs => match avs with
  | .inr (.inr (109, 0, 0)) :: as => sm_g (as.all sm_nr = true) (match f (sm_um M) (.inr (.inr (9, 0, 0)) :: as) with
    | some (M1, .ok (some (.inl x))) => some (sm_mu M M1, .ok (some (.inl x)))
    | _ => none)
  | _ => f M avs
theorem sm_um_mu {M M1 : sm_M} : sm_um (sm_mu M M1) = M1 := by
  unfold sm_um sm_mu
  refine Prod.ext ?_ rfl
  funext r j
  show (if 100 ≤ r + 100 then M1.1 (r + 100 - 100) j else M.1 (r + 100) j) = M1.1 r j
  rw [if_pos (by omega), Nat.add_sub_cancel]
theorem sm_en_cg {G : sm_G} {M M1 : sm_M} {c k i : Nat} (hk : sm_ok c k i) (h : ∀ r j, r < 100 → M1.1 r j = M.1 r j) : sm_en G M1 c k i = sm_en G M c k i := by
  by_cases hc : c ≤ 9
  · rw [sm_en_obj hc, sm_en_obj hc]
    have : sm_fv G M1 c k i = sm_fv G M c k i := by
      funext f
      unfold sm_fv
      cases hf : sm_fl c k i f with
      | none => rfl
      | some z =>
        rcases z with ⟨c1, k1, i1⟩ | ⟨a1, j1⟩
        · rfl
        · show Value.int _ = Value.int _
          rw [h a1 j1 (sm_fl_100 hk hf)]
    rw [this]
  · cases ha : sm_ar c k with
    | some z =>
      obtain ⟨t, n, r, o, s⟩ := z
      rw [sm_en_arr ha, sm_en_arr ha]
      have hr := sm_ar_100 hk ha
      have : (fun q => if q < n then M1.1 r (o + s * q) else 0) = (fun q => if q < n then M.1 r (o + s * q) else 0) := by
        funext q
        rw [h _ _ hr]
      rw [this]
    | none =>
      unfold sm_en
      rw [if_neg hc, if_neg hc, ha]
      cases hr : sm_ra c k with
      | some z => rfl
      | none =>
        exfalso
        unfold sm_ok at hk
        split at hk
        all_goals first
          | (exact hk)
          | (apply hc; decide)
          | (cases ha; done)
          | (cases hr; done)
theorem sm_c_nr {G : sm_G} : ∀ {as : List sm_V}, as.all sm_nr = true → as.map (sm_c (sm_up G)) = as.map (sm_c G) ∧ sm_okl (sm_up G) as
  | [], _ => ⟨rfl, sm_okl_nil.mpr trivial⟩
  | v :: as, h => by
    rw [List.all_cons, Bool.and_eq_true] at h
    obtain ⟨i1, i2⟩ := sm_c_nr (G := G) h.2
    rcases v with x | x | ⟨c, k, i⟩
    · exact ⟨by rw [List.map_cons, List.map_cons, i1]; rfl, sm_okl_cons.mpr ⟨trivial, i2⟩⟩
    · exact ⟨by rw [List.map_cons, List.map_cons, i1]; rfl, sm_okl_cons.mpr ⟨trivial, i2⟩⟩
    · exact absurd h.1 (by simp [sm_nr])
theorem va_T_nar {ty : FieldType} {t N : Nat} {f : Nat → Value} {A B : Nat → Prop} {U : State} {H : Heap} (h : va_T ty t N f A U H) (hB : ∀ q, B q → A q) : va_T ty t N f B U H := by
  obtain ⟨cell, h1, h2, h3, h4, h5, h6, h7⟩ := h
  exact ⟨cell, h1, h2, h3, h4, h5, h6, fun q => h7 (hB _ q)⟩
theorem va_Z_nar {C n d : String} {v : Value} {A B : Nat → Prop} {U : State} {H : Heap} (h : va_Z C n d v A U H) (hB : ∀ q, B q → A q) : va_Z C n d v B U H := by
  obtain ⟨cf, kf, fi, f, a, cell, h1, h2, h3, h4, h5, h6, h7, h8⟩ := h
  exact ⟨cf, kf, fi, f, a, cell, h1, h2, h3, h4, h5, h6, h7, fun q => h8 (hB _ q)⟩
theorem sm_Wf.up {G : sm_G} {U : State} (h2 : ∀ c k i, ¬ sm_xs G (c + 200) k i) (h : sm_Wf G U) : sm_Wf (sm_up G) U := by
  obtain ⟨⟨a1, a2, a3, a4, a5⟩, b1, b2, b3, b4, b5⟩ := h
  have hB : ∀ q, sm_A (sm_up G) q → sm_A G q := fun q => sm_A_up h2
  exact ⟨⟨a1, va_T_nar a2 hB, va_Z_nar a3 hB, vx_Zq.narrow a4 hB, vx_Zq.narrow a5 hB⟩, b1, b2, b3, b4, va_T_nar b5 hB⟩
theorem sm_Con.du {l : Launch} {G : sm_G} {y : MethodName} {head : Cond} {lev cost : Nat} {f : sm_F} (hI : sm_Inj G) (h2 : ∀ c k i, ¬ sm_xs G (c + 200) k i) (h : sm_Con l G y head lev cost f) (hu : sm_Con l (sm_up G) y head lev cost f) : sm_Con l G y head lev cost (sm_du f) := by
  intro M avs o hok hf
  unfold sm_du at hf
  split at hf
  · rename_i as
    obtain ⟨hnr, hf⟩ := sm_g_some hf
    split at hf
    · rename_i M1 x hq
      cases hf
      have hog : sm_og (sm_up G) 9 0 0 := by
        rcases (sm_okl_cons.mp hok).1 with z | ⟨z, -⟩ | ⟨z, -⟩ | ⟨-, -, -, z⟩
        · exact z.1.elim
        · exact absurd z (by decide)
        · exact absurd z (by decide)
        · exact z
      obtain ⟨c1, c2⟩ := sm_c_nr (G := G) hnr
      have hM := hu (sm_um M) (.inr (.inr (9, 0, 0)) :: as) _ (sm_okl_cons.mpr ⟨Or.inl hog, c2⟩) hq
      intro p e ha hc hk s m args below hfr happ hP _
      obtain ⟨rfl, hR, hW⟩ := hP
      have eargs : (List.map (sm_c G) (.inr (.inr (109, 0, 0)) :: as)).toArray = (List.map (sm_c (sm_up G)) (.inr (.inr (9, 0, 0)) :: as)).toArray := by
        rw [List.map_cons, List.map_cons, c1]; rfl
      obtain ⟨n, oc, q1, q2, q3, q4⟩ := hM p e ha hc hk s m _ below hfr happ ⟨eargs, ⟨hR.2, fun c k i z => (sm_um_um_none h2 z).elim⟩, hW.up h2⟩ trivial
      have hfr : ∀ t : State, va_F (sm_A (sm_up G)) s t → va_F (sm_A G) s t := fun t hF => ⟨hF.1, fun q z1 z2 => hF.2 q z1 (fun z3 => z2 (sm_A_up h2 z3))⟩
      have hrep : ∀ t : State, sm_Rep (sm_up G) M1 t.heap → va_F (sm_A (sm_up G)) s t → sm_Rep G (sm_mu M M1) t.heap := fun t hr hF => by
        refine ⟨fun c k i hk => ?_, by rw [sm_um_mu]; exact hr.1⟩
        rw [sm_en_cg hk.1 (M := M) (M1 := sm_mu M M1) (fun r j hr => if_neg (by omega))]
        refine (hR.1 c k i hk).kept (hF.2 _ (hR.1 c k i hk).lt ?_)
        rintro (⟨c1, k1, i1, z1, z2⟩ | z)
        · exact hI.2 _ _ _ _ _ _ hk z1 z2
        · exact sm_A1_none h2 z
      refine ⟨n, oc, q1, q2, q3, ?_⟩
      rcases q4 with ⟨⟨r, r1, r2, r3, r4, r5⟩, L, f1, f2⟩ | ⟨q, q5, q6⟩
      · left
        refine ⟨⟨r, r1, ?_, ?_, hrep _ r4 r5, hfr _ r5⟩, L, f1, fun z hz => sm_A_up h2 (f2 z hz)⟩
        · rw [r2]
          have : r = some (.inl x) := (Except.ok.inj r1).symm
          subst this; rfl
        · have : r = some (.inl x) := (Except.ok.inj r1).symm
          subst this
          exact sm_okl_cons.mpr ⟨trivial, sm_okl_nil.mpr trivial⟩
      · exfalso
        obtain ⟨E, ce, L, ⟨x9, f3, -⟩, -⟩ := q6
        cases f3
    · cases hf
  · exact h M avs o hok hf
