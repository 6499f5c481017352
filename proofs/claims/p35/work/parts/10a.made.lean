/-! THE LAW'S ROW OF 48 INTS, made anew each hour: contracts of methods that make it -/
def sm_w6 (G : sm_G) (aw : Nat) : sm_G := (G.1, fun c k i => if c = 60 then aw else sm_ad G c k i, sm_ca G, fun c k i => if c = 60 then True else sm_xs G c k i, sm_sc G)
section SM6
variable {G : sm_G} {aw : Nat}
theorem w6_ad {c k i : Nat} (h : c ≠ 60) : sm_ad (sm_w6 G aw) c k i = sm_ad G c k i := if_neg h
theorem w6_xs {c k i : Nat} (h : c ≠ 60) : sm_xs (sm_w6 G aw) c k i = sm_xs G c k i := if_neg h
theorem w6_og {c k i : Nat} (h : c ≠ 60) : sm_og (sm_w6 G aw) c k i ↔ sm_og G c k i := by unfold sm_og; rw [w6_xs h]
theorem w6_60 : sm_og (sm_w6 G aw) 60 0 0 := ⟨⟨rfl, rfl⟩, trivial⟩
theorem w6_up : sm_up (sm_w6 G aw) = sm_up G := by
  unfold sm_up
  refine Prod.ext rfl (Prod.ext ?_ (Prod.ext rfl (Prod.ext ?_ rfl)))
  · funext c k i
    show (if c = 61 ∨ c = 62 then sm_ad (sm_w6 G aw) c k i else sm_ad (sm_w6 G aw) (c + 100) k i) = (if c = 61 ∨ c = 62 then sm_ad G c k i else sm_ad G (c + 100) k i)
    split
    · exact w6_ad (by omega)
    · exact w6_ad (by omega)
  · funext c k i
    show sm_xs (sm_w6 G aw) (c + 100) k i = sm_xs G (c + 100) k i
    exact w6_xs (show c + 100 ≠ 60 by omega)
theorem w6_w6 {b : Nat} : sm_w6 (sm_w6 G aw) b = sm_w6 G b := by
  unfold sm_w6
  refine Prod.ext rfl (Prod.ext ?_ (Prod.ext rfl (Prod.ext ?_ rfl)))
  · funext c k i
    show (if c = 60 then b else if c = 60 then aw else sm_ad G c k i) = (if c = 60 then b else sm_ad G c k i)
    split <;> rfl
  · funext c k i
    show (if c = 60 then True else if c = 60 then True else sm_xs G c k i) = (if c = 60 then True else sm_xs G c k i)
    split <;> rfl
theorem sm_fl_60 {c k i f : Nat} {n : sm_N} (h : sm_fl c k i f = some (.inl n)) : n.1 ≠ 60 := by
  unfold sm_fl at h
  split at h
  all_goals (try split at h)
  all_goals (try (cases h; done))
  all_goals (simp only [Option.some.injEq, Sum.inl.injEq, reduceCtorEq] at h)
  all_goals (subst h; dsimp only; omega)
theorem sm_ra_60 {c k t n : Nat} {f : Nat → sm_N} (h : sm_ra c k = some (t, n, f)) (j : Nat) : (f j).1 ≠ 60 := by
  unfold sm_ra at h
  split at h
  all_goals (try (cases h; done))
  all_goals (simp only [Option.some.injEq, Prod.mk.injEq] at h)
  all_goals (obtain ⟨rfl, rfl, rfl⟩ := h; dsimp only; omega)
theorem w6_en {M : sm_M} {c k i : Nat} (h : c ≠ 60) : sm_en (sm_w6 G aw) M c k i = sm_en G M c k i := by
  by_cases hc : c ≤ 9
  · rw [sm_en_obj hc, sm_en_obj hc]
    have : sm_fv (sm_w6 G aw) M c k i = sm_fv G M c k i := by
      funext f
      unfold sm_fv
      cases hf : sm_fl c k i f with
      | none => rfl
      | some z =>
        rcases z with ⟨c1, k1, i1⟩ | ⟨a1, j1⟩
        · show Value.ref (sm_ad (sm_w6 G aw) c1 k1 i1) = Value.ref (sm_ad G c1 k1 i1)
          rw [w6_ad (sm_fl_60 hf)]
        · rfl
    rw [this]
  · cases ha : sm_ar c k with
    | some z =>
      obtain ⟨t, n, r, o, s⟩ := z
      rw [sm_en_arr ha, sm_en_arr ha]
      rfl
    | none =>
      unfold sm_en
      rw [if_neg hc, if_neg hc, ha]
      cases hr : sm_ra c k with
      | none => rfl
      | some z =>
        obtain ⟨t, n, f⟩ := z
        have : (fun j => if j < n then some (sm_ad (sm_w6 G aw) (f j).1 (f j).2.1 (f j).2.2) else none) = (fun j => if j < n then some (sm_ad G (f j).1 (f j).2.1 (f j).2.2) else none) := by
          funext j
          rw [w6_ad (sm_ra_60 hr j)]
        exact congrArg (fun F => (.inl (sm_ca G t, n, .inr (.inr (.inr (.inr F)))) : va_E)) this
theorem w6_inj (hI : sm_Inj G) (h1 : ∀ c k i, sm_og G c k i → sm_ad G c k i ≠ aw) (h2 : ∀ c k i, sm_og (sm_up G) c k i → sm_ad (sm_up G) c k i ≠ aw) : sm_Inj (sm_w6 G aw) := by
  refine ⟨⟨fun c k i c1 k1 i1 g g1 e => ?_, fun c k i f n g hf => ?_, fun c k t n f j g hr hj => ?_⟩, fun c k i c1 k1 i1 g g1 => ?_⟩
  · by_cases e0 : c = 60
    · by_cases e1 : c1 = 60
      · subst e0; subst e1
        have z := g.1; have z1 := g1.1
        simp only [sm_ok] at z z1
        rw [z.1, z.2, z1.1, z1.2]
      · subst e0
        rw [w6_ad e1] at e
        exact (h1 _ _ _ ((w6_og e1).mp g1) e.symm).elim
    · by_cases e1 : c1 = 60
      · subst e1
        rw [w6_ad e0] at e
        exact (h1 _ _ _ ((w6_og e0).mp g) e).elim
      · rw [w6_ad e0, w6_ad e1] at e
        exact hI.1.1 _ _ _ _ _ _ ((w6_og e0).mp g) ((w6_og e1).mp g1) e
  · have e0 : c ≠ 60 := fun q => by subst q; cases hf
    rw [w6_xs (sm_fl_60 hf)]
    exact hI.1.2.1 _ _ _ _ _ ((w6_og e0).mp g) hf
  · have e0 : c ≠ 60 := fun q => by subst q; cases hr
    rw [w6_xs (sm_ra_60 hr j)]
    exact hI.1.2.2 _ _ _ _ _ _ ((w6_og e0).mp g) hr hj
  · rw [w6_up] at g1 ⊢
    by_cases e0 : c = 60
    · subst e0; exact h2 _ _ _ g1
    · rw [w6_ad e0]
      exact hI.2 _ _ _ _ _ _ ((w6_og e0).mp g) g1
theorem w6_A {q : Nat} (h : sm_A (sm_w6 G aw) q) : sm_A G q ∨ q = aw := by
  rcases h with ⟨c, k, i, g, e⟩ | h
  · by_cases e0 : c = 60
    · subst e0; exact Or.inr e.symm
    · exact Or.inl (Or.inl ⟨c, k, i, (w6_og e0).mp g, by rw [← w6_ad e0 (aw := aw)]; exact e⟩)
  · rw [w6_up] at h
    exact Or.inl (Or.inr h)
theorem w6_A2 (h6 : ∀ k i, ¬ sm_xs G 60 k i) {q : Nat} (h : sm_A G q) : sm_A (sm_w6 G aw) q := by
  rcases h with ⟨c, k, i, g, e⟩ | h
  · have e0 : c ≠ 60 := fun z => by subst z; exact h6 _ _ g.2
    exact Or.inl ⟨c, k, i, (w6_og e0).mpr g, by rw [w6_ad e0]; exact e⟩
  · exact Or.inr (by rw [w6_up]; exact h)
end SM6
theorem va_T_wid {ty : FieldType} {t N : Nat} {f : Nat → Value} {A B : Nat → Prop} {U : State} {H : Heap} (h : va_T ty t N f A U H) (hB : ∀ q, B q → A q ∨ H.size ≤ q) : va_T ty t N f B U H := by
  obtain ⟨cell, h1, h2, h3, h4, h5, h6, h7⟩ := h
  exact ⟨cell, h1, h2, h3, h4, h5, h6, fun q => (hB _ q).elim h7 (fun z => by have := (Array.getElem?_eq_some_iff.mp h1).1; omega)⟩
theorem va_Z_wid {C n d : String} {v : Value} {A B : Nat → Prop} {U : State} {H : Heap} (h : va_Z C n d v A U H) (hB : ∀ q, B q → A q ∨ H.size ≤ q) : va_Z C n d v B U H := by
  obtain ⟨cf, kf, fi, f, a, cell, h1, h2, h3, h4, h5, h6, h7, h8⟩ := h
  exact ⟨cf, kf, fi, f, a, cell, h1, h2, h3, h4, h5, h6, h7, fun q => (hB _ q).elim h8 (fun z => by have := (Array.getElem?_eq_some_iff.mp h5).1; omega)⟩
theorem vx_Zq_wid {C n d : String} {A B : Nat → Prop} {U : State} {H : Heap} (h : vx_Zq C n d A U H) (hB : ∀ q, B q → A q ∨ H.size ≤ q) : vx_Zq C n d B U H := by
  obtain ⟨h1, h2⟩ := h
  refine ⟨?_, ?_⟩
  · rcases h1 with h | ⟨t, h⟩
    · exact Or.inl (va_Z_wid h hB)
    · exact Or.inr ⟨t, va_Z_wid h hB⟩
  · obtain ⟨c, k, i, f, a, cell, g1, g2, g3, g4, g5, g6, g7, g8, g9, g10⟩ := h2
    exact ⟨c, k, i, f, a, cell, g1, g2, g3, g4, g5, g6, g7, g8, g9, fun q => (hB _ q).elim g10 (fun z => by have := (Array.getElem?_eq_some_iff.mp g5).1; omega)⟩
theorem sm_Wf.w6 {G : sm_G} {aw : Nat} {U : State} (h : sm_Wf G U) (ha : U.heap.size ≤ aw) : sm_Wf (sm_w6 G aw) U := by
  obtain ⟨⟨a1, a2, a3, a4, a5⟩, b1, b2, b3, b4, b5⟩ := h
  have hB : ∀ q, sm_A (sm_w6 G aw) q → sm_A G q ∨ U.heap.size ≤ q := fun q z => (w6_A z).imp id (fun e => by rw [e]; exact ha)
  exact ⟨⟨a1, va_T_wid a2 hB, va_Z_wid a3 hB, vx_Zq_wid a4 hB, vx_Zq_wid a5 hB⟩, b1, b2, b3, b4, va_T_wid b5 hB⟩
/-- places that are young need not be told -/
theorem st_relocs {p : Program} {l : Launch} {e : Env} {R : Room} {s : State} {m : MethodId} {args : Array Value} {below : List Frame} {meth : Method} {c : Code} {T : State} {locs locs' : List Loc} {cells slots : Nat} (X : Stand p l e R s m args below meth c T locs cells slots) (h : ∀ z ∈ locs, z.base < s.heap.size → z ∈ locs') : Stand p l e R s m args below meth c T locs' cells slots :=
  { X with same := ⟨X.same.1, X.same.2.1, X.same.2.2.1, X.same.2.2.2.1, X.same.2.2.2.2.1, fun a c hc => by
      obtain ⟨c', h1, h2, h3, h4⟩ := X.same.2.2.2.2.2 a c hc
      exact ⟨c', h1, h2, h3, fun i hi => h4 i (fun hm => hi (h _ hm (Array.getElem?_eq_some_iff.mp hc).1))⟩⟩ }
theorem w_relocs {p : Program} {l : Launch} {e : Env} {R : Room} {s : State} {m : MethodId} {args : Array Value} {below : List Frame} {meth : Method} {c : Code} {H : Heap} {locs locs' : List Loc} {cells slots : Nat} {Q : State → Prop} {g : JFrame} (h : ∀ z ∈ locs, z.base < s.heap.size → z ∈ locs') (kk : W p l e R s m args below meth c H locs' cells slots Q g) : W p l e R s m args below meth c H locs cells slots Q g := fun T hT X => kk T hT (st_relocs X h)
theorem fe_relocs {s : State} {o : Outcome} {t : State} {L L' : List Loc} {k n : Nat} (X : FrameEnd s o t L k n) (h : ∀ z ∈ L, z.base < s.heap.size → z ∈ L') : FrameEnd s o t L' k n :=
  ⟨X.1, X.2.1, ⟨X.2.2.1, X.2.2.2.1, X.2.2.2.2.1, X.2.2.2.2.2.1, X.2.2.2.2.2.2.1, fun a c hc => by
      obtain ⟨c', h1, h2, h3, h4⟩ := X.2.2.2.2.2.2.2 a c hc
      exact ⟨c', h1, h2, h3, fun i hi => h4 i (fun hm => hi (h _ hm (Array.getElem?_eq_some_iff.mp hc).1))⟩⟩⟩
section SM7
variable {p : Program} {l : Launch} {e : Env} {R : Room} {s : State} {m : MethodId} {args : Array Value} {below : List Frame} {meth : Method} {c0 : Code} {Q : State → Prop} {G : sm_G} {nL : Nat}
variable {cc : ByteArray} {own : String} {T : sm_T} {lev : Nat}
def sm_is6 (G Gx : sm_G) (s : State) : Prop := Gx = G ∨ ∃ aw, s.heap.size ≤ aw ∧ Gx = sm_w6 G aw
theorem is6_up {Gx : sm_G} (h : sm_is6 G Gx s) : sm_up Gx = sm_up G := by
  rcases h with rfl | ⟨aw, -, rfl⟩
  · rfl
  · exact w6_up
theorem is6_w6 {Gx : sm_G} (h : sm_is6 G Gx s) {b : Nat} : sm_w6 Gx b = sm_w6 G b := by
  rcases h with rfl | ⟨aw, -, rfl⟩
  · rfl
  · exact w6_w6
theorem is6_A {Gx : sm_G} (h : sm_is6 G Gx s) {q : Nat} (hq : sm_A Gx q) : sm_A G q ∨ s.heap.size ≤ q := by
  rcases h with rfl | ⟨aw, ha, rfl⟩
  · exact Or.inl hq
  · exact (w6_A hq).imp id (fun e => by rw [e]; exact ha)
theorem is6_A2 {Gx : sm_G} (h6 : ∀ k i, ¬ sm_xs G 60 k i) (h : sm_is6 G Gx s) {q : Nat} (hq : sm_A G q) : sm_A Gx q := by
  rcases h with rfl | ⟨aw, ha, rfl⟩
  · exact hq
  · exact w6_A2 h6 hq
theorem is6_og {Gx : sm_G} (h : sm_is6 G Gx s) {c k i : Nat} (hc : c ≠ 60) : sm_og Gx c k i ↔ sm_og G c k i := by
  rcases h with rfl | ⟨aw, ha, rfl⟩
  · exact Iff.rfl
  · exact w6_og hc
theorem is6_ad {Gx : sm_G} (h : sm_is6 G Gx s) {c k i : Nat} (hc : c ≠ 60) : sm_ad Gx c k i = sm_ad G c k i := by
  rcases h with rfl | ⟨aw, ha, rfl⟩
  · rfl
  · exact w6_ad hc
theorem is6_en {Gx : sm_G} (h : sm_is6 G Gx s) {M : sm_M} {c k i : Nat} (hc : c ≠ 60) : sm_en Gx M c k i = sm_en G M c k i := by
  rcases h with rfl | ⟨aw, ha, rfl⟩
  · rfl
  · exact w6_en hc
theorem is6_Wf {Gx : sm_G} (h : sm_is6 G Gx s) (hW : sm_Wf G s) : sm_Wf Gx s := by
  rcases h with rfl | ⟨aw, ha, rfl⟩
  · exact hW
  · exact hW.w6 ha
theorem sm_ow_40 {j : Nat} : sm_ow 40 j = (60, 0, 0) := by
  unfold sm_ow
  rw [if_neg (by omega), if_neg (by omega), if_neg (by omega), if_neg (by omega), if_neg (by omega), if_neg (by omega), if_neg (by omega), if_neg (by omega)]
theorem sm_cl_v {v : sm_V} {w : Option sm_V} (h : sm_cl w = some v) : w = some v ∧ ∀ k i, v ≠ .inr (.inr (60, k, i)) := by
  unfold sm_cl at h
  split at h
  · cases h
  · rename_i hn
    subst h
    exact ⟨rfl, fun k i q => hn k i (by rw [q])⟩
theorem sm_cl_lg {ls : sm_L} {i : Nat} {v : sm_V} (h : sm_lg (ls.map sm_cl) i = some v) : sm_lg ls i = some v ∧ ∀ k i, v ≠ .inr (.inr (60, k, i)) := by
  have h1 := sm_lg_of h
  rw [List.getElem?_map] at h1
  cases hl : ls[i]? with
  | none => rw [hl] at h1; cases h1
  | some w =>
    rw [hl] at h1
    obtain ⟨h2, h3⟩ := sm_cl_v (Option.some.inj h1)
    refine ⟨?_, h3⟩
    unfold sm_lg
    rw [hl, h2]
/-- the row made -/
theorem sd_made {Gx : sm_G} {b pc : Nat} {M : sm_M} {ls : sm_L} (hx : p.tables.exec = Jvm.exec) (hb : c0.code = cc) (hts : ∀ w ∈ sm_W, w.before args s = true) (hWf : sm_Wf G s) (h6 : sm_is6 G Gx s) (hI : sm_Inj Gx) (hG6 : ∀ k i, ¬ sm_xs G 60 k i) (h9 : 9 ≤ b) (hd : decode cc pc = .ok (.newarray .int, 2))
    (kk : ∀ aw, s.heap.size ≤ aw → sm_Inj (sm_w6 G aw) → sm_Go p l e R s m args below meth c0 Q (sm_w6 G aw) nL (b - 9, pc + 2, sm_z6 M, ls.map sm_cl, [.inr (.inr (60, 0, 0))])) :
    sm_Go p l e R s m args below meth c0 Q Gx nL (b, pc, M, ls, [.inl 48]) := fun H locs LS cells slots h => by
  have hc : cells + b ≤ R.cells := h.2.2.2.2.2.1
  have hs : slots + 6 * b ≤ R.slots := h.2.2.2.2.2.2
  have hlt1 : ∀ c k i, sm_og Gx c k i → sm_ad Gx c k i < H.size := fun c k i g => (h.1.1 c k i g).lt
  have hlt2 : ∀ c k i, sm_og (sm_up Gx) c k i → sm_ad (sm_up Gx) c k i < H.size := fun c k i g => (h.1.2 c k i g).lt
  have hIw : sm_Inj (sm_w6 G H.size) := by
    rw [← is6_w6 h6]
    exact w6_inj hI (fun c k i g => Nat.ne_of_lt (hlt1 c k i g)) (fun c k i g => Nat.ne_of_lt (hlt2 c k i g))
  have hsz : s.heap.size ≤ H.size := h.2.1.1
  refine w_relocs (locs' := locs.filter (fun z => decide (z.base < s.heap.size))) (fun z hz hlt => List.mem_filter.mpr ⟨hz, by simpa using hlt⟩) ?_
  refine va_newaK (atype := .int) hx hb (hts _ (by decide +kernel)) (g := F0 m pc LS [.int 48]) (n := 48) (N := 48) (rest := []) rfl hd rfl (by decide) (by decide) (by decide) (by omega) (by omega) (h := H.size) rfl fun H1 cA e1 z1 o1 hAr hNm => ?_
  have hK := hWf.1.1
  have hca : cA = sm_ca G 0 := by
    have h1 := (hK.2 0 _ (sm_tyget G).1).2
    exact Option.some.inj (hNm.symm.trans h1)
  refine W.widen (k := cells + 1) (n := slots + 48) (Nat.le_refl _) (Nat.le_refl _) ?_
  refine kk H.size hsz hIw H1 _ LS (cells + 1) (slots + 48) ⟨⟨fun c k i g => ?_, ?_⟩, ⟨by omega, fun q q1 q2 => ?_, fun z hz => ?_⟩, ⟨by rw [List.length_map]; exact h.2.2.1.1, h.2.2.1.2.1, h.2.2.1.2.2.1, fun i v hv => ?_⟩, fun i v hv => ?_, ?_, by show cells + 1 + (b - 9) ≤ R.cells; omega, by show slots + 48 + 6 * (b - 9) ≤ R.slots; omega⟩
  · by_cases e0 : c = 60
    · subst e0
      have z := g.1
      simp only [sm_ok] at z
      obtain ⟨rfl, rfl⟩ := z
      show H1[H.size]? = some (vp_cell (sm_ca G 0) (48, .inl (fun j => if j < 48 then (sm_z6 M).1 40 (0 + 1 * j) else 0)))
      rw [e1, hca, vp_cell_i]
      congr 2
      funext j
      show Value.int 0 = Value.int (if j < 48 then (if (40 : Nat) = 40 then 0 else M.1 40 (0 + 1 * j)) else 0)
      rw [if_pos rfl]
      split <;> rfl
    · have gx := (is6_og h6 e0).mpr ((w6_og e0).mp g)
      have hat := (h.1.1 c k i gx).kept (o1 _ (hlt1 c k i gx))
      have hD : Gx.1 = (sm_w6 G H.size).1 := by
        rcases h6 with rfl | ⟨aw, -, rfl⟩ <;> rfl
      rw [w6_ad e0, w6_en e0, sm_en_same g.1 (N := (60, 0, 0)) (M := M) (M1 := sm_z6 M) (fun q => e0 (Prod.mk.inj q).1.symm) (fun a j hne => if_neg (fun q => hne (by rw [q]; exact sm_ow_40))) rfl, ← is6_ad h6 e0, ← is6_en h6 e0, ← hD]
      exact hat
  · have e2 : sm_um (sm_z6 M) = sm_um M := by
      unfold sm_um sm_z6
      refine Prod.ext ?_ rfl
      funext r j
      show (if r + 100 = 40 then (0 : Int32) else M.1 (r + 100) j) = M.1 (r + 100) j
      rw [if_neg (by omega)]
    show sm_Rep1 (sm_up (sm_w6 G H.size)) (sm_um (sm_z6 M)) H1
    rw [e2, w6_up, ← is6_up h6]
    exact h.1.2.kept fun c k i g => o1 _ (hlt2 c k i g)
  · rw [o1 q (Nat.lt_of_lt_of_le q1 hsz)]
    exact h.2.1.2.1 q q1 fun z => (is6_A h6 z).elim (fun z1 => q2 (w6_A2 hG6 z1)) (fun z1 => by omega)
  · obtain ⟨z1, z2⟩ := List.mem_filter.mp hz
    have z3 : z.base < s.heap.size := by simpa using z2
    exact (is6_A h6 (h.2.1.2.2 z z1)).elim (w6_A2 hG6) (fun z4 => absurd z3 (Nat.not_lt.mpr z4))
  · obtain ⟨h1, h2⟩ := sm_cl_lg hv
    have h3 := h.2.2.1.2.2.2 i v h1
    rw [h3]
    rcases v with x | x | ⟨c, k, i1⟩
    · rfl
    · rfl
    · have e0 : c ≠ 60 := fun q => h2 k i1 (by rw [q])
      show some (Slot.val (.ref (sm_ad Gx c k i1))) = some (Slot.val (.ref (sm_ad (sm_w6 G H.size) c k i1)))
      rw [w6_ad e0, is6_ad h6 e0]
  · obtain ⟨h1, h2⟩ := sm_cl_lg hv
    have h3 := h.2.2.2.1 i v h1
    rcases v with x | x | ⟨c, k, i1⟩
    · exact trivial
    · exact trivial
    · have e0 : c ≠ 60 := fun q => h2 k i1 (by rw [q])
      rcases h3 with z | z | z | ⟨z1, z2, z3, z4⟩
      · exact Or.inl ((w6_og e0).mpr ((is6_og h6 e0).mp z))
      · exact Or.inr (Or.inl z)
      · exact Or.inr (Or.inr (Or.inl z))
      · exact Or.inr (Or.inr (Or.inr ⟨z1, z2, z3, by rw [w6_up, ← is6_up h6]; exact z4⟩))
  · exact sm_okl_cons.mpr ⟨Or.inl w6_60, sm_okl_nil.mpr trivial⟩
theorem sm_steps6 (hx : p.tables.exec = Jvm.exec) (hb : c0.code = cc) (hml : c0.maxLocals = nL) (hts : ∀ w ∈ sm_W, w.before args s = true) (hown : s.vm.findClass own = some m.cls) (hWf : sm_Wf G s) (hG6 : ∀ k i, ¬ sm_xs G 60 k i) (hT : sm_Tok T own cc) (hC : ∀ Gx, sm_Inj Gx → sm_Cal l Gx T own lev) (hro : ∀ c, sm_ro T c = none) (hR : lev ≤ R.frames ∧ 30 * lev + 100 ≤ R.locals ∧ 1 ≤ R.frames)
    (hH : ∀ pc x, sm_hnd T pc x = none) (hn : ∀ pc, sm_exn T pc = some 60 → decode cc pc = .ok (.newarray .int, 2)) {o : sm_O} (hend : ∀ Gx S, sm_is6 G Gx s → sm_Inj Gx → sm_ex T S = some (.inr o) → sm_Go p l e R s m args below meth c0 Q Gx nL S) : ∀ (n : Nat) (S : sm_S), sm_run T n S = some o → ∀ Gx, sm_is6 G Gx s → sm_Inj Gx → sm_Go p l e R s m args below meth c0 Q Gx nL S
  | 0, _, h, _, _, _ => by cases h
  | n + 1, S, h, Gx, h6, hI => by
    simp only [sm_run] at h
    cases hz : sm_ex T S with
    | none => rw [hz] at h; cases h
    | some z =>
      rw [hz] at h
      cases z with
      | inl S1 =>
        have ih := sm_steps6 hx hb hml hts hown hWf hG6 hT hC hro hR hH hn hend n S1 h
        by_cases hnew : sm_exn T S.2.1 = some 60
        · obtain ⟨b, pc, M, ls, st⟩ := S
          have hd := hn pc hnew
          unfold sm_ex at hz
          cases ht : sm_tab T pc with
          | none => simp only [ht] at hz; cases hz
          | some q =>
            obtain ⟨i, len⟩ := q
            simp only [ht] at hz
            have hd2 := hT.1 pc i len ht
            rw [hd] at hd2
            have hq := Except.ok.inj hd2
            cases hq
            replace hz := (sm_g_some hz).2
            have hnew2 : sm_exn T pc = some 60 := hnew
            rw [hnew2] at hz
            simp only at hz
            split at hz
            · obtain ⟨⟨rfl, h9⟩, hz2⟩ := sm_g_some hz
              cases sm_nx_some hz2
              exact sd_made hx hb hts hWf h6 hI hG6 h9 hd fun aw ha hIw => ih _ (Or.inr ⟨aw, ha, rfl⟩) hIw
            · cases hz
        · exact sm_step hx hb hml hts hown (is6_Wf h6 hWf) hI hT (hC Gx hI) (fun c1 n1 f1 h1 => by rw [hro] at h1; cases h1) hR (fun pc x pc1 k h => by rw [hH] at h; cases h) hnew hz (ih Gx h6 hI)
      | inr o1 =>
        cases h
        exact hend Gx S h6 hI hz
end SM7
/-- a run that ends with a number -/
noncomputable def sm_fz (f : sm_F) : sm_F := fun M avs => match f M avs with
  | some (M1, .ok (some (.inl x))) => some (M1, .ok (some (.inl x)))
  | _ => none
theorem sm_fz_of {f : sm_F} {M M1 : sm_M} {avs : List sm_V} {x : Int32} (h : f M avs = some (M1, .ok (some (.inl x)))) : sm_fz f M avs = some (M1, .ok (some (.inl x))) := by unfold sm_fz; rw [h]
theorem sm_fz_to {f : sm_F} {M : sm_M} {avs : List sm_V} {o : sm_O} (h : sm_fz f M avs = some o) : f M avs = some o ∧ ∃ x, o.2 = .ok (some (.inl x)) := by
  unfold sm_fz at h
  split at h
  · rename_i hq
    cases h
    exact ⟨hq, _, rfl⟩
  · cases h
theorem sm_con6 {l : Launch} {G : sm_G} {y : MethodName} {cc : ByteArray} {nL : Nat} {T : sm_T} {lev cost : Nat} (hI : sm_Inj G) (hG6 : ∀ k i, ¬ sm_xs G 60 k i) (hfl : l.stackTraces = false) (hy : plainName y.cls = true) (hT : sm_Tok T y.cls cc) (hC : ∀ Gx, sm_Inj Gx → sm_Cal l Gx T y.cls lev) (hrk : sm_rk T = 2) (hX : ∀ pc x, sm_exn T pc = some x → x = 60) (hn : ∀ pc, sm_exn T pc = some 60 → decode cc pc = .ok (.newarray .int, 2)) (hH : ∀ pc x, sm_hnd T pc x = none) (hro : ∀ c, sm_ro T c = none) (hlev : 1 ≤ lev) : sm_Con l G y (.code y cc nL (some .boolean)) lev cost (sm_fz (sm_fn T nL cost)) := by
  intro M avs o hok hf
  obtain ⟨hf, x9, hx9⟩ := sm_fz_to hf
  obtain ⟨hlen, hf⟩ := sm_g_some hf
  obtain ⟨n, hn1⟩ := sm_R_of hf
  refine vx_ofW (cc := cc) (maxL := nL) (ret := some .boolean) hy rfl ?_
  intro p e s m args below meth c s₁ B hml hnt hP
  obtain ⟨rfl, hRep, hWf⟩ := hP
  have hts0 := atoms_spec (ws := Cond.code y cc nL (some .boolean) :: sm_W) B.pre
  have hts : ∀ w ∈ sm_W, w.before ((avs.map (sm_c G)).toArray) s = true := fun w hw => hts0 w (List.mem_cons_of_mem _ hw)
  have hown : s.vm.findClass y.cls = some m.cls := findClass_of_methodNamed B.named
  rw [lg_entry_eq]
  refine sm_steps6 (R := sm_Rm lev cost) (nL := nL) B.exec B.bytes hml hts hown hWf hG6 hT hC hro ⟨Nat.le_refl _, Nat.le_refl _, hlev⟩ hH hn ?_ n _ hn1 G (Or.inl rfl) hI s.heap [] _ 0 0 ⟨hRep, va_S.rf, sm_entry hlen, fun i v hv => sm_av_ok avs hok i v (sm_ent_get hv), sm_okl_nil.mpr trivial, by show 0 + cost ≤ cost; omega, by show 0 + 6 * cost ≤ 6 * cost; omega⟩
  intro Gx S h6 hIx hS
  have hgo := sm_term (p := p) (l := l) (e := e) (below := below) (o := o) (R := sm_Rm lev cost) (mc := cost) (ms := 6 * cost) B.exec B.bytes hml hfl hts hown (is6_Wf h6 hWf) hT (hC Gx hIx) ⟨Nat.le_refl _, Nat.le_refl _⟩ ⟨Nat.le_refl _, Nat.le_refl _⟩ B.notSynchronized (by rw [B.returns, hrk]; exact sm_rets_of.2.2.2.1) (fun _ => hnt) (fun pc x h h60 => (h60 (hX pc x h)).elim) hS
  intro H locs LS cells slots hrel T1 hT1 X1
  obtain ⟨t, a1, oc, b1, b2, b3⟩ := hgo H locs LS cells slots hrel T1 hT1 X1
  refine ⟨t, a1, oc, b1, b2, ?_⟩
  rcases b3 with ⟨⟨r, r1, r2, r3, r4, r5⟩, L, f1, f2⟩ | ⟨q, q5, E, ce, L, ⟨x, f3, -⟩, -⟩
  · left
    have hr : r = some (.inl x9) := by
      rw [hx9] at r1
      exact (Except.ok.inj r1).symm
    subst hr
    refine ⟨⟨_, hx9, r2, sm_okl_cons.mpr ⟨trivial, sm_okl_nil.mpr trivial⟩, ⟨fun c k i g => ?_, by rw [← is6_up h6]; exact r4.2⟩, ⟨r5.1, fun q q1 q2 => r5.2 q q1 (fun z => (is6_A h6 z).elim q2 (fun z1 => by omega))⟩⟩, L.filter (fun z => decide (z.base < s.heap.size)), fe_relocs f1 (fun z hz hlt => List.mem_filter.mpr ⟨hz, by simpa using hlt⟩), fun z hz => ?_⟩
    · have e0 : c ≠ 60 := fun z => by subst z; exact hG6 _ _ g.2
      have gx := (is6_og h6 e0).mpr g
      have hat := r4.1 c k i gx
      have hD : Gx.1 = G.1 := by
        rcases h6 with rfl | ⟨aw, -, rfl⟩ <;> rfl
      rw [is6_ad h6 e0, is6_en h6 e0, hD] at hat
      exact hat
    · obtain ⟨z1, z2⟩ := List.mem_filter.mp hz
      have z3 : z.base < s.heap.size := by simpa using z2
      exact (is6_A h6 (f2 z z1)).elim id (fun z4 => absurd z3 (Nat.not_lt.mpr z4))
  · rw [hx9] at f3
    cases f3
