/-! TABLES: out of lists -/
theorem sm_look {α β : Type} [DecidableEq α] {a : α} {b : β} : ∀ {l : List (α × β)}, l.lookup a = some b → (a, b) ∈ l
  | [], h => by cases h
  | (c, d) :: l, h => by
    by_cases hc : a = c
    · subst hc
      rw [List.lookup_cons_self] at h
      cases h
      exact List.mem_cons_self
    · have h1 : (a == c) = false := by simpa using hc
      simp only [List.lookup, h1] at h
      exact List.mem_cons_of_mem _ (sm_look h)
noncomputable def sm_mk (tb : List (Nat × Instr × Nat)) (fl : List (Nat × Nat × Nat)) (cl : List (Nat × sm_K)) (hn : List ((Nat × Nat) × (Nat × Nat))) (ex : List (Nat × Nat)) (k64 : List (Nat × Int64)) (k32 : List (Nat × Int32)) (nt : List (Nat × Nat)) (st : List (Nat × Nat)) (ro : Nat → Option (Nat × (Nat → Int32))) (rk : Nat) : sm_T :=
  (fun pc => tb.lookup pc, fun x => fl.lookup x, fun x => cl.lookup x, fun pc x => hn.lookup (pc, x), fun pc => ex.lookup pc, fun x => k64.lookup x, fun x => k32.lookup x, fun x => (nt.lookup x).getD 0, fun x => st.lookup x, ro, rk)
def sm_fok (own : String) (fl : List (Nat × Nat × Nat)) : Prop := ∀ q ∈ fl, Cond.fieldLink own q.1 (sm_kl q.2.1).1 ((sm_kl q.2.1).2.1 q.2.2).2.1 ((sm_kl q.2.1).2.1 q.2.2).2.2.1 ∈ sm_W
def sm_lok (own : String) (k64 : List (Nat × Int64)) : Prop := ∀ q ∈ k64, Cond.constantLong own q.1 q.2 ∈ sm_W
def sm_iok (own : String) (k32 : List (Nat × Int32)) : Prop := ∀ q ∈ k32, Cond.constant own q.1 q.2 ∈ sm_W
def sm_nok (own : String) (nt : List (Nat × Nat)) : Prop := ∀ q ∈ nt, (q.2 = 1 → Cond.methodLink own q.1 Lib.Math.min.name ∈ sm_W) ∧ (q.2 = 2 → Cond.methodLink own q.1 Lib.Math.max.name ∈ sm_W) ∧ (q.2 = 3 → Cond.methodLink own q.1 arraycopyName ∈ sm_W)
def sm_sok (own : String) (st : List (Nat × Nat)) : Prop := ∀ q ∈ st, q.2 = 62 ∧ Cond.fieldLink own q.1 "SnowGuns" "MOST_OF_SETTING" "[I" ∈ sm_W
theorem sm_mk_tok {own : String} {cc : ByteArray} {tb : List (Nat × Instr × Nat)} {fl : List (Nat × Nat × Nat)} {cl : List (Nat × sm_K)} {hn : List ((Nat × Nat) × (Nat × Nat))} {ex : List (Nat × Nat)} {k64 : List (Nat × Int64)} {k32 : List (Nat × Int32)} {nt st : List (Nat × Nat)} {ro : Nat → Option (Nat × (Nat → Int32))} {rk : Nat}
    (h1 : ∀ q ∈ tb, decode cc q.1 = .ok q.2) (h2 : sm_fok own fl) (h3 : sm_lok own k64) (h6 : sm_iok own k32) (h4 : sm_nok own nt) (h5 : sm_sok own st) : sm_Tok (sm_mk tb fl cl hn ex k64 k32 nt st ro rk) own cc := by
  have hn9 : ∀ x k, (nt.lookup x).getD 0 = k + 1 → (x, k + 1) ∈ nt := by
    intro x k h
    cases hl : nt.lookup x with
    | none => rw [hl] at h; cases h
    | some v => rw [hl] at h; cases h; exact sm_look hl
  refine ⟨fun pc i len h => h1 (pc, i, len) (sm_look h), fun x ci f h => h2 (x, ci, f) (sm_look h), fun x v h => h3 (x, v) (sm_look h), fun x v h => h6 (x, v) (sm_look h), fun x h => (h4 (x, 1) (hn9 x 0 h)).1 rfl, fun x h => (h4 (x, 2) (hn9 x 1 h)).2.1 rfl, fun x h => (h4 (x, 3) (hn9 x 2 h)).2.2 rfl, fun x c h => h5 (x, c) (sm_look h)⟩
def sm_Cal1 (l : Launch) (G : sm_G) (own : String) (lev : Nat) (q : Nat × sm_K) : Prop := ∃ (y : MethodName) (bytes : ByteArray) (maxL : Nat) (ret : Option FieldType) (hh : List (Nat × Nat × Nat × Nat)) (lev1 : Nat), sm_Cs own q.1 q.2.1 q.2.2.1 q.2.2.2.2.1 y bytes maxL ret hh ∧ sm_Con l G y (sm_hd q.2.1 y bytes maxL ret hh) lev1 q.2.2.2.1 q.2.2.2.2.2 ∧ lev1 + 1 ≤ lev ∧ maxL + 30 * lev1 + 19 ≤ 30 * lev
theorem sm_mk_cal {l : Launch} {G : sm_G} {own : String} {lev : Nat} {tb : List (Nat × Instr × Nat)} {fl : List (Nat × Nat × Nat)} {cl : List (Nat × sm_K)} {hn : List ((Nat × Nat) × (Nat × Nat))} {ex : List (Nat × Nat)} {k64 : List (Nat × Int64)} {k32 : List (Nat × Int32)} {nt st : List (Nat × Nat)} {ro : Nat → Option (Nat × (Nat → Int32))} {rk : Nat}
    (h : ∀ q ∈ cl, sm_Cal1 l G own lev q) : sm_Cal l G (sm_mk tb fl cl hn ex k64 k32 nt st ro rk) own lev := fun x kd n cost cy f hl => h _ (sm_look hl)
theorem sm_ix (i : Nat) {w : Cond} (h : tables_1[i]? = some w) (hg : goodWord w = true) : w ∈ sm_W := List.mem_filter.mpr ⟨List.mem_append_right _ (List.mem_of_getElem? h), hg⟩
def sm_noro : Nat → Option (Nat × (Nat → Int32)) := fun _ => none
def sm_moro : Nat → Option (Nat × (Nat → Int32)) := fun c => if c = 62 then some (4, sm_most) else none
def sm_scro (sc : Nat × (Nat → Int32)) : Nat → Option (Nat × (Nat → Int32)) := fun c => if c = 61 then some sc else none
theorem sm_noro_ok {G : sm_G} : ∀ c n f, sm_noro c = some (n, f) → (c = 62 ∧ n = 4 ∧ f = sm_most) ∨ (c = 61 ∧ n = (sm_sc G).1 ∧ f = (sm_sc G).2) := fun _ _ _ h => by cases h
theorem sm_moro_ok {G : sm_G} : ∀ c n f, sm_moro c = some (n, f) → (c = 62 ∧ n = 4 ∧ f = sm_most) ∨ (c = 61 ∧ n = (sm_sc G).1 ∧ f = (sm_sc G).2) := fun c n f h => by
  unfold sm_moro at h
  split at h
  · rename_i hc; cases h; exact Or.inl ⟨hc, rfl, rfl⟩
  · cases h
theorem sm_scro_ok {G : sm_G} : ∀ c n f, sm_scro (sm_sc G) c = some (n, f) → (c = 62 ∧ n = 4 ∧ f = sm_most) ∨ (c = 61 ∧ n = (sm_sc G).1 ∧ f = (sm_sc G).2) := fun c n f h => by
  unfold sm_scro at h
  split at h
  · rename_i hc
    have h1 := Option.some.inj h
    exact Or.inr ⟨hc, by rw [h1], by rw [h1]⟩
  · cases h
def fl_X9 : List (Nat × Nat × Nat) := [(10, 9, 0), (19, 9, 1), (23, 9, 2), (26, 9, 3), (32, 9, 4), (39, 9, 5), (43, 9, 6), (47, 9, 7), (63, 5, 3), (88, 6, 1), (96, 6, 2), (108, 5, 5), (111, 5, 2), (115, 7, 0), (121, 5, 6), (124, 8, 1), (127, 7, 1), (130, 5, 7), (140, 5, 4), (144, 0, 2), (159, 5, 0), (163, 4, 0), (168, 4, 1), (171, 4, 2), (174, 4, 3), (191, 5, 1), (195, 1, 0), (200, 1, 1), (203, 1, 2), (207, 1, 3), (210, 1, 4), (213, 1, 5), (218, 7, 2), (221, 7, 3), (224, 7, 4), (227, 7, 5), (233, 7, 6), (238, 0, 0), (240, 0, 1), (274, 8, 0), (305, 2, 2), (384, 3, 1)]
theorem fo_X9 : sm_fok RX9 fl_X9 := by unfold sm_fok; decide +kernel
def kl_X9 : List (Nat × Int64) := [(342, 100000), (350, 6364136223846793005), (352, 1442695040888963407)]
theorem ko_X9 : sm_lok RX9 kl_X9 := by unfold sm_lok; decide +kernel
def ki_X9 : List (Nat × Int32) := []
theorem io_X9 : sm_iok RX9 ki_X9 := by unfold sm_iok; decide +kernel
def nt_X9 : List (Nat × Nat) := [(326, 1)]
theorem no_X9 : sm_nok RX9 nt_X9 := by unfold sm_nok; decide +kernel
def st_X9 : List (Nat × Nat) := [(381, 62)]
theorem so_X9 : sm_sok RX9 st_X9 := by unfold sm_sok; decide +kernel
def fl_X0 : List (Nat × Nat × Nat) := [(9, 0, 0), (15, 0, 1), (24, 0, 2)]
theorem fo_X0 : sm_fok RX0 fl_X0 := by unfold sm_fok; decide +kernel
def kl_X0 : List (Nat × Int64) := []
theorem ko_X0 : sm_lok RX0 kl_X0 := by unfold sm_lok; decide +kernel
def ki_X0 : List (Nat × Int32) := []
theorem io_X0 : sm_iok RX0 ki_X0 := by unfold sm_iok; decide +kernel
def nt_X0 : List (Nat × Nat) := [(18, 3)]
theorem no_X0 : sm_nok RX0 nt_X0 := by unfold sm_nok; decide +kernel
def st_X0 : List (Nat × Nat) := []
theorem so_X0 : sm_sok RX0 st_X0 := by unfold sm_sok; decide +kernel
def fl_X1 : List (Nat × Nat × Nat) := [(9, 1, 0), (15, 1, 1), (18, 1, 2), (22, 1, 3), (25, 1, 4), (28, 1, 5)]
theorem fo_X1 : sm_fok RX1 fl_X1 := by unfold sm_fok; decide +kernel
def kl_X1 : List (Nat × Int64) := []
theorem ko_X1 : sm_lok RX1 kl_X1 := by unfold sm_lok; decide +kernel
def ki_X1 : List (Nat × Int32) := []
theorem io_X1 : sm_iok RX1 ki_X1 := by unfold sm_iok; decide +kernel
def nt_X1 : List (Nat × Nat) := []
theorem no_X1 : sm_nok RX1 nt_X1 := by unfold sm_nok; decide +kernel
def st_X1 : List (Nat × Nat) := []
theorem so_X1 : sm_sok RX1 st_X1 := by unfold sm_sok; decide +kernel
def fl_X2 : List (Nat × Nat × Nat) := [(11, 2, 0), (18, 2, 2), (22, 2, 1)]
theorem fo_X2 : sm_fok RX2 fl_X2 := by unfold sm_fok; decide +kernel
def kl_X2 : List (Nat × Int64) := []
theorem ko_X2 : sm_lok RX2 kl_X2 := by unfold sm_lok; decide +kernel
def ki_X2 : List (Nat × Int32) := []
theorem io_X2 : sm_iok RX2 ki_X2 := by unfold sm_iok; decide +kernel
def nt_X2 : List (Nat × Nat) := [(29, 1)]
theorem no_X2 : sm_nok RX2 nt_X2 := by unfold sm_nok; decide +kernel
def st_X2 : List (Nat × Nat) := []
theorem so_X2 : sm_sok RX2 st_X2 := by unfold sm_sok; decide +kernel
def fl_X3 : List (Nat × Nat × Nat) := [(9, 3, 0), (15, 3, 1), (18, 3, 2), (26, 5, 5), (32, 5, 0), (42, 5, 2), (46, 7, 0), (64, 5, 7), (70, 5, 6), (73, 5, 1), (81, 4, 1), (88, 5, 3), (100, 1, 1), (105, 7, 1), (116, 1, 3), (119, 1, 2), (123, 7, 3), (129, 1, 4), (132, 1, 5), (141, 4, 3), (144, 4, 0), (157, 5, 4)]
theorem fo_X3 : sm_fok RX3 fl_X3 := by unfold sm_fok; decide +kernel
def kl_X3 : List (Nat × Int64) := []
theorem ko_X3 : sm_lok RX3 kl_X3 := by unfold sm_lok; decide +kernel
def ki_X3 : List (Nat × Int32) := []
theorem io_X3 : sm_iok RX3 ki_X3 := by unfold sm_iok; decide +kernel
def nt_X3 : List (Nat × Nat) := [(147, 1)]
theorem no_X3 : sm_nok RX3 nt_X3 := by unfold sm_nok; decide +kernel
def st_X3 : List (Nat × Nat) := []
theorem so_X3 : sm_sok RX3 st_X3 := by unfold sm_sok; decide +kernel
def fl_X4 : List (Nat × Nat × Nat) := [(9, 4, 0), (15, 4, 1), (18, 4, 2), (21, 4, 3)]
theorem fo_X4 : sm_fok RX4 fl_X4 := by unfold sm_fok; decide +kernel
def kl_X4 : List (Nat × Int64) := []
theorem ko_X4 : sm_lok RX4 kl_X4 := by unfold sm_lok; decide +kernel
def ki_X4 : List (Nat × Int32) := []
theorem io_X4 : sm_iok RX4 ki_X4 := by unfold sm_iok; decide +kernel
def nt_X4 : List (Nat × Nat) := []
theorem no_X4 : sm_nok RX4 nt_X4 := by unfold sm_nok; decide +kernel
def st_X4 : List (Nat × Nat) := []
theorem so_X4 : sm_sok RX4 st_X4 := by unfold sm_sok; decide +kernel
def fl_X5 : List (Nat × Nat × Nat) := [(11, 5, 0), (19, 5, 1), (26, 5, 2), (33, 5, 3), (40, 5, 4), (46, 5, 5), (54, 5, 6), (69, 5, 7), (76, 8, 1), (79, 0, 2), (80, 4, 0), (83, 4, 1), (86, 4, 2), (89, 4, 3), (95, 1, 0), (102, 7, 6), (109, 1, 2), (113, 1, 3), (116, 1, 4)]
theorem fo_X5 : sm_fok RX5 fl_X5 := by unfold sm_fok; decide +kernel
def kl_X5 : List (Nat × Int64) := []
theorem ko_X5 : sm_lok RX5 kl_X5 := by unfold sm_lok; decide +kernel
def ki_X5 : List (Nat × Int32) := []
theorem io_X5 : sm_iok RX5 ki_X5 := by unfold sm_iok; decide +kernel
def nt_X5 : List (Nat × Nat) := []
theorem no_X5 : sm_nok RX5 nt_X5 := by unfold sm_nok; decide +kernel
def st_X5 : List (Nat × Nat) := []
theorem so_X5 : sm_sok RX5 st_X5 := by unfold sm_sok; decide +kernel
def fl_X6 : List (Nat × Nat × Nat) := [(9, 6, 0), (15, 6, 1), (19, 6, 2), (43, 6, 3), (46, 6, 4), (49, 6, 5), (70, 5, 3)]
theorem fo_X6 : sm_fok RX6 fl_X6 := by unfold sm_fok; decide +kernel
def kl_X6 : List (Nat × Int64) := []
theorem ko_X6 : sm_lok RX6 kl_X6 := by unfold sm_lok; decide +kernel
def ki_X6 : List (Nat × Int32) := []
theorem io_X6 : sm_iok RX6 ki_X6 := by unfold sm_iok; decide +kernel
def nt_X6 : List (Nat × Nat) := []
theorem no_X6 : sm_nok RX6 nt_X6 := by unfold sm_nok; decide +kernel
def st_X6 : List (Nat × Nat) := []
theorem so_X6 : sm_sok RX6 st_X6 := by unfold sm_sok; decide +kernel
def fl_X7 : List (Nat × Nat × Nat) := [(13, 7, 0), (24, 7, 1), (28, 7, 2), (31, 7, 3), (34, 7, 4), (37, 7, 5), (40, 7, 6)]
theorem fo_X7 : sm_fok RX7 fl_X7 := by unfold sm_fok; decide +kernel
def kl_X7 : List (Nat × Int64) := []
theorem ko_X7 : sm_lok RX7 kl_X7 := by unfold sm_lok; decide +kernel
def ki_X7 : List (Nat × Int32) := []
theorem io_X7 : sm_iok RX7 ki_X7 := by unfold sm_iok; decide +kernel
def nt_X7 : List (Nat × Nat) := [(18, 3), (43, 2)]
theorem no_X7 : sm_nok RX7 nt_X7 := by unfold sm_nok; decide +kernel
def st_X7 : List (Nat × Nat) := []
theorem so_X7 : sm_sok RX7 st_X7 := by unfold sm_sok; decide +kernel
def fl_X8 : List (Nat × Nat × Nat) := [(9, 8, 0), (21, 8, 1)]
theorem fo_X8 : sm_fok RX8 fl_X8 := by unfold sm_fok; decide +kernel
def kl_X8 : List (Nat × Int64) := []
theorem ko_X8 : sm_lok RX8 kl_X8 := by unfold sm_lok; decide +kernel
def ki_X8 : List (Nat × Int32) := []
theorem io_X8 : sm_iok RX8 ki_X8 := by unfold sm_iok; decide +kernel
def nt_X8 : List (Nat × Nat) := [(15, 3)]
theorem no_X8 : sm_nok RX8 nt_X8 := by unfold sm_nok; decide +kernel
def st_X8 : List (Nat × Nat) := []
theorem so_X8 : sm_sok RX8 st_X8 := by unfold sm_sok; decide +kernel
def fl_L : List (Nat × Nat × Nat) := []
theorem fo_L : sm_fok RL fl_L := by unfold sm_fok; decide +kernel
def kl_L : List (Nat × Int64) := [(226, 100000), (258, 167), (260, 80000), (262, 80001), (264, 10000), (266, 10099), (268, 20000), (270, 20999), (272, 30099), (274, 32010), (276, 33051), (278, 34000), (280, 30100), (282, 70000), (284, 1000), (286, 70001), (288, 60000), (290, 60100), (292, 90000), (294, 90006), (296, 50000), (298, 90001), (300, 50002), (302, 40000)]
theorem ko_L : sm_lok RL kl_L := by unfold sm_lok; decide +kernel
def ki_L : List (Nat × Int32) := [(15, -99002), (18, -99003), (32, -99001), (115, 15516947), (116, 2147483647), (257, 100000)]
theorem io_L : sm_iok RL ki_L := by unfold sm_iok; decide +kernel
def nt_L : List (Nat × Nat) := []
theorem no_L : sm_nok RL nt_L := by unfold sm_nok; decide +kernel
def st_L : List (Nat × Nat) := []
theorem so_L : sm_sok RL st_L := by unfold sm_sok; decide +kernel
theorem at_1 : (∀ w ∈ vx_atS RX9 77 (sm_en9 1) sm_xn, w ∈ sm_W ∨ w = Cond.castable (sm_en9 1) (sm_en9 1) ∨ ∃ Y ∈ sm_xd, w = Cond.declares (Bundle.initS Y)) ∧ (∀ w ∈ Cond.classLink RX9 73 (sm_en9 1) :: Cond.initialized (sm_en9 1) :: vx_atS RX9 77 (sm_en9 1) sm_xn, vx_ot w = true) ∧ Cond.classLink RX9 73 (sm_en9 1) ∈ sm_W ∧ Cond.initialized (sm_en9 1) ∈ sm_W := by decide +kernel
theorem at_2 : (∀ w ∈ vx_atS RX9 87 (sm_en9 2) sm_xn, w ∈ sm_W ∨ w = Cond.castable (sm_en9 2) (sm_en9 2) ∨ ∃ Y ∈ sm_xd, w = Cond.declares (Bundle.initS Y)) ∧ (∀ w ∈ Cond.classLink RX9 83 (sm_en9 2) :: Cond.initialized (sm_en9 2) :: vx_atS RX9 87 (sm_en9 2) sm_xn, vx_ot w = true) ∧ Cond.classLink RX9 83 (sm_en9 2) ∈ sm_W ∧ Cond.initialized (sm_en9 2) ∈ sm_W := by decide +kernel
theorem at_3 : (∀ w ∈ vx_atS RX9 369 (sm_en9 3) sm_xn, w ∈ sm_W ∨ w = Cond.castable (sm_en9 3) (sm_en9 3) ∨ ∃ Y ∈ sm_xd, w = Cond.declares (Bundle.initS Y)) ∧ (∀ w ∈ Cond.classLink RX9 365 (sm_en9 3) :: Cond.initialized (sm_en9 3) :: vx_atS RX9 369 (sm_en9 3) sm_xn, vx_ot w = true) ∧ Cond.classLink RX9 365 (sm_en9 3) ∈ sm_W ∧ Cond.initialized (sm_en9 3) ∈ sm_W := by decide +kernel
theorem sm_rets_of : sm_rets 0 none ∧ sm_rets 1 (some .int) ∧ sm_rets 11 (some .int) ∧ sm_rets 2 (some .boolean) ∧ sm_rets 3 (some .long) ∧ ∀ n, sm_rets 4 (some (.object n)) :=
  ⟨⟨fun _ => rfl, fun h => (by cases h), fun h => (by cases h), fun h => (by cases h), fun h => (by cases h), fun h => (by cases h)⟩, ⟨fun h => (by cases h), fun _ => rfl, fun h => (by cases h), fun h => (by cases h), fun h => (by cases h), fun h => (by cases h)⟩, ⟨fun h => (by cases h), fun h => (by cases h), fun _ => rfl, fun h => (by cases h), fun h => (by cases h), fun h => (by cases h)⟩, ⟨fun h => (by cases h), fun h => (by cases h), fun h => (by cases h), fun _ => rfl, fun h => (by cases h), fun h => (by cases h)⟩, ⟨fun h => (by cases h), fun h => (by cases h), fun h => (by cases h), fun h => (by cases h), fun _ => rfl, fun h => (by cases h)⟩, fun n => ⟨fun h => (by cases h), fun h => (by cases h), fun h => (by cases h), fun h => (by cases h), fun h => (by cases h), fun _ => ⟨n, rfl⟩⟩⟩
