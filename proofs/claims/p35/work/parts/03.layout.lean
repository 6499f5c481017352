/-! the heap that a memory stands for -/
abbrev sm_G : Type := va_G × (Nat → Nat → Nat → Nat) × (Nat → ClassId) × (Nat → Nat → Nat → Prop) × (Nat × (Nat → Int32))
abbrev sm_ad (G : sm_G) := G.2.1
abbrev sm_ca (G : sm_G) := G.2.2.1
/-- the names that are there -/
abbrev sm_xs (G : sm_G) := G.2.2.2.1
/-- the script: its length, its numbers -/
abbrev sm_sc (G : sm_G) := G.2.2.2.2
def sm_c (G : sm_G) : sm_V → Value
  | .inl x => .int x
  | .inr (.inl x) => .long x
  | .inr (.inr (c, k, i)) => .ref (sm_ad G c k i)
def sm_nf (c : Nat) : Nat := match c with
  | 0 => 3 | 1 => 6 | 2 => 3 | 3 => 3 | 4 => 4 | 5 => 8 | 6 => 6 | 7 => 7 | 8 => 2 | 9 => 8 | _ => 0
def sm_ok (c k i : Nat) : Prop := match c with
  | 0 => k < 19 ∧ i = 0 | 5 => k < 19 ∧ i = 0 | 7 => k < 19 ∧ i = 0 | 8 => k < 19 ∧ i = 0 | 30 => k < 19 ∧ i = 0 | 31 => k < 19 ∧ i = 0 | 32 => k < 19 ∧ i = 0 | 33 => k < 19 ∧ i = 0 | 34 => k < 19 ∧ i = 0 | 35 => k < 19 ∧ i = 0
  | 1 => k < 19 ∧ i < 9 | 4 => k < 19 ∧ i < 6
  | 2 => k = 0 ∧ i = 0 | 3 => k = 0 ∧ i = 0 | 6 => k = 0 ∧ i = 0 | 9 => k = 0 ∧ i = 0 | 36 => k = 0 ∧ i = 0 | 37 => k = 0 ∧ i = 0 | 38 => k = 0 ∧ i = 0 | 39 => k = 0 ∧ i = 0 | 40 => k = 0 ∧ i = 0 | 41 => k = 0 ∧ i = 0 | 42 => k = 0 ∧ i = 0 | 60 => k = 0 ∧ i = 0
  | _ => False
def sm_og (G : sm_G) (c k i : Nat) : Prop := sm_ok c k i ∧ sm_xs G c k i
/-- the second face: codes and regions from 100 -/
def sm_up (G : sm_G) : sm_G := (G.1, fun c k i => if c = 61 ∨ c = 62 then sm_ad G c k i else sm_ad G (c + 100) k i, sm_ca G, fun c k i => sm_xs G (c + 100) k i, sm_sc G)
def sm_um (M : sm_M) : sm_M := (fun r j => M.1 (r + 100) j, M.2)
/-- a value's name is one of the system's, or of the two arrays that nobody writes -/
def sm_okv (G : sm_G) : sm_V → Prop
  | .inr (.inr (c, k, i)) => sm_og G c k i ∨ (c = 61 ∧ k = 0 ∧ i = 0) ∨ (c = 62 ∧ k = 0 ∧ i = 0) ∨ (c = 109 ∧ k = 0 ∧ i = 0 ∧ sm_og (sm_up G) 9 0 0)
  | _ => True
def sm_okl (G : sm_G) (st : List sm_V) : Prop := ∀ v ∈ st, sm_okv G v
def sm_okm (G : sm_G) (ls : sm_L) : Prop := ∀ i v, sm_lg ls i = some v → sm_okv G v
theorem sm_okl_nil {G : sm_G} : sm_okl G [] ↔ True := ⟨fun _ => trivial, fun _ _ h => by cases h⟩
theorem sm_okl_cons {G : sm_G} {v : sm_V} {st : List sm_V} : sm_okl G (v :: st) ↔ sm_okv G v ∧ sm_okl G st := List.forall_mem_cons
theorem sm_okv_i {G : sm_G} {x : Int32} : sm_okv G (.inl x) ↔ True := Iff.rfl
theorem sm_okv_l {G : sm_G} {x : Int64} : sm_okv G (.inr (.inl x)) ↔ True := Iff.rfl
def sm_fv (G : sm_G) (M : sm_M) (c k i f : Nat) : Value := match sm_fl c k i f with
  | some (.inl (c1, k1, i1)) => .ref (sm_ad G c1 k1 i1)
  | some (.inr (a, j)) => .int (M.1 a j)
  | none => .null
/-- what a cell holds -/
def sm_en (G : sm_G) (M : sm_M) (c k i : Nat) : va_E :=
  if c ≤ 9 then .inr (c, (List.range (sm_nf c)).map (sm_fv G M c k i)) else
  match sm_ar c k with
  | some (t, n, r, o, s) => .inl (sm_ca G t, n, .inl (fun j => if j < n then M.1 r (o + s * j) else 0))
  | none => (match sm_ra c k with
    | some (t, n, f) => .inl (sm_ca G t, n, .inr (.inr (.inr (.inr (fun j => if j < n then some (sm_ad G (f j).1 (f j).2.1 (f j).2.2) else none)))))
    | none => .inl (sm_ca G 3, 1, .inr (.inl (fun _ => M.2))))
def sm_Rep1 (G : sm_G) (M : sm_M) (H : Heap) : Prop := ∀ c k i, sm_og G c k i → va_at G.1 vwCl (sm_ad G c k i, sm_en G M c k i) H
def sm_Inj1 (G : sm_G) : Prop := (∀ c k i c1 k1 i1, sm_og G c k i → sm_og G c1 k1 i1 → sm_ad G c k i = sm_ad G c1 k1 i1 → (c, k, i) = (c1, k1, i1)) ∧ (∀ c k i f n, sm_og G c k i → sm_fl c k i f = some (.inl n) → sm_xs G n.1 n.2.1 n.2.2) ∧ (∀ c k t n f j, sm_og G c k 0 → sm_ra c k = some (t, n, f) → j < n → sm_xs G (f j).1 (f j).2.1 (f j).2.2)
def sm_Rep (G : sm_G) (M : sm_M) (H : Heap) : Prop := sm_Rep1 G M H ∧ sm_Rep1 (sm_up G) (sm_um M) H
def sm_Inj (G : sm_G) : Prop := sm_Inj1 G ∧ ∀ c k i c1 k1 i1, sm_og G c k i → sm_og (sm_up G) c1 k1 i1 → sm_ad (sm_up G) c1 k1 i1 ≠ sm_ad G c k i
/-- whose place is it -/
def sm_ow (a j : Nat) : sm_N :=
  if a < 19 then (if j < 4 then (32, a, 0) else if j < 6 then (5, a, 0) else if j < 7 then (8, a, 0) else if j < 8 then (7, a, 0) else if j < 9 then (5, a, 0) else if j < 14 then (7, a, 0) else if j < 15 then (0, a, 0) else if j < 39 then (4, a, (j - 15) / 4) else if j < 93 then (1, a, (j - 39) / 6) else if j < 117 then (33, a, 0) else if (j - 117) % 2 = 0 then (34, a, 0) else (35, a, 0))
  else if a = 19 then (6, 0, 0) else if a = 20 then (36, 0, 0) else if a = 21 then (37, 0, 0) else if a = 22 then (38, 0, 0) else if a = 23 then (39, 0, 0) else if a = 24 then (2, 0, 0) else if a = 25 then (42, 0, 0) else (60, 0, 0)
theorem sm_ow_f {c k i f a j : Nat} (hk : sm_ok c k i) (h : sm_fl c k i f = some (.inr (a, j))) : sm_ow a j = (c, k, i) := by
  unfold sm_fl at h
  split at h
  all_goals (try split at h)
  all_goals first
    | (cases h; done)
    | (simp only [Option.some.injEq, Sum.inr.injEq, Prod.mk.injEq] at h
       obtain ⟨rfl, rfl⟩ := h
       simp only [sm_ok] at hk
       simp only [sm_ow]
       first
         | (obtain ⟨rfl, rfl⟩ := hk; rfl)
         | (obtain ⟨h1, h2⟩ := hk
            first
              | (subst h2; simp [h1]; done)
              | (rw [if_pos h1, if_neg (by omega), if_neg (by omega), if_neg (by omega), if_neg (by omega), if_neg (by omega), if_neg (by omega), if_neg (by omega), if_pos (by omega)]; simp only [Prod.mk.injEq, true_and]; omega)
              | (rw [if_pos h1, if_neg (by omega), if_neg (by omega), if_neg (by omega), if_neg (by omega), if_neg (by omega), if_neg (by omega), if_neg (by omega), if_neg (by omega), if_pos (by omega)]; simp only [Prod.mk.injEq, true_and]; omega)))
theorem sm_fl_inj {c k i f f1 a j : Nat} (h : sm_fl c k i f = some (.inr (a, j))) (h1 : sm_fl c k i f1 = some (.inr (a, j))) : f = f1 := by
  unfold sm_fl at h h1
  split at h
  all_goals (simp only at h1)
  all_goals (try split at h)
  all_goals (try split at h1)
  all_goals (simp only [Option.some.injEq, Sum.inr.injEq, Prod.mk.injEq, reduceCtorEq] at h h1)
  all_goals omega
theorem sm_ow_a {c k t n r o s j : Nat} (hk : sm_ok c k 0) (h : sm_ar c k = some (t, n, r, o, s)) (hj : j < n) : sm_ow r (o + s * j) = (c, k, 0) := by
  unfold sm_ar at h
  split at h
  all_goals first
    | (cases h; done)
    | (simp only [Option.some.injEq, Prod.mk.injEq] at h
       obtain ⟨rfl, rfl, rfl, rfl, rfl⟩ := h
       simp only [sm_ok] at hk
       simp only [sm_ow]
       first
         | (obtain ⟨rfl, -⟩ := hk; rfl)
         | (obtain ⟨h1, -⟩ := hk
            first
              | (rw [if_pos h1, if_pos (by omega)]; done)
              | (rw [if_pos h1, if_neg (by omega), if_neg (by omega), if_neg (by omega), if_neg (by omega), if_neg (by omega), if_neg (by omega), if_neg (by omega), if_neg (by omega), if_neg (by omega), if_pos (by omega)]; done)
              | (rw [if_pos h1, if_neg (by omega), if_neg (by omega), if_neg (by omega), if_neg (by omega), if_neg (by omega), if_neg (by omega), if_neg (by omega), if_neg (by omega), if_neg (by omega), if_neg (by omega), if_pos (by omega)]; done)
              | (rw [if_pos h1, if_neg (by omega), if_neg (by omega), if_neg (by omega), if_neg (by omega), if_neg (by omega), if_neg (by omega), if_neg (by omega), if_neg (by omega), if_neg (by omega), if_neg (by omega), if_neg (by omega)]; done)
              | (repeat (first | rw [if_neg (by omega)] | rw [if_pos (by omega)])
                 simp only [Prod.mk.injEq, true_and, and_true]; omega)))
theorem sm_en_obj {G : sm_G} {M : sm_M} {c k i : Nat} (h : c ≤ 9) : sm_en G M c k i = .inr (c, (List.range (sm_nf c)).map (sm_fv G M c k i)) := by
  unfold sm_en; rw [if_pos h]
theorem sm_ar_hi {c k : Nat} {z : Nat × Nat × Nat × Nat × Nat} (h : sm_ar c k = some z) : ¬ c ≤ 9 := by
  unfold sm_ar at h
  split at h
  all_goals first
    | (cases h; done)
    | decide
theorem sm_en_arr {G : sm_G} {M : sm_M} {c k i t n r o s : Nat} (h : sm_ar c k = some (t, n, r, o, s)) : sm_en G M c k i = .inl (sm_ca G t, n, .inl (fun j => if j < n then M.1 r (o + s * j) else 0)) := by
  unfold sm_en; rw [if_neg (sm_ar_hi h), h]
theorem sm_fv_ne {G : sm_G} {M : sm_M} {c k i f a j : Nat} {x : Int32} (h : sm_fl c k i f ≠ some (.inr (a, j))) : sm_fv G (sm_st M a j x) c k i f = sm_fv G M c k i f := by
  unfold sm_fv
  cases hf : sm_fl c k i f with
  | none => rfl
  | some z =>
    rcases z with ⟨c1, k1, i1⟩ | ⟨a1, j1⟩
    · rfl
    · show Value.int _ = Value.int _
      congr 1
      show (if a1 = a ∧ j1 = j then x else M.1 a1 j1) = M.1 a1 j1
      rw [if_neg]
      rintro ⟨rfl, rfl⟩
      exact h hf
/-- a store elsewhere leaves a cell as it was -/
theorem sm_en_ne {G : sm_G} {M : sm_M} {c k i a j : Nat} {x : Int32} (hk : sm_ok c k i) (h : sm_ow a j ≠ (c, k, i)) : sm_en G (sm_st M a j x) c k i = sm_en G M c k i := by
  by_cases hc : c ≤ 9
  · rw [sm_en_obj hc, sm_en_obj hc]
    have : sm_fv G (sm_st M a j x) c k i = sm_fv G M c k i := by
      funext f
      exact sm_fv_ne fun hf => h (sm_ow_f hk hf)
    rw [this]
  · cases ha : sm_ar c k with
    | some z =>
      obtain ⟨t, n, r, o, s⟩ := z
      rw [sm_en_arr ha, sm_en_arr ha]
      have hi : i = 0 := by
        unfold sm_ar at ha
        split at ha
        all_goals first
          | (cases ha; done)
          | (simp only [sm_ok] at hk; exact hk.2)
      subst hi
      have : (fun q => if q < n then (sm_st M a j x).1 r (o + s * q) else 0) = (fun q => if q < n then M.1 r (o + s * q) else 0) := by
        funext q
        by_cases hq : q < n
        · rw [if_pos hq, if_pos hq]
          show (if r = a ∧ o + s * q = j then x else M.1 r (o + s * q)) = _
          rw [if_neg]
          rintro ⟨rfl, rfl⟩
          exact h (sm_ow_a hk ha hq)
        · rw [if_neg hq, if_neg hq]
      rw [this]
    | none => unfold sm_en; rw [if_neg hc, if_neg hc, ha]; rfl
theorem sm_Rep1.kept {G : sm_G} {M : sm_M} {H H1 : Heap} (h : sm_Rep1 G M H) (hq : ∀ c k i, sm_og G c k i → H1[sm_ad G c k i]? = H[sm_ad G c k i]?) : sm_Rep1 G M H1 := fun c k i hk => (h c k i hk).kept (hq c k i hk)
/-- one cell is written, one location changes -/
theorem sm_Rep1.put {G : sm_G} {M : sm_M} {H H1 : Heap} {c k i a j : Nat} {x : Int32} (hI : sm_Inj1 G) (h : sm_Rep1 G M H) (hk : sm_og G c k i) (hw : sm_ow a j = (c, k, i)) (he : va_at G.1 vwCl (sm_ad G c k i, sm_en G (sm_st M a j x) c k i) H1) (oq : ∀ q, q ≠ sm_ad G c k i → H1[q]? = H[q]?) : sm_Rep1 G (sm_st M a j x) H1 := by
  intro c1 k1 i1 hk1
  by_cases e : (c1, k1, i1) = (c, k, i)
  · simp only [Prod.mk.injEq] at e
    obtain ⟨rfl, rfl, rfl⟩ := e
    exact he
  · rw [sm_en_ne hk1.1 (fun q => e (q.symm.trans hw))]
    exact (h c1 k1 i1 hk1).kept (oq _ fun q => e (hI.1 _ _ _ _ _ _ hk1 hk q))
theorem sm_Rep.kept {G : sm_G} {M : sm_M} {H H1 : Heap} (h : sm_Rep G M H) (hq : ∀ c k i, sm_og G c k i → H1[sm_ad G c k i]? = H[sm_ad G c k i]?) (hr : ∀ c k i, sm_og (sm_up G) c k i → H1[sm_ad (sm_up G) c k i]? = H[sm_ad (sm_up G) c k i]?) : sm_Rep G M H1 := ⟨h.1.kept hq, h.2.kept hr⟩
theorem sm_um_st {M : sm_M} {a j : Nat} {x : Int32} (ha : a < 100) : sm_um (sm_st M a j x) = sm_um M := by
  unfold sm_um sm_st
  congr 1
  funext r q
  show (if r + 100 = a ∧ q = j then x else M.1 (r + 100) q) = M.1 (r + 100) q
  rw [if_neg (by omega)]
theorem sm_Rep.put {G : sm_G} {M : sm_M} {H H1 : Heap} {c k i a j : Nat} {x : Int32} (hI : sm_Inj G) (h : sm_Rep G M H) (hk : sm_og G c k i) (ha : a < 100) (hw : sm_ow a j = (c, k, i)) (he : va_at G.1 vwCl (sm_ad G c k i, sm_en G (sm_st M a j x) c k i) H1) (oq : ∀ q, q ≠ sm_ad G c k i → H1[q]? = H[q]?) : sm_Rep G (sm_st M a j x) H1 :=
  ⟨h.1.put hI.1 hk hw he oq, by rw [sm_um_st ha]; exact h.2.kept fun c1 k1 i1 h1 => oq _ (hI.2 _ _ _ _ _ _ hk h1)⟩
theorem sm_fl_100 {c k i f a j : Nat} (hk : sm_ok c k i) (h : sm_fl c k i f = some (.inr (a, j))) : a < 100 := by
  unfold sm_fl at h
  split at h
  all_goals (try split at h)
  all_goals first
    | (cases h; done)
    | (simp only [Option.some.injEq, Sum.inr.injEq, Prod.mk.injEq, reduceCtorEq] at h
       obtain ⟨rfl, rfl⟩ := h
       simp only [sm_ok] at hk
       omega)
theorem sm_ar_100 {c k i t n r o s : Nat} (hk : sm_ok c k i) (h : sm_ar c k = some (t, n, r, o, s)) : r < 100 := by
  unfold sm_ar at h
  split at h
  all_goals first
    | (cases h; done)
    | (simp only [Option.some.injEq, Prod.mk.injEq] at h
       obtain ⟨rfl, rfl, rfl, rfl, rfl⟩ := h
       simp only [sm_ok] at hk
       omega)
theorem sm_en_put {G : sm_G} {M : sm_M} {c k i f a j : Nat} {x : Int32} (hc : c ≤ 9) (hf : sm_fl c k i f = some (.inr (a, j))) : sm_en G (sm_st M a j x) c k i = .inr (c, ((List.range (sm_nf c)).map (sm_fv G M c k i)).set f (.int x)) := by
  rw [sm_en_obj hc]
  congr 2
  apply List.ext_getElem?
  intro q
  by_cases hq : q < sm_nf c
  · rw [List.getElem?_map, List.getElem?_range hq, List.getElem?_set]
    by_cases e : f = q
    · subst e
      simp [hq, sm_fv, hf, sm_st]
    · rw [if_neg e, List.getElem?_map, List.getElem?_range hq]
      show some _ = some _
      rw [sm_fv_ne fun h1 => e (sm_fl_inj hf h1)]
  · rw [List.getElem?_eq_none (by simp; omega), List.getElem?_eq_none (by simp; omega)]
theorem sm_en_put_a {G : sm_G} {M : sm_M} {c k i t n r o s j : Nat} {x : Int32} (ha : sm_ar c k = some (t, n, r, o, s)) (hs : 0 < s) (hj : j < n) : sm_en G (sm_st M r (o + s * j) x) c k i = .inl (sm_ca G t, n, .inl (upd (fun q => if q < n then M.1 r (o + s * q) else 0) j x)) := by
  rw [sm_en_arr ha]
  congr 3
  apply congrArg
  funext q
  by_cases hq : q < n
  · rw [if_pos hq]
    show (if r = r ∧ o + s * q = o + s * j then x else M.1 r (o + s * q)) = (if q = j then x else if q < n then M.1 r (o + s * q) else 0)
    rw [if_pos hq]
    by_cases e : q = j
    · rw [if_pos e, if_pos ⟨rfl, by rw [e]⟩]
    · rw [if_neg e, if_neg]
      rintro ⟨-, e2⟩
      exact e (Nat.eq_of_mul_eq_mul_left hs (by omega))
  · rw [if_neg hq]
    show _ = (if q = j then x else if q < n then M.1 r (o + s * q) else 0)
    rw [if_neg (by omega), if_neg hq]
