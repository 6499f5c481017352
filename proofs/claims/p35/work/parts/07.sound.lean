/-! SOUNDNESS: library copies, throws, catches; one step; all steps; contracts -/
theorem sm_arrV_congr {cA : ClassId} {n : Nat} {f g : Nat → Int32} (h : ∀ j, j < n → f j = g j) : vp_cell cA (n, .inl f) = vp_cell cA (n, .inl g) := by
  rw [vp_cell_i, vp_cell_i]
  unfold arrV
  congr 1
  apply Array.ext_getElem?
  intro q
  simp only [Array.getElem?_ofFn]
  split
  · rename_i hq
    simp [h q hq]
  · rfl
theorem sm_en_same {G : sm_G} {M M1 : sm_M} {c k i : Nat} {N : sm_N} (hk : sm_ok c k i) (hn : N ≠ (c, k, i)) (h : ∀ a j, sm_ow a j ≠ N → M1.1 a j = M.1 a j) (h2 : M1.2 = M.2) : sm_en G M1 c k i = sm_en G M c k i := by
  by_cases hc : c ≤ 9
  · rw [sm_en_obj hc, sm_en_obj hc]
    have : sm_fv G M1 c k i = sm_fv G M c k i := by
      funext f
      unfold sm_fv
      cases hf : sm_fl c k i f with
      | none => rfl
      | some z =>
        rcases z with ⟨c1, k1, i1⟩ | ⟨a1, j1⟩
        · rfl
        · show Value.int _ = Value.int _
          rw [h a1 j1 (by rw [sm_ow_f hk hf]; exact fun q => hn q.symm)]
    rw [this]
  · cases ha : sm_ar c k with
    | some z =>
      obtain ⟨t, n, r, o, s⟩ := z
      rw [sm_en_arr ha, sm_en_arr ha]
      have hi : i = 0 := by
        unfold sm_ar at ha
        split at ha
        all_goals first
          | (cases ha; done)
          | (simp only [sm_ok] at hk; exact hk.2)
      subst hi
      have : (fun q => if q < n then M1.1 r (o + s * q) else 0) = (fun q => if q < n then M.1 r (o + s * q) else 0) := by
        funext q
        by_cases hq : q < n
        · rw [if_pos hq, if_pos hq, h _ _ (by rw [sm_ow_a hk ha hq]; exact fun q => hn q.symm)]
        · rw [if_neg hq, if_neg hq]
      rw [this]
    | none => unfold sm_en; rw [if_neg hc, if_neg hc, ha, h2]
section SMS
variable {p : Program} {l : Launch} {e : Env} {R : Room} {s : State} {m : MethodId} {args : Array Value} {below : List Frame} {meth : Method} {c0 : Code} {Q : State → Prop} {G : sm_G} {nL : Nat}
variable {cc : ByteArray} {b pc : Nat} {M : sm_M} {ls : sm_L} {r : List sm_V} {own : String}
theorem sd_max (hx : p.tables.exec = Jvm.exec) (hb : c0.code = cc) (hml : c0.maxLocals = nL) (hts : ∀ w ∈ sm_W, w.before args s = true) (hown : s.vm.findClass own = some m.cls) {idx : Nat} (hlk : Cond.methodLink own idx Lib.Math.max.name ∈ sm_W) (hw : Cond.static Lib.Math.max.name ∈ sm_W ∧ Cond.initialized "java/lang/Math" ∈ sm_W ∧ Cond.code Lib.Math.max.name Lib.Math.max.code 2 (some .int) ∈ sm_W) (hR : 1 ≤ R.frames ∧ 100 ≤ R.locals) (hr4 : r.length ≤ 4) {x y : Int32} (hd : decode cc pc = .ok (.invokestatic idx, 3))
    (kk : sm_Go p l e R s m args below meth c0 Q G nL (b, pc + 3, M, ls, .inl (if x < y then y else x) :: r)) : sm_Go p l e R s m args below meth c0 Q G nL (b, pc, M, ls, .inl y :: .inl x :: r) := fun H locs LS cells slots h =>
  va_mmax hx hb (hml.trans h.2.2.1.2.1.symm) hown (hts _ hlk) (hts _ hw.1) (hts _ hw.2.1) (hts _ hw.2.2) hR.1 (by have := sm_cat_sum (G := G) r; omega) (by have := h.2.2.2.2.2.1; simp only at this; omega) (by have := h.2.2.2.2.2.2; simp only at this; omega) hd (kk H locs LS cells slots (h.to fun q => sm_okl_cons.mpr ⟨trivial, (sm_okl_cons.mp (sm_okl_cons.mp q).2).2⟩))
/-- System.arraycopy between rows of ints, with what stays -/
theorem sm_copyi {D : va_G} {cl : List vw_C} {H : Heap} {locs : List Loc} {cells slots : Nat} {LS : Array Slot} {rest : List Value} (hexec : p.tables.exec = Jvm.exec) (hb : c0.code = cc) (hml : c0.maxLocals = LS.size) {index : Nat} (hown : s.vm.findClass own = some m.cls) (hlink : (Cond.methodLink own index arraycopyName).before args s = true) (hnat : (Cond.native arraycopyName).before args s = true) (hstat : (Cond.static arraycopyName).before args s = true) (hini : (Cond.initialized "java/lang/System").before args s = true)
    {a a0 : Nat} {cA : ClassId} {n0 n1 : Nat} {f g : Nat → Int32} (hA : ArrOfT s cA .int) (ha0 : va_at D cl (a0, .inl (cA, n0, .inl f)) H) (ha1 : va_at D cl (a, .inl (cA, n1, .inl g)) H)
    {sp dp n : Int32} (h1 : ¬ sp < 0) (h2 : ¬ dp < 0) (h3 : ¬ n < 0) (h4 : sp.toNatClampNeg + n.toNatClampNeg ≤ n0) (h5 : dp.toNatClampNeg + n.toNatClampNeg ≤ n1)
    (hframes : 1 ≤ R.frames) (hlocals : (rest.map fun v => v.category).sum + 18 ≤ R.locals) (hdg : decode cc pc = .ok (.invokestatic index, 3))
    (kk : ∀ (H1 : Heap) (locs1 : List Loc), H1[a]? = some (vp_cell cA (n1, .inl (va_cpy f g sp.toNatClampNeg dp.toNatClampNeg n.toNatClampNeg))) → H1.size = H.size → (∀ q, q ≠ a → H1[q]? = H[q]?) → (∀ q ∈ locs1, q ∈ locs ∨ q.base = a) → W p l e R s m args below meth c0 H1 locs1 cells slots Q (F0 m (pc + 3) LS rest)) : W p l e R s m args below meth c0 H locs cells slots Q (F0 m pc LS (.int n :: .int dp :: .ref a :: .int sp :: .ref a0 :: rest)) := by
  have nn : ∀ z : Int32, ¬ z < 0 → z.toInt = (z.toNatClampNeg : Int) := by
    intro z hz
    have hz0 : (0 : Int) ≤ z.toInt := by
      have := Int32.not_lt.mp hz
      simpa using Int32.le_iff_toInt_le.mp this
    show z.toInt = ((z.toInt.toNat : Nat) : Int)
    omega
  intro T hT X
  have hc0 : H[a0]? = some (vp_cell cA (n0, .inl f)) := ha0
  have hc1 : H[a]? = some (vp_cell cA (n1, .inl g)) := ha1
  obtain ⟨-, k0, hk0, cm0, hkk0⟩ := hA n0 (fun j => .int (f j))
  obtain ⟨-, k1, hk1, cm1, hkk1⟩ := hA n1 (fun j => .int (g j))
  obtain ⟨vm', X', step⟩ := X.arraycopy hexec hown hlink hnat hstat hini (src := a0) (dst := a) (cs := vp_cell cA (n0, .inl f)) (cd := vp_cell cA (n1, .inl g)) (srcPos := sp) (destPos := dp) (n := n) (by rw [hT]; exact hc0) (by rw [hT]; exact hc1)
    (fun _ h => by cases h) (fun _ h => by cases h) (fun h => by cases h) (fun h => by cases h) hk0 hk1 hkk0 hkk1 (by simp [refKind]) h1 h2 h3
    (by rw [nn sp h1, nn n h3]; show ¬ _ > ((arrV cA n0 (fun j => .int (f j))).slots.size : Int); rw [arrV_size]; omega)
    (by rw [nn dp h2, nn n h3]; show ¬ _ > ((arrV cA n1 (fun j => .int (g j))).slots.size : Int); rw [arrV_size]; omega)
    (fun vm₁ _ i hi => by
      have e : (vp_cell cA (n0, .inl f)).slots.getD (sp.toNatClampNeg + i) .null = .int (f (sp.toNatClampNeg + i)) := by
        show (arrV cA n0 (fun j => .int (f j))).slots.getD _ _ = _
        rw [Array.getD_eq_getD_getElem?, arrV_read _ _ (by omega)]
        rfl
      refine ⟨?_, ?_⟩
      · rw [e]
        rfl
      · rw [e]
        exact trivial)
    (g := F0 m pc LS (.int n :: .int dp :: .ref a :: .int sp :: .ref a0 :: rest)) rfl (by rw [hml]) (rest := rest) rfl (by rw [hb]; exact hdg) hframes (by show 2 * 0 + _ + (7 + 11) ≤ _; omega)
  have e1 : copied (vp_cell cA (n0, .inl f)) (vp_cell cA (n1, .inl g)) sp dp n = vp_cell cA (n1, .inl (va_cpy f g sp.toNatClampNeg dp.toNatClampNeg n.toNatClampNeg)) := va_copied (fun z => .int z) cA cA f g h4
  rw [e1] at X' step
  have hl : a < H.size := (Array.getElem?_eq_some_iff.mp hc1).1
  have hheap : ((T.setVm vm').setCell a (vp_cell cA (n1, .inl (va_cpy f g sp.toNatClampNeg dp.toNatClampNeg n.toNatClampNeg)))).heap = H.setIfInBounds a (vp_cell cA (n1, .inl (va_cpy f g sp.toNatClampNeg dp.toNatClampNeg n.toNatClampNeg))) := by rw [← hT]; rfl
  have oq : ∀ q : Nat, q ≠ a → (H.setIfInBounds a (vp_cell cA (n1, .inl (va_cpy f g sp.toNatClampNeg dp.toNatClampNeg n.toNatClampNeg))))[q]? = H[q]? := fun q hq => by simp [Array.getElem?_setIfInBounds, Ne.symm hq]
  obtain ⟨t, a1, b1⟩ := kk _ _ (show (H.setIfInBounds a _)[a]? = some _ by simp [Array.getElem?_setIfInBounds, hl]) (by simp) oq (fun q hq => by
      rcases List.mem_append.mp hq with h | h
      · exact Or.inl h
      · obtain ⟨z, -, hz⟩ := List.mem_map.mp h
        right
        rw [← hz]) _ hheap X'
  exact ⟨t, step t a1, b1⟩
theorem sd_copy (hx : p.tables.exec = Jvm.exec) (hb : c0.code = cc) (hml : c0.maxLocals = nL) (hts : ∀ w ∈ sm_W, w.before args s = true) (hown : s.vm.findClass own = some m.cls) (hW : sm_Wd G s) (hI : sm_Inj G) {idx : Nat} (hlk : Cond.methodLink own idx arraycopyName ∈ sm_W) (hw : Cond.native arraycopyName ∈ sm_W ∧ Cond.static arraycopyName ∈ sm_W ∧ Cond.initialized "java/lang/System" ∈ sm_W) (hR : 1 ≤ R.frames ∧ 100 ≤ R.locals) (hr4 : r.length ≤ 4) {c k c2 k2 : Nat} {sp dp n : Int32} {M1 : sm_M} (hc : sm_co M c k sp c2 k2 dp n = some M1) (hd : decode cc pc = .ok (.invokestatic idx, 3))
    (kk : sm_Go p l e R s m args below meth c0 Q G nL (b, pc + 3, M1, ls, r)) : sm_Go p l e R s m args below meth c0 Q G nL (b, pc, M, ls, .inl n :: .inl dp :: .inr (.inr (c2, k2, 0)) :: .inl sp :: .inr (.inr (c, k, 0)) :: r) := fun H locs LS cells slots h => by
  unfold sm_co at hc
  split at hc
  · rename_i n0 r0 o0 s0 n1 r1 o1 s1 ha0 ha1
    unfold sm_g at hc
    split at hc
    · rename_i hg
      obtain ⟨g1, g2, g3, g4, g5⟩ := hg
      cases hc
      have hq1 := sm_okl_cons.mp (sm_okl_cons.mp (sm_okl_cons.mp h.2.2.2.2.1).2).2
      have hq2 := sm_okl_cons.mp (sm_okl_cons.mp hq1.2).2
      have hok2 := sm_okv_arr ha1 hq1.1
      have hok1 := sm_okv_arr ha0 hq2.1
      have hat1 := h.1.1 c2 k2 0 hok2
      have hat0 := h.1.1 c k 0 hok1
      rw [sm_en_arr ha1] at hat1
      rw [sm_en_arr ha0] at hat0
      have hs1 := (sm_ar_s ha1).1
      refine sm_copyi hx hb (hml.trans h.2.2.1.2.1.symm) hown (hts _ hlk) (hts _ hw.1) (hts _ hw.2.1) (hts _ hw.2.2) (hW.1.2 0 _ (sm_tyget G).1).1 hat0 hat1 g1 g2 g3 g4 g5 hR.1 (by have := sm_cat_sum (G := G) r; omega) hd fun H1 locs1 e1 e2 e3 e4 => ?_
      have hdiv : ∀ q, (o1 + s1 * q - o1) / s1 = q := fun q => by rw [Nat.add_sub_cancel_left]; exact Nat.mul_div_cancel_left _ hs1
      have hmod : ∀ q, (o1 + s1 * q - o1) % s1 = 0 := fun q => by rw [Nat.add_sub_cancel_left]; exact Nat.mul_mod_right _ _
      have hout : ∀ a j, sm_ow a j ≠ (c2, k2, 0) → (sm_cp M r0 o0 s0 sp.toNatClampNeg r1 o1 s1 dp.toNatClampNeg n.toNatClampNeg).1 a j = M.1 a j := by
        intro a j hne
        show (if _ then _ else _) = _
        rw [if_neg]
        rintro ⟨rfl, q1, q2, q3⟩
        apply hne
        obtain ⟨z, hz⟩ : ∃ z, j = o1 + s1 * z := ⟨(j - o1) / s1, by have := Nat.div_add_mod (j - o1) s1; rw [q3] at this; omega⟩
        rw [hz] at q2 ⊢
        have : z < dp.toNatClampNeg + n.toNatClampNeg := Nat.lt_of_mul_lt_mul_left (a := s1) (by omega)
        exact sm_ow_a hok2.1 ha1 (by omega)
      refine kk H1 locs1 LS cells slots ⟨⟨fun c9 k9 i9 hk9 => ?_, ?_⟩, ⟨by rw [e2]; exact h.2.1.1, fun q z1 z2 => ?_, fun q hq => ?_⟩, h.2.2.1, h.2.2.2.1, hq2.2, h.2.2.2.2.2⟩
      · by_cases hn9 : (c2, k2, 0) = (c9, k9, i9)
        · simp only [Prod.mk.injEq] at hn9
          obtain ⟨rfl, rfl, rfl⟩ := hn9
          rw [sm_en_arr ha1]
          refine e1.trans (congrArg some (sm_arrV_congr fun j hj => ?_))
          show (if _ then _ else _) = (if _ then (if _ then _ else _) else _)
          rw [if_pos hj]
          by_cases hz : dp.toNatClampNeg ≤ j ∧ j < dp.toNatClampNeg + n.toNatClampNeg
          · rw [if_pos hz, if_pos ⟨rfl, by have := Nat.mul_le_mul_left s1 hz.1; omega, by have := Nat.mul_lt_mul_of_pos_left hz.2 hs1; omega, hmod j⟩, hdiv]
            show (if _ then _ else _) = _
            rw [if_pos (by omega)]
          · rw [if_neg hz]
            show (if _ then _ else _) = _
            rw [if_pos hj, if_neg]
            rintro ⟨-, z1, z2, -⟩
            exact hz ⟨Nat.le_of_mul_le_mul_left (c := s1) (by omega) hs1, Nat.lt_of_mul_lt_mul_left (a := s1) (by omega)⟩
        · rw [sm_en_same hk9.1 hn9 hout rfl]
          exact (h.1.1 c9 k9 i9 hk9).kept (e3 _ fun q => hn9 (hI.1.1 _ _ _ _ _ _ hk9 hok2 q).symm)
      · have hu : sm_um (sm_cp M r0 o0 s0 sp.toNatClampNeg r1 o1 s1 dp.toNatClampNeg n.toNatClampNeg) = sm_um M := by
          have h100 := sm_ar_100 hok2.1 ha1
          unfold sm_um sm_cp
          congr 1
          funext r9 q9
          exact if_neg (fun z => by have := z.1; omega)
        show sm_Rep1 (sm_up G) (sm_um (sm_cp M r0 o0 s0 sp.toNatClampNeg r1 o1 s1 dp.toNatClampNeg n.toNatClampNeg)) H1
        rw [hu]
        exact h.1.2.kept fun c9 k9 i9 h9 => e3 _ (hI.2 _ _ _ _ _ _ hok2 h9)
      · rw [e3 q fun z => z2 (by rw [z]; exact Or.inl ⟨c2, k2, 0, hok2, rfl⟩)]
        exact h.2.1.2.1 q z1 z2
      · rcases e4 q hq with z | z
        · exact h.2.1.2.2 q z
        · rw [z]; exact Or.inl ⟨c2, k2, 0, hok2, rfl⟩
    · cases hc
  · cases hc
/-- what the tables must be -/
def sm_Xt (own : String) (cc : ByteArray) (pc x : Nat) : Prop := own = "SnowGuns" ∧ ∃ (ik is ic : Nat) (tx : String), Cond.classLink own ik (sm_en9 x) ∈ sm_W ∧ Cond.initialized (sm_en9 x) ∈ sm_W ∧ (is, tx) ∈ sm_strs ∧ (∀ w ∈ vx_atS own ic (sm_en9 x) sm_xn, w ∈ sm_W ∨ w = Cond.castable (sm_en9 x) (sm_en9 x) ∨ ∃ Y ∈ sm_xd, w = Cond.declares (Bundle.initS Y)) ∧ (∀ w ∈ Cond.classLink own ik (sm_en9 x) :: Cond.initialized (sm_en9 x) :: vx_atS own ic (sm_en9 x) sm_xn, vx_ot w = true) ∧
  decode cc pc = .ok (.new ik, 3) ∧ decode cc (pc + 3) = .ok (.dup, 1) ∧ ((decode cc (pc + 4) = .ok (.ldc is, 2) ∧ decode cc (pc + 6) = .ok (.invokespecial ic, 3) ∧ decode cc (pc + 9) = .ok (.athrow, 1)) ∨ (decode cc (pc + 4) = .ok (.ldc_w is, 3) ∧ decode cc (pc + 7) = .ok (.invokespecial ic, 3) ∧ decode cc (pc + 10) = .ok (.athrow, 1)))
theorem sd_throw {o : sm_O} {x mc ms : Nat} (hx : p.tables.exec = Jvm.exec) (hb : c0.code = cc) (hml : c0.maxLocals = nL) (hfl : l.stackTraces = false) (hts : ∀ w ∈ sm_W, w.before args s = true) (hown : s.vm.findClass own = some m.cls) (hWf : sm_Wf G s) (hlocks : meth.locks = false) (hnt : ∀ x ∈ c0.exceptionTable.toList, False) (hR : 6 ≤ R.frames ∧ 100 ≤ R.locals) (hmc : R.cells ≤ mc ∧ R.slots ≤ ms) (hr4 : r.length ≤ 4) (hb1 : 1 ≤ b) (ho : o = (M, .error x)) (hX : sm_Xt own cc pc x) :
    sm_Go p l e R s m args below meth c0 (vx_MQ below (sm_Qc G o) (sm_XC G o) args s mc ms (sm_A G)) G nL (b, pc, M, ls, r) := fun H locs LS cells slots h => by
  obtain ⟨hown9, ik, is, ic, tx, w1, w2, w3, w4, w5, d0, d3, hd⟩ := hX
  subst hown9
  have hc : cells + b ≤ R.cells := h.2.2.2.2.2.1
  have hs : slots + 6 * b ≤ R.slots := h.2.2.2.2.2.2
  obtain ⟨sa, hsa⟩ := hWf.2.2.2.1 _ w3
  have hfit : Bundle.fit (sm_en9 x) = true := by unfold sm_en9; split <;> decide +kernel
  have hnames : ∀ n ∈ sm_xn, Bundle.fit n = true := by decide +kernel
  have hat : ∀ w ∈ vx_atS "SnowGuns" ic (sm_en9 x) sm_xn, w.before args s = true := fun w hw => by
    rcases w4 w hw with q | q | ⟨Y, hY, q⟩
    · exact hts w q
    · rw [q]; exact (hWf.2.1 x).word
    · rw [q]; exact va_any rfl (hWf.2.2.2.2.1 Y hY)
  have hcat := sm_cat_sum (G := G) r
  have hXC : ∀ t : State, s.vm.Alike t.vm → H.size ≤ t.heap.size → (∀ q : Nat, q < H.size → t.heap[q]? = H[q]?) → sm_XC G o (sm_en9 x) s t := fun t _ hz hq =>
    ⟨x, by rw [ho], rfl, by rw [ho]; exact h.1.kept (fun c k i hk => hq _ (h.1.1 c k i hk).lt) (fun c k i hk => hq _ (h.1.2 c k i hk).lt), ⟨Nat.le_trans h.2.1.1 hz, fun q q1 q2 => by rw [hq q (Nat.lt_of_lt_of_le q1 h.2.1.1)]; exact h.2.1.2.1 q q1 q2⟩⟩
  rcases hd with ⟨d4, d6, d9⟩ | ⟨d4, d7, d10⟩
  · exact vx_throwS hx hb hfl hown hfit hnames (hts _ w1) (hts _ w2) hsa hat w5 hWf.1.2.2.2.1 hWf.1.2.2.2.2 h.2.1 (h.2.2.1.2.1.trans hml.symm) d0 d3 d4 d6 d9 (fun z hz => (hnt z hz).elim) (by show 2 + 3 < _; omega) (by show _ + (13 * (2 + 1) + 43) ≤ _; show ((r.map (sm_c G)).map fun v => v.category).sum + _ ≤ _; omega) (by omega) (by omega) hlocks hXC h.2.1.2.2 (by omega) (by omega)
  · exact vx_throwSW hx hb hfl hown hfit hnames (hts _ w1) (hts _ w2) hsa hat w5 hWf.1.2.2.2.1 hWf.1.2.2.2.2 h.2.1 (h.2.2.1.2.1.trans hml.symm) d0 d3 d4 d7 d10 (fun z hz => (hnt z hz).elim) (by show 2 + 3 < _; omega) (by show _ + (13 * (2 + 1) + 43) ≤ _; show ((r.map (sm_c G)).map fun v => v.category).sum + _ ≤ _; omega) (by omega) (by omega) hlocks hXC h.2.1.2.2 (by omega) (by omega)
/-- a handler's row -/
def sm_Hn (own : String) (cc : ByteArray) (tbl : List ExceptionTableEntry) (pc x pc1 k nL : Nat) : Prop := ∃ (pre : List ExceptionTableEntry) (z : ExceptionTableEntry) (suf : List ExceptionTableEntry), tbl = pre ++ z :: suf ∧ (∀ q ∈ pre, covers q pc = false ∨ (q.catchType ≠ 0 ∧ ∃ x1, sm_en9 x ≠ sm_en9 x1 ∧ Cond.classLink own q.catchType (sm_en9 x1) ∈ sm_W)) ∧ covers z pc = true ∧ z.catchType ≠ 0 ∧ Cond.classLink own z.catchType (sm_en9 x) ∈ sm_W ∧ k < nL ∧
  ((∃ i : Fin 4, (i : Nat) = k ∧ decode cc z.handlerPc = .ok (.astore_n i, 1) ∧ pc1 = z.handlerPc + 1) ∨ (decode cc z.handlerPc = .ok (.astore k, 2) ∧ pc1 = z.handlerPc + 2))
theorem sd_catch {x pc1 k : Nat} (hx : p.tables.exec = Jvm.exec) (hb : c0.code = cc) (hts : ∀ w ∈ sm_W, w.before args s = true) (hown : s.vm.findClass own = some m.cls) (hWf : sm_Wf G s) (hH : sm_Hn own cc c0.exceptionTable.toList pc x pc1 k nL) (hk : sm_lk ls k = true) (kk : sm_Go p l e R s m args below meth c0 Q G nL (b, pc1, M, ls.set k none, [])) : sm_GoX p l e R s m args below meth c0 Q G nL (b, pc, M, ls, r) x := fun H locs LS cells slots q ce h hce hcv hcl => by
  obtain ⟨pre, z, suf, t1, t2, t3, t4, t5, t6, t7⟩ := hH
  refine vx_catch hown pre z suf t1 (fun y hy => (t2 y hy).imp id fun ⟨h0, x1, h1, h2⟩ => ⟨h0, _, hts _ h2, hWf.2.2.1 _ _ h1⟩) t3 t4 (hts _ t5) (hWf.2.1 x).word hce hcv hcl ?_
  have key : ∀ LS1 : Array Slot, lv_has LS1 nL ((k, .ref q) :: (sm_al G ls).filter (fun y => !(y.1 == k) && !(y.1 + 1 == k && y.2.category == 2))) → sm_LR G LS1 nL (ls.set k none) := by
    intro LS1 h1
    refine ⟨by rw [List.length_set]; exact h.2.2.1.1, h1.1, h1.2.1, fun j w hj => ?_⟩
    have hne : k ≠ j := fun e => by
      have := sm_lg_of hj
      rw [List.getElem?_set, if_pos e] at this
      split at this <;> cases this
    have hj2 := sm_lg_none hj
    refine h1.2.2 (j, sm_c G w) (List.mem_cons_of_mem _ (List.mem_filter.mpr ⟨sm_al_mem hj2, ?_⟩))
    have e1 : (j == k) = false := by simpa using fun q => hne q.symm
    simp only [e1, Bool.not_false, Bool.true_and, Bool.not_eq_true', Bool.and_eq_false_iff, beq_eq_false_iff_ne, ne_eq]
    by_cases e2 : j + 1 = k
    · right
      intro h2
      have := sm_lk_no hk hj2 e2
      rw [sm_cat2 h2] at this
      cases this
    · exact Or.inl e2
  rcases t7 with ⟨i, hi, d, rfl⟩ | ⟨d, rfl⟩
  · exact lv_astore_n hx hb d hi h.2.2.1.has t6 rfl fun LS1 hl1 => kk H locs LS1 cells slots ⟨h.1, h.2.1, key LS1 hl1, h.2.2.2.1.non, sm_okl_nil.mpr trivial, h.2.2.2.2.2⟩
  · exact lv_astore hx hb d h.2.2.1.has t6 rfl fun LS1 hl1 => kk H locs LS1 cells slots ⟨h.1, h.2.1, key LS1 hl1, h.2.2.2.1.non, sm_okl_nil.mpr trivial, h.2.2.2.2.2⟩
end SMS
