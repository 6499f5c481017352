/-! THE START: what stands all the while, put together -/
section Z76
variable {s : State} {args : Array Value}
theorem st_s1 : ∀ q ∈ sm_strs, Cond.stringRef "SnowGuns" q.1 q.2 ∈ lw_tbl := by decide +kernel
theorem st_s2 : ∀ q ∈ sm_strs, Cond.exactly (Term.string "SnowGuns" q.1) "java/lang/String" ∈ flatC (Jvm.Cond.and given_1 narrow_1) := by decide +kernel
theorem st_str (hts : ∀ w ∈ lw_tbl, w.before args s = true) (hgv : (Jvm.Cond.and given_1 narrow_1).before args s = true) : ∀ q ∈ sm_strs, ∃ a, vk_R "SnowGuns" q.1 q.2 a s := fun q hq => by
  have hs := flat_of_before _ hgv
  obtain ⟨a, c, cA, kA, q1, -⟩ := Cond.exactly_spec (args := args) (first := s) (o := none) (s := s) (idx := []) (t := .string "SnowGuns" q.1) (cls := "java/lang/String") (hs _ (st_s2 q hq))
  exact ⟨a, vk_R.of (hts _ (st_s1 q hq)) q1⟩
theorem st_62 {D : va_G} {ca : Nat → ClassId} {N0 b t : Nat} {xs : Nat → Nat → Nat → Prop} {sc : Nat × (Nat → Int32)} : sm_ad (al_GG D ca N0 b t xs sc) 62 0 0 = t := by
  show (if (62 : Nat) = 61 then b else if (62 : Nat) = 62 then t else if (62 : Nat) < 100 then N0 + al_of 62 0 0 else N0 + 486 + al_of (62 - 100) 0 0) = t
  rw [if_neg (by decide), if_pos rfl]
theorem st_61 {D : va_G} {ca : Nat → ClassId} {N0 b t : Nat} {xs : Nat → Nat → Nat → Prop} {sc : Nat × (Nat → Int32)} : sm_ad (al_GG D ca N0 b t xs sc) 61 0 0 = b := by
  show (if (61 : Nat) = 61 then b else if (61 : Nat) = 62 then t else if (61 : Nat) < 100 then N0 + al_of 61 0 0 else N0 + 486 + al_of (61 - 100) 0 0) = b
  rw [if_pos rfl]
theorem st_wf (hts : ∀ w ∈ lw_tbl, w.before args s = true) (hgv : (Jvm.Cond.and given_1 narrow_1).before args s = true) : ∃ (D : va_G) (ca : Nat → ClassId) (t : Nat), ∀ (b L : Nat) (f : Nat → Int32) (N0 : Nat) (xs : Nat → Nat → Nat → Prop), s.heap.size ≤ N0 → va_X b L f s s.heap → b < s.heap.size → al_Wf s.heap.size (al_GG D ca N0 b t xs (L, f)) s := by
  obtain ⟨ca, hca⟩ := st_ca hts
  obtain ⟨dC, dI, hkn⟩ := st_kn hts
  obtain ⟨t, hT, hZ⟩ := st_most hts hgv
  obtain ⟨hz1, hz2⟩ := st_zq hts hgv
  refine ⟨(dC, dI), ca, t, fun b L f N0 xs hN hX hbl => ⟨⟨⟨hkn, hca⟩, ?_, ?_, hz1, hz2, ?_⟩, st_ce hts, st_nc hgv, st_str hts hgv, st_xd hts, st_nw hts⟩⟩
  · rw [st_62]; exact hT
  · rw [st_62]; exact hZ
  · obtain ⟨scr, h1, h2, h3, h4, h5⟩ := hX
    rw [st_61]
    show va_T .int b L (fun j => .int (f j)) (fun q => s.heap.size ≤ q) s s.heap
    exact ⟨scr, h1, h2, h3, by omega, by rw [h4], h5, fun z => by have z : s.heap.size ≤ b := z; omega⟩
theorem law_nl {T : sm_T} {b pc : Nat} {M : sm_M} {ls : sm_L} {st : List sm_V} {M1 : sm_M} {x : Int32} (h : sm_ex T (b, pc, M, ls, st) = some (.inr (M1, .ok (some (.inl x))))) : sm_tab T pc ≠ some (.lreturn, 1) := fun ht => by
  unfold sm_ex at h
  simp only [ht] at h
  replace h := sm_g_some h; obtain ⟨-, h⟩ := h
  split at h
  · replace h := sm_g_some h; obtain ⟨hk, h⟩ := h
    cases Sum.inr.inj (Option.some.inj h)
  · cases h
theorem law_na {T : sm_T} {b pc : Nat} {M : sm_M} {ls : sm_L} {st : List sm_V} {M1 : sm_M} {x : Int32} (h : sm_ex T (b, pc, M, ls, st) = some (.inr (M1, .ok (some (.inl x))))) : sm_tab T pc ≠ some (.areturn, 1) := fun ht => by
  unfold sm_ex at h
  simp only [ht] at h
  replace h := sm_g_some h; obtain ⟨-, h⟩ := h
  split at h
  · replace h := sm_g_some h; obtain ⟨hk, h⟩ := h
    cases Sum.inr.inj (Option.some.inj h)
  · cases h
end Z76
section Y76
variable {p : Program} {l : Launch} {e : Env} {R : Room} {s : State} {m : MethodId} {args : Array Value} {below : List Frame} {meth : Method} {c0 : Code} {Q : State → Prop} {G : sm_G} {nL : Nat}
variable {cc : ByteArray} {own : String} {pc : Nat} {A : Nat → Prop} {st st0 : List Value} {cells slots : Nat} {H : Heap} {locs : List Loc} {LS : Array Slot}
/-- an object more -/
theorem st_new (hx : p.tables.exec = Jvm.exec) (hb : c0.code = cc) (hts : ∀ w ∈ sm_W, w.before args s = true) (hown : s.vm.findClass own = some m.cls) (hK : va_K G.1 vwCl (sm_tys G) s) {ci index n : Nat} (hci : ci ≤ 9) (hw : Cond.classLink own index (sm_kl ci).1 ∈ sm_W ∧ Cond.instantiable (sm_kl ci).1 (sm_kl ci).2.2 ∈ sm_W ∧ Cond.initialized (sm_kl ci).1 ∈ sm_W) {fs : List Value} (hfs : ∀ j, j < sm_nf ci → defaultValue (sm_ty ci j) = vp_V fs j) (hcells : cells + 1 ≤ R.cells) (hslots : slots + sm_nf ci ≤ R.slots) (hd : decode cc pc = .ok (.new index, 3)) (h1 : H.size = n) (h3 : va_S A s.heap H locs)
    (kk : ∀ H1 : Heap, H1.size = n + 1 → (∀ q, q < n → H1[q]? = H[q]?) → va_at G.1 vwCl (n, .inr (ci, fs)) H1 → va_S A s.heap H1 locs → W p l e R s m args below meth c0 H1 locs (cells + 1) (slots + sm_nf ci) Q (F0 m (pc + 3) LS (.ref n :: st))) : W p l e R s m args below meth c0 H locs cells slots Q (F0 m pc LS st) := by
  have hc := sm_kl_get hci
  have hN := sm_11 sm_kl_n hci
  have hin := sm_11 sm_kl_in hci
  have hty := sm_11 sm_kl_ty hci
  have hKn := hK.1 ci _ hc
  refine W.newcK hx hb hown (hts _ hw.1) (hts _ hw.2.1) (hts _ hw.2.2) rfl hd hcells (by rw [hN]; exact hslots) hKn.2.1 h1 fun H1 kC hkC e1 z1 o1 => ?_
  rw [hN]
  exact kk H1 z1 o1 ⟨_, hc, (u_born (fun k => sm_ty ci k) hts hin hKn hkC e1 (fun k hk => hty k (by rw [← hN]; exact hk))).to (fun j hj => hfs j (by rw [← hN]; exact hj))⟩ ⟨Nat.le_trans h3.1 (by omega), fun x g1 g2 => (o1 x (by have := h3.1; omega)).trans (h3.2.1 x g1 g2), h3.2.2⟩
/-- behind a constructor that says what the heap holds -/
theorem st_bk9 {q0 nn mc ms : Nat} {B : Heap → Prop} {a : Array Value} {free : Addr → Prop} (hr : va_Run p l e R s m args below meth c0 H locs cells slots mc ms (F0 m pc LS st0) st (al_Qb q0 nn B a) free) (hS : va_S A s.heap H locs) (hA : ∀ x, q0 ≤ x → A x) (hf : ∀ x, free x → A x)
    (kk : ∀ (H1 : Heap) (locs1 : List Loc), H1.size = H.size + nn → (∀ x, x < q0 → H1[x]? = H[x]?) → B H1 → va_S A s.heap H1 locs1 → W p l e R s m args below meth c0 H1 locs1 (cells + mc) (slots + ms) Q (F0 m (pc + 3) LS st)) : W p l e R s m args below meth c0 H locs cells slots Q (F0 m pc LS st0) := by
  intro T hT X
  obtain ⟨v, st₀, t, T', L, g0, X', hL, e1, e2, ⟨hv, hz, hk, hB⟩, stp⟩ := hr T hT X
  cases hv
  rw [g0] at hz hk
  have hkeep : ∀ x, x < q0 → T'.heap[x]? = H[x]? := fun x hx => by rw [e1]; exact hk x hx
  obtain ⟨t2, a1, b1⟩ := kk T'.heap (locs ++ L) (by rw [e1]; exact hz) hkeep (by rw [e1]; exact hB) ⟨by rw [e1, hz]; have := hS.1; omega, fun x g1 g2 => (hkeep x (Nat.not_le.mp fun z => g2 (hA x z))).trans (hS.2.1 x g1 g2), fun z hz => (List.mem_append.mp hz).elim (hS.2.2 z) (fun g => hf _ (hL z g))⟩ T' rfl X'
  exact ⟨t2, stp t2 a1, b1⟩
/-- such a constructor is called -/
theorem st_call (hx : p.tables.exec = Jvm.exec) (hb : c0.code = cc) (hml : c0.maxLocals = nL) (hts : ∀ w ∈ sm_W, w.before args s = true) (hown : s.vm.findClass own = some m.cls) {y : MethodName} {ccy : ByteArray} {maxL lev nn ns idx q q0 : Nat} {Pc : Array Value → State → Prop} {B : Heap → Prop} (hM : Met l y (Cond.code y ccy maxL none :: sm_W) (al_Rm lev nn ns) Pc (al_Qb q0 nn B) nn ns (fun x => q0 ≤ x))
    (hw : Cond.code y ccy maxL none ∈ sm_W ∧ Cond.initialized y.cls ∈ sm_W ∧ Cond.methodLink own idx y ∈ sm_W ∧ Cond.instanceMethod y ∈ sm_W ∧ (y.cls ≠ "java/lang/invoke/MethodHandle" ∧ y.cls ≠ "java/lang/invoke/VarHandle") ∧ y.name = "<init>" ∧ (parseMethodDescriptor y.desc).map (fun d => d.parameters.length) = some 0 ∧ maxL ≤ 11) (hR : lev + 1 ≤ R.frames ∧ 30 * lev + 130 ≤ R.locals) (hcells : cells + nn ≤ R.cells) (hslots : slots + ns ≤ R.slots) (hd : decode cc pc = .ok (.invokespecial idx, 3))
    (hcat : (st.map fun v => v.category).sum ≤ 8) (hLS : LS.size = nL) (hp : PreS s H Pc [.ref q]) (hS : va_S A s.heap H locs) (hA : ∀ x, q0 ≤ x → A x)
    (kk : ∀ (H1 : Heap) (locs1 : List Loc), H1.size = H.size + nn → (∀ x, x < q0 → H1[x]? = H[x]?) → B H1 → va_S A s.heap H1 locs1 → W p l e R s m args below meth c0 H1 locs1 (cells + nn) (slots + ns) Q (F0 m (pc + 3) LS st)) : W p l e R s m args below meth c0 H locs cells slots Q (F0 m pc LS (.ref q :: st)) :=
  st_bk9 (va_runI (p := p) (e := e) (below := below) (meth := meth) (locs := locs) (cells := cells) (slots := slots) (H := H) (g := F0 m pc LS (.ref q :: st)) (As := []) (rest := st) (b := q) (n := 0) ⟨hx, hb, hml, hown, hts⟩ hM
    ⟨⟨rfl, rfl, hR.1, by have := hw.2.2.2.2.2.2.2; show 8 + (maxL + 11) + (30 * lev + 100) ≤ R.locals; omega, pay_in hts (sm_good hw.1), List.mem_cons_self, hts _ hw.1, hts _ hw.2.1, hw.2.2.2.2.1, sm_plen hw.2.2.2.2.2.2.1, hts _ hw.2.2.1⟩, hw.2.2.2.2.2.1, hts _ hw.2.2.2.1⟩ hp rfl rfl hLS rfl (lv_room hcat) hd ⟨hcells, hslots⟩) hS hA hA kk
theorem st_P1 {D : va_G} {a : Nat} {x : va_E} (h : va_at D vwCl (a, x) H) : al_P D (al_up al_0 a x) H := al_all (P := fun y z => va_at D vwCl (y, z) H) h al_all0
end Y76
