/-! ALLOCATION: the heap by exact addresses -/
abbrev al_E : Type := Nat → Option va_E
def al_up (E : al_E) (a : Nat) (e : va_E) : al_E := fun x => if x = a then some e else E x
def al_0 : al_E := fun _ => none
theorem al_ue {E : al_E} {a x : Nat} {e : va_E} (h : x = a) : al_up E a e x = some e := by unfold al_up; rw [if_pos h]
theorem al_un {E : al_E} {a x : Nat} {e : va_E} (h : x ≠ a) : al_up E a e x = E x := by unfold al_up; rw [if_neg h]
def al_P (D : va_G) (E : al_E) (H : Heap) : Prop := ∀ x e, E x = some e → va_at D vwCl (x, e) H
theorem al_P.lt {D : va_G} {E : al_E} {H : Heap} (h : al_P D E H) {x : Nat} {e : va_E} (hx : E x = some e) : x < H.size := va_at.lt (q := (x, e)) (h x e hx)
theorem al_P.new {D : va_G} {E : al_E} {H H1 : Heap} {a : Nat} {e : va_E} (h : al_P D E H) (ha : H.size = a) (ho : ∀ q, q < a → H1[q]? = H[q]?) (he : va_at D vwCl (a, e) H1) : al_P D (al_up E a e) H1 := by
  intro x e1 hx
  by_cases c : x = a
  · subst c
    rw [al_ue rfl] at hx
    cases hx
    exact he
  · rw [al_un c] at hx
    exact (h x e1 hx).kept (ho x (by have := h.lt hx; omega))
theorem al_P.put {D : va_G} {E : al_E} {H H1 : Heap} {a : Nat} {e : va_E} (h : al_P D E H) (ho : ∀ q, q ≠ a → H1[q]? = H[q]?) (he : va_at D vwCl (a, e) H1) : al_P D (al_up E a e) H1 := by
  intro x e1 hx
  by_cases c : x = a
  · subst c
    rw [al_ue rfl] at hx
    cases hx
    exact he
  · rw [al_un c] at hx
    exact (h x e1 hx).kept (ho x c)
theorem al_P.mono {D : va_G} {E E' : al_E} {H : Heap} (h : al_P D E H) (hE : ∀ x e, E' x = some e → E x = some e) : al_P D E' H := fun x e hx => h x e (hE x e hx)
/-- private constructors of classes that nest beside -/
def al_nm : List (String × Nat × MethodName) := [("SnowGuns", 9, yX6_init), ("SnowGuns$State", 25, yX7_init), ("SnowGuns$State", 32, yX8_init), ("SnowGuns$State", 39, yX0_init), ("SnowGuns$State", 44, yX4_init), ("SnowGuns$State", 45, yX1_init), ("SnowGuns", 31, yX3_init)]
def al_Nw (U : State) : Prop := (∀ q ∈ al_nm, va_Nw (.methodLinkNest q.1 q.2.1 q.2.2 "SnowGuns") U) ∧ va_Nw (.fieldLinkNest "SnowGuns$Water" 9 "SnowGuns" "MOST_OF_SETTING" "[I" "SnowGuns") U ∧ va_AO "SnowGuns$Slope" U ∧ va_AO "SnowGuns$Gun" U ∧ va_AO "SnowGuns$State" U
/-- what stands all the while: the classes, the statics, below a place -/
def al_Wf (N0 : Nat) (G : sm_G) (U : State) : Prop := (va_K G.1 vwCl (sm_tys G) U ∧ va_T .int (sm_ad G 62 0 0) 4 (fun j => .int (sm_most j)) (fun q => N0 ≤ q) U U.heap ∧ va_Z "SnowGuns" "MOST_OF_SETTING" "[I" (.ref (sm_ad G 62 0 0)) (fun q => N0 ≤ q) U U.heap ∧ vx_Zq Bundle.tN "UNASSIGNED_STACK" Bundle.steD (fun q => N0 ≤ q) U U.heap ∧ vx_Zq Bundle.tN "SUPPRESSED_SENTINEL" Bundle.listD (fun q => N0 ≤ q) U U.heap ∧ va_T .int (sm_ad G 61 0 0) (sm_sc G).1 (fun j => .int ((sm_sc G).2 j)) (fun q => N0 ≤ q) U U.heap) ∧ (∀ e, sm_Ca (sm_en9 e) U) ∧ (∀ e e1, sm_en9 e ≠ sm_en9 e1 → va_Nc (sm_en9 e) (sm_en9 e1) U) ∧ (∀ q ∈ sm_strs, ∃ a, vk_R "SnowGuns" q.1 q.2 a U) ∧ (∀ Y ∈ sm_xd, va_Nw (.declares (Bundle.initS Y)) U) ∧ al_Nw U
theorem al_Wf.at {N0 : Nat} {G : sm_G} {s U : State} {H : Heap} {locs : List Loc} (h : al_Wf N0 G s) (hS : va_S (fun q => N0 ≤ q) s.heap H locs) (hU : U.heap = H) (hW : s.WarmedH U.vm) : al_Wf N0 G U := by
  obtain ⟨⟨h1, h2, h3, h4, h5, h5b⟩, h6, h7, h8, h9, h10, h11, h12, h13, h14⟩ := h
  have hvm := hW.alike
  refine ⟨⟨va_K.moved hvm h1, ?_, ?_, ?_, ?_, ?_⟩, fun e => (h6 e).moved hvm, fun e e1 q => (h7 e e1 q).moved hvm, fun q hq => ?_, fun Y hY => va_Nw.warmD hW (h9 Y hY), fun q hq => va_Nw.warmM hW (h10 q hq), va_Nw.warmF hW h11, va_AO.moved hvm h12, va_AO.moved hvm h13, va_AO.moved hvm h14⟩
  · rw [hU]; exact va_T.moved hvm (va_T.kept h2 hS.2.1)
  · rw [hU]; exact va_Z.moved hvm (va_Z.kept h3 hS.2.1)
  · rw [hU]; exact vx_Zq.moved hvm (vx_Zq.kept h4 hS.2.1)
  · rw [hU]; exact vx_Zq.moved hvm (vx_Zq.kept h5 hS.2.1)
  · rw [hU]; exact va_T.moved hvm (va_T.kept h5b hS.2.1)
  · obtain ⟨a, ha⟩ := h8 q hq
    exact ⟨a, vk_R.warm hW ha⟩
theorem al_Wf.call {N0 : Nat} {G : sm_G} {U : State} {g : JFrame} {mk : MethodId} {a : Array Value} (h : al_Wf N0 G U) : al_Wf N0 G (U.calling g mk a) := h.at (H := U.heap) (locs := []) va_S.rf rfl (State.WarmedH.refl U)
theorem al_Wf.sm {N0 : Nat} {G : sm_G} {U : State} (h : al_Wf N0 G U) (hA : ∀ q, sm_A G q → N0 ≤ q) : sm_Wf G U :=
  ⟨⟨h.1.1, h.1.2.1.narrow hA, h.1.2.2.1.narrow hA, vx_Zq.narrow h.1.2.2.2.1 hA, vx_Zq.narrow h.1.2.2.2.2.1 hA⟩, h.2.1, h.2.2.1, h.2.2.2.1, h.2.2.2.2.1, h.1.2.2.2.2.2.narrow hA⟩
theorem al_Wf.narrow {N0 N1 : Nat} {G : sm_G} {U : State} (h : al_Wf N0 G U) (hN : N0 ≤ N1) : al_Wf N1 G U :=
  ⟨⟨h.1.1, h.1.2.1.narrow (fun q g => Nat.le_trans hN g), h.1.2.2.1.narrow (fun q g => Nat.le_trans hN g), vx_Zq.narrow h.1.2.2.2.1 (fun q g => Nat.le_trans hN g), vx_Zq.narrow h.1.2.2.2.2.1 (fun q g => Nat.le_trans hN g), h.1.2.2.2.2.2.narrow (fun q g => Nat.le_trans hN g)⟩, h.2⟩
/-- a constructor's contract: the object q, the youngest; what is known of the heap before, behind -/
def al_Pc (G : sm_G) (N0 q : Nat) (E0 : al_E) : Array Value → State → Prop := fun v U => v = #[.ref q] ∧ U.heap.size = q + 1 ∧ N0 ≤ q ∧ al_P G.1 E0 U.heap ∧ al_Wf N0 G U
def al_Qc (G : sm_G) (q n : Nat) (En : al_E) : Array Value → State → Outcome → State → Prop := fun _ st oc t => oc = .returned none ∧ t.heap.size = st.heap.size + n ∧ (∀ x, x < q → t.heap[x]? = st.heap[x]?) ∧ al_P G.1 En t.heap
def al_Rm (lev n ns : Nat) : Room := { frames := lev, cells := n, slots := ns, locals := 30 * lev + 100 }
def al_C (l : Launch) (y : MethodName) (cc : ByteArray) (maxL lev n ns : Nat) (G : sm_G) (N0 q : Nat) (E0 En : al_E) : Prop := Met l y (Cond.code y cc maxL none :: sm_W) (al_Rm lev n ns) (al_Pc G N0 q E0) (al_Qc G q n En) n ns (fun x => q ≤ x)
theorem al_blind (G : sm_G) (N0 q : Nat) (E0 : al_E) : FrameBlind (al_Pc G N0 q E0) := fun _ _ _ _ h => ⟨h.1, h.2.1, h.2.2.1, h.2.2.2.1, h.2.2.2.2.call⟩
section ALW
variable {p : Program} {l : Launch} {e : Env} {R : Room} {s : State} {m : MethodId} {args : Array Value} {below : List Frame} {meth : Method} {c0 : Code} {Q : State → Prop} {G : sm_G} {nL : Nat}
variable {cc : ByteArray} {own : String} {pc : Nat} {A : Nat → Prop} {E E' En E0 : al_E} {lv lv' : List (Nat × Value)} {st : List Value} {n cells slots N0 : Nat}
def al_Go (p : Program) (l : Launch) (e : Env) (R : Room) (s : State) (m : MethodId) (args : Array Value) (below : List Frame) (meth : Method) (c : Code) (Q : State → Prop) (G : sm_G) (A : Nat → Prop) (nL pc : Nat) (lv : List (Nat × Value)) (st : List Value) (E : al_E) (n cells slots : Nat) : Prop :=
  ∀ (H : Heap) (locs : List Loc) (LS : Array Slot), H.size = n → al_P G.1 E H → va_S A s.heap H locs → lv_has LS nL lv → W p l e R s m args below meth c H locs cells slots Q (F0 m pc LS st)
theorem al_mono (hE : ∀ x e, E' x = some e → E x = some e) (kk : al_Go p l e R s m args below meth c0 Q G A nL pc lv st E' n cells slots) : al_Go p l e R s m args below meth c0 Q G A nL pc lv st E n cells slots := fun H locs LS h1 h2 h3 h4 => kk H locs LS h1 (h2.mono hE) h3 h4
theorem al_aload (hx : p.tables.exec = Jvm.exec) (hb : c0.code = cc) {k : Fin 4} {i j x : Nat} (hd : decode cc pc = .ok (.aload_n k, 1)) (hi : (k : Nat) = i) (hl : lv[j]? = some (i, .ref x)) (kk : al_Go p l e R s m args below meth c0 Q G A nL (pc + 1) lv (.ref x :: st) E n cells slots) : al_Go p l e R s m args below meth c0 Q G A nL pc lv st E n cells slots := fun H locs LS h1 h2 h3 h4 => lv_aload_n hx hb hd hi (lv_at h4 j hl) (kk H locs LS h1 h2 h3 h4)
theorem al_iload (hx : p.tables.exec = Jvm.exec) (hb : c0.code = cc) {k : Fin 4} {i j : Nat} {x : Int32} (hd : decode cc pc = .ok (.iload_n k, 1)) (hi : (k : Nat) = i) (hl : lv[j]? = some (i, .int x)) (kk : al_Go p l e R s m args below meth c0 Q G A nL (pc + 1) lv (.int x :: st) E n cells slots) : al_Go p l e R s m args below meth c0 Q G A nL pc lv st E n cells slots := fun H locs LS h1 h2 h3 h4 => lv_iload_n hx hb hd hi (lv_at h4 j hl) (kk H locs LS h1 h2 h3 h4)
theorem al_iconst (hx : p.tables.exec = Jvm.exec) (hb : c0.code = cc) {k : Int} {v : Int32} (hd : decode cc pc = .ok (.iconst k, 1)) (hv : Int32.ofInt k = v) (kk : al_Go p l e R s m args below meth c0 Q G A nL (pc + 1) lv (.int v :: st) E n cells slots) : al_Go p l e R s m args below meth c0 Q G A nL pc lv st E n cells slots := fun H locs LS h1 h2 h3 h4 => lv_iconst hx hb hd hv (kk H locs LS h1 h2 h3 h4)
theorem al_bipush (hx : p.tables.exec = Jvm.exec) (hb : c0.code = cc) {k : Int} {v : Int32} (hd : decode cc pc = .ok (.bipush k, 2)) (hv : (Int8.ofInt k).toInt32 = v) (kk : al_Go p l e R s m args below meth c0 Q G A nL (pc + 2) lv (.int v :: st) E n cells slots) : al_Go p l e R s m args below meth c0 Q G A nL pc lv st E n cells slots := fun H locs LS h1 h2 h3 h4 => lv_bipush hx hb hd hv (kk H locs LS h1 h2 h3 h4)
theorem al_sipush (hx : p.tables.exec = Jvm.exec) (hb : c0.code = cc) {k : Int} {v : Int32} (hd : decode cc pc = .ok (.sipush k, 3)) (hv : (Int16.ofInt k).toInt32 = v) (kk : al_Go p l e R s m args below meth c0 Q G A nL (pc + 3) lv (.int v :: st) E n cells slots) : al_Go p l e R s m args below meth c0 Q G A nL pc lv st E n cells slots := fun H locs LS h1 h2 h3 h4 => lv_sipush hx hb hd hv (kk H locs LS h1 h2 h3 h4)
theorem al_dup (hx : p.tables.exec = Jvm.exec) (hb : c0.code = cc) {x : Nat} (hd : decode cc pc = .ok (.dup, 1)) (kk : al_Go p l e R s m args below meth c0 Q G A nL (pc + 1) lv (.ref x :: .ref x :: st) E n cells slots) : al_Go p l e R s m args below meth c0 Q G A nL pc lv (.ref x :: st) E n cells slots := fun H locs LS h1 h2 h3 h4 => lv_dup hx hb hd rfl (kk H locs LS h1 h2 h3 h4)
theorem al_istore (hx : p.tables.exec = Jvm.exec) (hb : c0.code = cc) {k : Fin 4} {i : Nat} {x : Int32} (hd : decode cc pc = .ok (.istore_n k, 1)) (hi : (k : Nat) = i) (hn : i < nL) (hl : (i, Value.int x) :: lv.filter (fun q => !(q.1 == i) && !(q.1 + 1 == i && q.2.category == 2)) = lv') (kk : al_Go p l e R s m args below meth c0 Q G A nL (pc + 1) lv' st E n cells slots) : al_Go p l e R s m args below meth c0 Q G A nL pc lv (.int x :: st) E n cells slots := fun H locs LS h1 h2 h3 h4 => lv_istore_n (lv' := lv') hx hb hd hi h4 hn hl (fun LS h4 => kk H locs LS h1 h2 h3 h4)
theorem al_astore (hx : p.tables.exec = Jvm.exec) (hb : c0.code = cc) {k : Fin 4} {i x : Nat} (hd : decode cc pc = .ok (.astore_n k, 1)) (hi : (k : Nat) = i) (hn : i < nL) (hl : (i, Value.ref x) :: lv.filter (fun q => !(q.1 == i) && !(q.1 + 1 == i && q.2.category == 2)) = lv') (kk : al_Go p l e R s m args below meth c0 Q G A nL (pc + 1) lv' st E n cells slots) : al_Go p l e R s m args below meth c0 Q G A nL pc lv (.ref x :: st) E n cells slots := fun H locs LS h1 h2 h3 h4 => lv_astore_n (lv' := lv') hx hb hd hi h4 hn hl (fun LS h4 => kk H locs LS h1 h2 h3 h4)
theorem al_iinc (hx : p.tables.exec = Jvm.exec) (hb : c0.code = cc) {i k : Nat} {z : Int} {x v : Int32} (hd : decode cc pc = .ok (.iinc i z, 3)) (hk : lv[k]? = some (i, .int x)) (hv : x + Int32.ofInt z = v) (hn : i < nL) (hl : (i, Value.int v) :: lv.filter (fun q => !(q.1 == i) && !(q.1 + 1 == i && q.2.category == 2)) = lv') (kk : al_Go p l e R s m args below meth c0 Q G A nL (pc + 3) lv' st E n cells slots) : al_Go p l e R s m args below meth c0 Q G A nL pc lv st E n cells slots := fun H locs LS h1 h2 h3 h4 => lv_iinc (lv' := lv') hx hb hd h4 hk hv hn hl (fun LS h4 => kk H locs LS h1 h2 h3 h4)
theorem al_goto (hx : p.tables.exec = Jvm.exec) (hb : c0.code = cc) {off : Int} {tgt : Nat} (hd : decode cc pc = .ok (.goto off, 3)) (ht : (pc : Int) + off = (tgt : Int)) (kk : al_Go p l e R s m args below meth c0 Q G A nL tgt lv st E n cells slots) : al_Go p l e R s m args below meth c0 Q G A nL pc lv st E n cells slots := fun H locs LS h1 h2 h3 h4 => lv_goto hx hb hd ht (kk H locs LS h1 h2 h3 h4)
theorem al_ge (hx : p.tables.exec = Jvm.exec) (hb : c0.code = cc) {x y : Int32} {off : Int} {tgt : Nat} (hd : decode cc pc = .ok (.if_icmp .ge off, 3)) (ht : (pc : Int) + off = (tgt : Int)) (k1 : y ≤ x → al_Go p l e R s m args below meth c0 Q G A nL tgt lv st E n cells slots) (k2 : ¬ y ≤ x → al_Go p l e R s m args below meth c0 Q G A nL (pc + 3) lv st E n cells slots) : al_Go p l e R s m args below meth c0 Q G A nL pc lv (.int y :: .int x :: st) E n cells slots := fun H locs LS h1 h2 h3 h4 => lv_icmp_ge (tgt := tgt) hx hb hd ht (fun q => k1 q H locs LS h1 h2 h3 h4) (fun q => k2 q H locs LS h1 h2 h3 h4)
theorem al_objInit (hx : p.tables.exec = Jvm.exec) (hb : c0.code = cc) (hml : c0.maxLocals = nL) (hts : ∀ w ∈ sm_W, w.before args s = true) (hown : s.vm.findClass own = some m.cls) {idx a : Nat} (hw : Cond.methodLink own idx Lib.objectInit ∈ sm_W ∧ Cond.instanceMethod Lib.objectInit ∈ sm_W ∧ Cond.code Lib.objectInit ⟨#[0xb1]⟩ 1 none ∈ sm_W) (hR : 1 ≤ R.frames ∧ 100 ≤ R.locals) (hd : decode cc pc = .ok (.invokespecial idx, 3)) (kk : al_Go p l e R s m args below meth c0 Q G A nL (pc + 3) lv [] E n cells slots) : al_Go p l e R s m args below meth c0 Q G A nL pc lv [.ref a] E n cells slots := fun H locs LS h1 h2 h3 h4 =>
  W.objInit hx hb hown (hts _ hw.1) (hts _ hw.2.1) (hts _ hw.2.2) rfl (by rw [hml]; exact h4.1) rfl hd hR.1 (by have := hR.2; show 2 * 0 + 0 + 12 ≤ R.locals; omega) (W.eq (g2 := F0 m (pc + 3) LS []) rfl (kk H locs LS h1 h2 h3 h4))
theorem al_new (hx : p.tables.exec = Jvm.exec) (hb : c0.code = cc) (hts : ∀ w ∈ sm_W, w.before args s = true) (hown : s.vm.findClass own = some m.cls) (hK : va_K G.1 vwCl (sm_tys G) s) (hA : ∀ q, s.heap.size ≤ q → A q) {ci index : Nat} (hci : ci ≤ 9) (hw : Cond.classLink own index (sm_kl ci).1 ∈ sm_W ∧ Cond.instantiable (sm_kl ci).1 (sm_kl ci).2.2 ∈ sm_W ∧ Cond.initialized (sm_kl ci).1 ∈ sm_W) {fs : List Value} (hfs : ∀ j, j < sm_nf ci → defaultValue (sm_ty ci j) = vp_V fs j) (hcells : cells + 1 ≤ R.cells) (hslots : slots + sm_nf ci ≤ R.slots) (hd : decode cc pc = .ok (.new index, 3))
    (kk : al_Go p l e R s m args below meth c0 Q G A nL (pc + 3) lv (.ref n :: st) (al_up E n (.inr (ci, fs))) (n + 1) (cells + 1) (slots + sm_nf ci)) : al_Go p l e R s m args below meth c0 Q G A nL pc lv st E n cells slots := fun H locs LS h1 h2 h3 h4 => by
  have hc := sm_kl_get hci
  have hN := sm_11 sm_kl_n hci
  have hin := sm_11 sm_kl_in hci
  have hty := sm_11 sm_kl_ty hci
  have hKn := hK.1 ci _ hc
  refine W.newcK hx hb hown (hts _ hw.1) (hts _ hw.2.1) (hts _ hw.2.2) rfl hd hcells (by rw [hN]; exact hslots) hKn.2.1 h1 fun H1 kC hkC e1 z1 o1 => ?_
  rw [hN]
  refine kk H1 locs LS z1 (h2.new h1 o1 ⟨_, hc, (u_born (fun k => sm_ty ci k) hts hin hKn hkC e1 (fun k hk => hty k (by rw [← hN]; exact hk))).to (fun j hj => hfs j (by rw [← hN]; exact hj))⟩) ⟨Nat.le_trans h3.1 (by omega), fun x g1 g2 => (o1 x (by have := h3.1; omega)).trans (h3.2.1 x g1 g2), h3.2.2⟩ h4
theorem al_newa (hx : p.tables.exec = Jvm.exec) (hb : c0.code = cc) (hts : ∀ w ∈ sm_W, w.before args s = true) {atype : ArrayType} (harr : Cond.arrayClass (newarray.typeOf atype) ∈ sm_W) {cA : ClassId} (hcA : s.vm.findClass ("[" ++ (newarray.typeOf atype).toString) = some cA) {z : Int32} {N' : Nat} {a0 : vp_A} (ha : vp_cell cA a0 = arrV cA N' (fun _ => defaultValue (newarray.typeOf atype))) (hz : ¬ z < 0) (hN : z.toNatClampNeg = N') (hbytes : N' * componentBytes (newarray.typeOf atype) ≤ 536870912) (hcells : cells + 1 ≤ R.cells) (hslots : slots + N' ≤ R.slots) (hd : decode cc pc = .ok (.newarray atype, 2))
    (kk : al_Go p l e R s m args below meth c0 Q G A nL (pc + 2) lv (.ref n :: st) (al_up E n (.inl (cA, a0))) (n + 1) (cells + 1) (slots + N')) : al_Go p l e R s m args below meth c0 Q G A nL pc lv (.int z :: st) E n cells slots := fun H locs LS h1 h2 h3 h4 => by
  refine va_newaK hx hb (hts _ harr) rfl hd rfl hz hN hbytes hcells hslots h1 fun H1 cA1 e1 z1 o1 hAr hNm => ?_
  have hc : cA1 = cA := Option.some.inj (hNm.symm.trans hcA)
  subst hc
  exact kk H1 locs LS z1 (h2.new h1 o1 (by show H1[n]? = some (vp_cell _ _); rw [ha]; exact e1)) ⟨Nat.le_trans h3.1 (by omega), fun x g1 g2 => (o1 x (by have := h3.1; omega)).trans (h3.2.1 x g1 g2), h3.2.2⟩ h4
theorem al_newq (hx : p.tables.exec = Jvm.exec) (hb : c0.code = cc) (hts : ∀ w ∈ sm_W, w.before args s = true) (hown : s.vm.findClass own = some m.cls) {C : String} {index : Nat} (hw : Cond.classLink own index C ∈ sm_W ∧ va_AO C s) {cA : ClassId} (hcA : s.vm.findClass ("[" ++ (FieldType.object C).toString) = some cA) {z : Int32} {N' : Nat} (hz : ¬ z < 0) (hN : z.toNatClampNeg = N') (hbytes : N' * 4 ≤ 536870912) (hcells : cells + 1 ≤ R.cells) (hslots : slots + N' ≤ R.slots) (hd : decode cc pc = .ok (.anewarray index, 3))
    (kk : al_Go p l e R s m args below meth c0 Q G A nL (pc + 3) lv (.ref n :: st) (al_up E n (.inl (cA, N', .inr (.inr (.inr (.inr (fun _ => none))))))) (n + 1) (cells + 1) (slots + N')) : al_Go p l e R s m args below meth c0 Q G A nL pc lv (.int z :: st) E n cells slots := fun H locs LS h1 h2 h3 h4 => by
  subst hN
  refine W.anew hx hb hown (hts _ hw.1) (va_AO.use hw.2) rfl hd rfl hz hbytes hcells hslots fun cA1 kA comp f1 f2 f3 f4 => ?_
  have hc : cA1 = cA := Option.some.inj (f1.symm.trans hcA)
  subst hc
  generalize hH1 : H.push ({ cls := cA1, slots := Array.replicate z.toNatClampNeg .null, vm := .none } : Cell) = H1
  have z1 : H1.size = n + 1 := by rw [← hH1, Array.size_push, h1]
  have e1 : H1[n]? = some (arrV cA1 z.toNatClampNeg (fun _ => .null)) := by rw [← hH1, ← h1, Array.getElem?_push_size, ← arrV_new]
  have o1 : ∀ q : Nat, q < n → H1[q]? = H[q]? := fun q hq => by rw [← hH1, Array.getElem?_push, if_neg (by omega)]
  rw [h1]
  exact kk H1 locs LS z1 (h2.new h1 o1 (by show H1[n]? = some (vp_cell _ _); rw [e1]; rfl)) ⟨Nat.le_trans h3.1 (by omega), fun x g1 g2 => (o1 x (by have := h3.1; omega)).trans (h3.2.1 x g1 g2), h3.2.2⟩ h4
theorem al_putF (hx : p.tables.exec = Jvm.exec) (hb : c0.code = cc) (hts : ∀ w ∈ sm_W, w.before args s = true) (hown : s.vm.findClass own = some m.cls) (hK : va_K G.1 vwCl (sm_tys G) s) {ci index k a : Nat} (hci : ci ≤ 9) {fs : List Value} (he : E a = some (.inr (ci, fs))) (hAa : A a) (hk : k < sm_nf ci) (hlink : Cond.fieldLink own index own ((sm_kl ci).2.1 k).2.1 ((sm_kl ci).2.1 k).2.2.1 ∈ sm_W) (hcl : (sm_kl ci).1 = own) (hfin : ((sm_kl ci).2.1 k).2.2.2 = true) (hin2 : meth.name = "<init>") {v : Value} (hn : narrow (sm_ty ci k) v = v) (hfit : fits (sm_ty ci k) v = true) (hl : k < fs.length) (hd : decode cc pc = .ok (.putfield index, 3))
    (kk : al_Go p l e R s m args below meth c0 Q G A nL (pc + 3) lv st (al_up E a (.inr (ci, fs.set k v))) n cells slots) : al_Go p l e R s m args below meth c0 Q G A nL pc lv (v :: .ref a :: st) E n cells slots := fun H locs LS h1 h2 h3 h4 => by
  subst hcl
  have hc := sm_kl_get hci
  have hN := sm_11 sm_kl_n hci
  have hin := sm_11 sm_kl_in hci
  have hty := sm_11 sm_kl_ty hci
  have hnm := sm_11 sm_kl_nm hci
  have hdecl := sm_11 sm_kl_dec hci k hk
  have hkN : k < (sm_kl ci).2.2 := by rw [hN]; exact hk
  have hap := va_apart (own := (sm_kl ci).1) hts hin (fun k => sm_ty ci k) (fun k h => hty k (by rw [← hN]; exact h)) (fun a ha b hb => hnm a (by rw [← hN]; exact ha) b (by rw [← hN]; exact hb)) hK hc
  obtain ⟨r, g1, cell, q1, q2, q3, q4⟩ := h2 a _ he
  have hr : r = sm_kl ci := Option.some.inj (g1.symm.trans hc)
  subst hr
  obtain ⟨hS, hfc, kC, hkC, hkind⟩ := hK.1 ci _ hc
  obtain ⟨cf, kf, fi, f, hi, hsl⟩ := hS k hkN
  have hlay := hts _ (hin _ (u_in_lay hkN))
  unfold u_lay at hlay
  rw [if_pos hfin] at hlay
  have hst := (u_facts hfc hkC (u_lays hts hin hkN) hi).1
  have hcf : m.cls = cf := by
    obtain ⟨_, _, c', _, _, _, -, -, hf', -, -, -, hown2, -⟩ := Cond.laysFinal_spec hlay
    have e1 : c' = cf := by have := hi.symm.trans hf'; simp at this; exact this.1.symm
    rw [hdecl] at hown2
    rw [← e1]; exact Option.some.inj (hown.symm.trans hown2)
  have h6 := u_fits hfc hkC hkind (Or.inr hlay) hi (hty k hk) hn hfit
  refine W.putFinK hx hb hown (hts _ hlink) (by rw [← hdecl]; exact hi) hst hcf hin2 (by rw [q2]; exact h6) q1 q3 (by rw [hsl]; exact k2_hasslot (q4 k hkN)) rfl rfl hd fun H' e1 e2 e3 => ?_
  rw [hsl] at e1 ⊢
  exact kk H' _ LS (e2.trans h1) (h2.put e3 ⟨_, hc, t_OB.to (V := updV (vp_V fs) k v) ⟨_, e1, q2, q3, t_set q4 hap hkN v⟩ (fun j _ => vp_updV_set hl v j)⟩) (h3.put e2 e3 hAa) h4
theorem al_get (hx : p.tables.exec = Jvm.exec) (hb : c0.code = cc) (hts : ∀ w ∈ sm_W, w.before args s = true) (hown : s.vm.findClass own = some m.cls) (hK : va_K G.1 vwCl (sm_tys G) s) {ci index k a : Nat} (hci : ci ≤ 9) {fs : List Value} (he : E a = some (.inr (ci, fs))) (hk : k < sm_nf ci) (hlink : Cond.fieldLink own index (sm_kl ci).1 ((sm_kl ci).2.1 k).2.1 ((sm_kl ci).2.1 k).2.2.1 ∈ sm_W) {v : Value} (hv : fs[k]? = some v) (hd : decode cc pc = .ok (.getfield index, 3))
    (kk : al_Go p l e R s m args below meth c0 Q G A nL (pc + 3) lv (v :: st) E n cells slots) : al_Go p l e R s m args below meth c0 Q G A nL pc lv (.ref a :: st) E n cells slots := fun H locs LS h1 h2 h3 h4 => by
  have hc := sm_kl_get hci
  have hN := sm_11 sm_kl_n hci
  have hdecl := sm_11 sm_kl_dec hci k hk
  exact va_get (D := G.1) (cl := vwCl) (tys := sm_tys G) (ws := [(a, .inr (ci, fs))]) hx hb hts (sm_11 sm_kl_in hci) hown hK (sm_one (h2 a _ he)) 0 rfl hc k (by rw [hN]; exact hk) (hts _ hlink) (fun x h => by rw [← hdecl]; exact h) hv hd (kk H locs LS h1 h2 h3 h4)
theorem al_aast (hx : p.tables.exec = Jvm.exec) (hb : c0.code = cc) (hK : va_K G.1 vwCl (sm_tys G) s) {t ci N' v a : Nat} (hci : ci ≤ 9) {cA : ClassId} {vs : List Value} {f : Nat → Option Nat} (ha : E a = some (.inl (cA, N', .inr (.inr (.inr (.inr f)))))) (hAa : A a) (ht : (sm_tys G)[t]? = some (cA, .object (sm_kl ci).1)) (hv : E v = some (.inr (ci, vs))) {i : Int32} (hin : vp_in i N') (hd : decode cc pc = .ok (.aastore, 1))
    (kk : al_Go p l e R s m args below meth c0 Q G A nL (pc + 1) lv st (al_up E a (.inl (cA, N', .inr (.inr (.inr (.inr (va_up f i.toNatClampNeg (some v)))))))) n cells slots) : al_Go p l e R s m args below meth c0 Q G A nL pc lv (.ref v :: .int i :: .ref a :: st) E n cells slots := fun H locs LS h1 h2 h3 h4 => by
  have hc := sm_kl_get hci
  have hlt : i.toNatClampNeg < N' := Nat.not_le.mp fun q => hin (Or.inr q)
  have h0 : ¬ i < 0 := fun q => hin (Or.inl q)
  obtain ⟨r', hr', cellV, g1, g2, g3, -⟩ := h2 v _ hv
  have hcls := (hK.1 ci _ hc).2
  obtain ⟨kA, comp, k1, k2, k3, -⟩ := (hK.2 t _ ht).2
  have hcomp : comp = G.1.1 ci := Option.some.inj (k3.symm.trans hcls.1)
  subst hcomp
  obtain ⟨kC, hkC, -⟩ := hcls.2
  refine W.aast hx hb (h2 a _ ha) (fun q h => by cases h) (fun h => by cases h) k1 k2 rfl hkC ⟨h0, by show _ < (arrV _ _ _).slots.size; rw [arrV_size]; exact hlt⟩ g1 (fun q h => by rw [g3] at h; cases h) (by rw [g2]; exact hkC) (by rw [g2]; exact va_assign hcls) rfl rfl hd fun H1 e1 z oq => ?_
  refine kk H1 _ LS (z.trans h1) (h2.put oq ?_) (h3.put z oq hAa) h4
  show H1[a]? = some (vp_cell _ _)
  rw [e1]
  rw [vp_cell_q, vp_cell_q, arrV_store]
  congr 2
  funext q
  by_cases hq : q = i.toNatClampNeg
  · subst hq
    simp [updV, va_up, va_rf]
  · simp [updV, va_up, hq]
/-- behind a constructor -/
theorem al_back (hA0 : ∀ q, A q → N0 ≤ q) {nn ns q : Nat} (hq : n = q + 1) (hAq : ∀ x, q ≤ x → A x) (hE' : ∀ x e, E' x = some e → En x = some e ∨ (x < q ∧ E x = some e))
    (hr : ∀ (H : Heap) (locs : List Loc) (LS : Array Slot), H.size = n → al_P G.1 E H → va_S A s.heap H locs → lv_has LS nL lv → ∃ a : Array Value, va_Run p l e R s m args below meth c0 H locs cells slots nn ns (F0 m pc LS (.ref q :: st)) st (al_Qc G q nn En a) (fun x => q ≤ x))
    (kk : al_Go p l e R s m args below meth c0 Q G A nL (pc + 3) lv st E' (n + nn) (cells + nn) (slots + ns)) : al_Go p l e R s m args below meth c0 Q G A nL pc lv (.ref q :: st) E n cells slots := fun H locs LS h1 h2 h3 h4 => by
  obtain ⟨a, hr⟩ := hr H locs LS h1 h2 h3 h4
  intro T hT X
  obtain ⟨v, st₀, t, T', L, g0, X', hL, e1, e2, ⟨hv, hz, hk, hB⟩, stp⟩ := hr T hT X
  cases hv
  rw [g0] at hz hk
  have hsz : T'.heap.size = n + nn := by rw [e1, hz, h1]
  have hkeep : ∀ x, x < q → T'.heap[x]? = H[x]? := fun x hx => by rw [e1]; exact hk x hx
  obtain ⟨t2, a1, b1⟩ := kk T'.heap (locs ++ L) LS hsz (fun x e9 hxe => by
      rcases hE' x e9 hxe with g | ⟨g1, g2⟩
      · rw [e1]; exact hB x e9 g
      · exact (h2 x e9 g2).kept (hkeep x g1))
    ⟨by have := h3.1; omega, fun x g1 g2 => by
      have hxq : x < q := Nat.not_le.mp fun z => g2 (hAq x z)
      rw [hkeep x hxq]
      exact h3.2.1 x g1 g2, fun z hz => (List.mem_append.mp hz).elim (h3.2.2 z) (fun g => hAq _ (hL z g))⟩ h4 T' rfl X'
  exact ⟨t2, stp t2 a1, b1⟩
theorem al_pre (hWf : al_Wf N0 G s) (hA0 : ∀ q, A q → N0 ≤ q) {q : Nat} (hq : n = q + 1) (hN0 : N0 ≤ q) (hE0 : ∀ x e, E0 x = some e → E x = some e) {H : Heap} {locs : List Loc} (h1 : H.size = n) (h2 : al_P G.1 E H) (h3 : va_S A s.heap H locs) : PreS s H (al_Pc G N0 q E0) [.ref q] :=
  ⟨al_blind G N0 q E0, fun U hU hW => ⟨rfl, by rw [hU, h1, hq], hN0, by rw [hU]; exact h2.mono hE0, hWf.at ⟨h3.1, fun x g1 g2 => h3.2.1 x g1 (fun z => g2 (hA0 x z)), fun z hz => hA0 _ (h3.2.2 z hz)⟩ hU hW⟩⟩
/-- a constructor is called -/
theorem al_call (hx : p.tables.exec = Jvm.exec) (hb : c0.code = cc) (hml : c0.maxLocals = nL) (hts : ∀ w ∈ sm_W, w.before args s = true) (hown : s.vm.findClass own = some m.cls) (hWf : al_Wf N0 G s) (hA0 : ∀ q, A q → N0 ≤ q) {y : MethodName} {ccy : ByteArray} {maxL lev nn ns idx q : Nat} (hC : al_C l y ccy maxL lev nn ns G N0 q E0 En) (hq : n = q + 1) (hAq : ∀ x, q ≤ x → A x) (hE0 : ∀ x e, E0 x = some e → E x = some e) (hE' : ∀ x e, E' x = some e → En x = some e ∨ (x < q ∧ E x = some e))
    (hw : Cond.code y ccy maxL none ∈ sm_W ∧ Cond.initialized y.cls ∈ sm_W ∧ Cond.methodLink own idx y ∈ sm_W ∧ Cond.instanceMethod y ∈ sm_W ∧ (y.cls ≠ "java/lang/invoke/MethodHandle" ∧ y.cls ≠ "java/lang/invoke/VarHandle") ∧ y.name = "<init>" ∧ (parseMethodDescriptor y.desc).map (fun d => d.parameters.length) = some 0 ∧ maxL ≤ 11) (hR : lev + 1 ≤ R.frames ∧ 30 * lev + 130 ≤ R.locals) (hcells : cells + nn ≤ R.cells) (hslots : slots + ns ≤ R.slots) (hd : decode cc pc = .ok (.invokespecial idx, 3))
    (hcat : (st.map fun v => v.category).sum ≤ 8)
    (kk : al_Go p l e R s m args below meth c0 Q G A nL (pc + 3) lv st E' (n + nn) (cells + nn) (slots + ns)) : al_Go p l e R s m args below meth c0 Q G A nL pc lv (.ref q :: st) E n cells slots :=
  al_back hA0 hq hAq hE' (fun H locs LS h1 h2 h3 h4 => ⟨_, va_runI (p := p) (e := e) (below := below) (meth := meth) (locs := locs) (cells := cells) (slots := slots) (H := H) (g := F0 m pc LS (.ref q :: st)) (As := []) (rest := st) (b := q) (n := 0) ⟨hx, hb, hml, hown, hts⟩ hC
    ⟨⟨rfl, rfl, hR.1, by have := hw.2.2.2.2.2.2.2; show 8 + (maxL + 11) + (30 * lev + 100) ≤ R.locals; omega, pay_in hts (sm_good hw.1), List.mem_cons_self, hts _ hw.1, hts _ hw.2.1, hw.2.2.2.2.1, sm_plen hw.2.2.2.2.2.2.1, hts _ hw.2.2.1⟩, hw.2.2.2.2.2.1, hts _ hw.2.2.2.1⟩
    (al_pre hWf hA0 hq (hA0 q (hAq q (Nat.le_refl q))) hE0 h1 h2 h3) rfl rfl h4.1 rfl (lv_room hcat) hd ⟨hcells, hslots⟩⟩) kk
/-- a private one of a class that nests beside -/
theorem al_callN (hx : p.tables.exec = Jvm.exec) (hb : c0.code = cc) (hml : c0.maxLocals = nL) (hts : ∀ w ∈ sm_W, w.before args s = true) (hown : s.vm.findClass own = some m.cls) (hWf : al_Wf N0 G s) (hA0 : ∀ q, A q → N0 ≤ q) {y : MethodName} {ccy : ByteArray} {maxL lev nn ns idx q : Nat} (hC : al_C l y ccy maxL lev nn ns G N0 q E0 En) (hq : n = q + 1) (hAq : ∀ x, q ≤ x → A x) (hE0 : ∀ x e, E0 x = some e → E x = some e) (hE' : ∀ x e, E' x = some e → En x = some e ∨ (x < q ∧ E x = some e))
    (hw : Cond.code y ccy maxL none ∈ sm_W ∧ Cond.initialized y.cls ∈ sm_W ∧ (own, idx, y) ∈ al_nm ∧ Cond.instanceMethod y ∈ sm_W ∧ (y.cls ≠ "java/lang/invoke/MethodHandle" ∧ y.cls ≠ "java/lang/invoke/VarHandle") ∧ y.name = "<init>" ∧ (parseMethodDescriptor y.desc).map (fun d => d.parameters.length) = some 0 ∧ maxL ≤ 11) (hR : lev + 1 ≤ R.frames ∧ 30 * lev + 130 ≤ R.locals) (hcells : cells + nn ≤ R.cells) (hslots : slots + ns ≤ R.slots) (hd : decode cc pc = .ok (.invokespecial idx, 3))
    (hcat : (st.map fun v => v.category).sum ≤ 8)
    (kk : al_Go p l e R s m args below meth c0 Q G A nL (pc + 3) lv st E' (n + nn) (cells + nn) (slots + ns)) : al_Go p l e R s m args below meth c0 Q G A nL pc lv (.ref q :: st) E n cells slots :=
  al_back hA0 hq hAq hE' (fun H locs LS h1 h2 h3 h4 => ⟨_, va_runIN (p := p) (e := e) (below := below) (meth := meth) (locs := locs) (cells := cells) (slots := slots) (H := H) (g := F0 m pc LS (.ref q :: st)) (As := []) (rest := st) (b := q) (n := 0) (host := "SnowGuns") ⟨hx, hb, hml, hown, hts⟩ hC
    ⟨⟨⟨rfl, rfl, hR.1, by have := hw.2.2.2.2.2.2.2; show 8 + (maxL + 11) + (30 * lev + 100) ≤ R.locals; omega, pay_in hts (sm_good hw.1), List.mem_cons_self⟩, hts _ hw.1, hts _ hw.2.1, hw.2.2.2.2.1, sm_plen hw.2.2.2.2.2.2.1, va_Nw.use rfl (hWf.2.2.2.2.2.1 _ hw.2.2.1)⟩, hw.2.2.2.2.2.1, hts _ hw.2.2.2.1⟩
    (al_pre hWf hA0 hq (hA0 q (hAq q (Nat.le_refl q))) hE0 h1 h2 h3) rfl rfl h4.1 rfl (lv_room hcat) hd ⟨hcells, hslots⟩⟩) kk
/-- a constructor's end -/
theorem al_ret {q nn : Nat} (hx : p.tables.exec = Jvm.exec) (hb : c0.code = cc) (hr : meth.sig.returnType = none) (hlocks : meth.locks = false) (hs : s.heap.size = q + 1) (hn : n = q + 1 + nn) (hE : ∀ x e, En x = some e → E x = some e) {mc ms : Nat} (hc : cells ≤ mc ∧ slots ≤ ms) (hd : decode cc pc = .ok (.return_, 1)) : al_Go p l e R s m args below meth c0 (MQ below (al_Qc G q nn En) args s mc ms (fun x => q ≤ x)) G (fun x => q ≤ x) nL pc lv [] E n cells slots := fun H locs LS h1 h2 h3 h4 =>
  W.widen (k := mc) (n := ms) hc.1 hc.2 (W.vret hx hb hr (fun t ht hW => ⟨rfl, by rw [ht, h1, hs, hn], fun x hxq => by rw [ht]; exact h3.2.1 x (by omega) (by show ¬ q ≤ x; omega), by rw [ht]; exact h2.mono hE⟩) h3.2.2 hd hlocks)
/-- a constructor's start -/
theorem al_ofW {y : MethodName} {maxL lev nn ns q : Nat} (hy : plainName y.cls = true) (h1L : 1 ≤ maxL)
    (body : ∀ (p : Program) (e : Env) (s : State) (m : MethodId) (args : Array Value) (below : List Frame) (meth : Method) (c0 : Code), p.tables.exec = Jvm.exec → c0.code = cc → c0.maxLocals = maxL → meth.sig.returnType = none → meth.locks = false → meth.name = y.name → (∀ w ∈ sm_W, w.before args s = true) → s.vm.findClass y.cls = some m.cls → s.heap.size = q + 1 → N0 ≤ q → al_Wf N0 G s →
      al_Go p l e (al_Rm lev nn ns) s m args below meth c0 (MQ below (al_Qc G q nn En) args s nn ns (fun x => q ≤ x)) G (fun x => q ≤ x) maxL 0 [(0, .ref q)] [] E0 (q + 1) 0 0) : al_C l y cc maxL lev nn ns G N0 q E0 En := by
  refine Met.ofW (cc := cc) (maxL := maxL) (ret := none) hy rfl ?_
  intro p e s m args below meth c s₁ B hml hv
  obtain ⟨rfl, hsz, hN, hP, hW⟩ := hv
  have hts := atoms_spec (ws := Cond.code y cc maxL none :: sm_W) B.pre
  have hl := lv_entry ([.ref q]) (n := maxL) (by show 1 ≤ maxL; exact h1L)
  show W p l e _ s m _ below meth c s.heap [] 0 0 _ (entryFrame m ([Value.ref q] : List Value).toArray maxL)
  rw [lg_entry_eq]
  exact body p e s m _ below meth c B.exec B.bytes hml B.returns B.notSynchronized (name_of_methodNamed B.named B.method).1 (fun w hw => hts w (List.mem_cons_of_mem _ hw)) (findClass_of_methodNamed B.named) hsz hN hW s.heap [] _ hsz hP va_S.rf hl
end ALW
/-! what is known: a place more, a family of places -/
theorem al_all {P : Nat → va_E → Prop} {E1 : al_E} {a : Nat} {e1 : va_E} (h1 : P a e1) (h2 : ∀ x e, E1 x = some e → P x e) : ∀ x e, al_up E1 a e1 x = some e → P x e := fun x e h => by
  by_cases c : x = a
  · subst c
    rw [al_ue rfl] at h
    cases h
    exact h1
  · rw [al_un c] at h
    exact h2 x e h
theorem al_all0 {P : Nat → va_E → Prop} : ∀ x e, al_0 x = some e → P x e := fun x e h => by cases h
def al_fam (E : al_E) (b i : Nat) (f : Nat → va_E) : al_E := fun x => if b ≤ x ∧ x < b + i then some (f (x - b)) else E x
theorem al_fe {E : al_E} {b i j x : Nat} {f : Nat → va_E} (hj : j < i) (h : x = b + j) : al_fam E b i f x = some (f j) := by
  unfold al_fam
  rw [if_pos (by omega)]
  congr 2
  omega
theorem al_fn {E : al_E} {b i x : Nat} {f : Nat → va_E} (h : x < b ∨ b + i ≤ x) : al_fam E b i f x = E x := by
  unfold al_fam
  rw [if_neg (by omega)]
theorem al_allf {P : Nat → va_E → Prop} {E1 : al_E} {b i : Nat} {f : Nat → va_E} (h1 : ∀ j, j < i → P (b + j) (f j)) (h2 : ∀ x e, E1 x = some e → P x e) : ∀ x e, al_fam E1 b i f x = some e → P x e := fun x e h => by
  by_cases c : b ≤ x ∧ x < b + i
  · rw [al_fe (j := x - b) (by omega) (by omega)] at h
    cases h
    have := h1 (x - b) (by omega)
    rw [show b + (x - b) = x by omega] at this
    exact this
  · rw [al_fn (by omega)] at h
    exact h2 x e h
def al_cut (q : Nat) (E En : al_E) : al_E := fun x => if x < q then E x else En x
theorem al_cl {E En : al_E} {q x : Nat} (h : x < q) : al_cut q E En x = E x := by unfold al_cut; rw [if_pos h]
theorem al_cr {E En : al_E} {q x : Nat} (h : q ≤ x) : al_cut q E En x = En x := by unfold al_cut; rw [if_neg (by omega)]
theorem al_cut_ok {E En : al_E} {q : Nat} : ∀ x e, al_cut q E En x = some e → En x = some e ∨ (x < q ∧ E x = some e) := fun x e h => by
  by_cases c : x < q
  · rw [al_cl c] at h; exact Or.inr ⟨c, h⟩
  · rw [al_cr (by omega)] at h; exact Or.inl h
/-- an array of objects, filled so far -/
def al_rf (b w i : Nat) : Nat → Option Nat := fun j => if j < i then some (b + w * j) else none
theorem al_rf_up {b w i : Nat} : va_up (al_rf b w i) i (some (b + w * i)) = al_rf b w (i + 1) := by
  funext j
  unfold va_up al_rf
  by_cases c : j = i
  · subst c; rw [if_pos rfl, if_pos (by omega)]
  · rw [if_neg c]
    by_cases c1 : j < i
    · rw [if_pos c1, if_pos (by omega)]
    · rw [if_neg c1, if_neg (by omega)]
theorem al_rf_0 {b w : Nat} : al_rf b w 0 = fun _ => none := by
  funext j
  unfold al_rf
  rw [if_neg (by omega)]
theorem al_fam_0 {E : al_E} {b : Nat} {f : Nat → va_E} : ∀ x e, al_fam E b 0 f x = some e → E x = some e := fun x e h => by
  rw [al_fn (by omega)] at h; exact h
section ALL
variable {p : Program} {l : Launch} {e : Env} {R : Room} {s : State} {m : MethodId} {args : Array Value} {below : List Frame} {meth : Method} {c0 : Code} {Q : State → Prop} {G : sm_G} {nL : Nat}
variable {cc : ByteArray} {own : String} {A : Nat → Prop} {Eb : al_E} {En : Nat → al_E} {F : Nat → Nat → va_E}
/-- what is known in a loop that fills an array at a with objects from b on, w places each -/
def al_lp (G : sm_G) (Eb : al_E) (F : Nat → Nat → va_E) (a b w t N i : Nat) : al_E := al_fam (al_up Eb a (.inl (sm_ca G t, N, .inr (.inr (.inr (.inr (al_rf b w i))))))) b (w * i) (fun r => F (b + w * (r / w)) (r % w))
/-- the loop: for i from 0 to N - 1 -/
theorem al_fill {q a b nn nso t N ci cs fk P0 lp tgt i1 i2 : Nat} {y : MethodName} {fs vs : List Value} {c00 s00 : Nat} {off1 off2 : Int} (hx : p.tables.exec = Jvm.exec) (hb : c0.code = cc) (hts : ∀ w ∈ sm_W, w.before args s = true) (hown : s.vm.findClass own = some m.cls) (hK : va_K G.1 vwCl (sm_tys G) s) (hA : ∀ q, s.heap.size ≤ q → A q) (hAa : A a) (hsz : s.heap.size ≤ b)
    (hN : N ≤ 100) (hci : ci ≤ 9) (hcs : cs ≤ 9) (hq : q < b ∧ a < b ∧ a ≠ q) (hEb : ∀ x e, Eb x = some e → x < b ∧ x ≠ a) (hEq : Eb q = some (.inr (cs, fs))) (hfk : fk < sm_nf cs) (hlink : Cond.fieldLink own i1 (sm_kl cs).1 ((sm_kl cs).2.1 fk).2.1 ((sm_kl cs).2.1 fk).2.2.1 ∈ sm_W) (hfv : fs[fk]? = some (.ref a)) (ht : (sm_tys G)[t]? = some (sm_ca G t, .object (sm_kl ci).1))
    (hw : Cond.classLink own i2 (sm_kl ci).1 ∈ sm_W ∧ Cond.instantiable (sm_kl ci).1 (sm_kl ci).2.2 ∈ sm_W ∧ Cond.initialized (sm_kl ci).1 ∈ sm_W) (hvs : ∀ j, j < sm_nf ci → defaultValue (sm_ty ci j) = vp_V vs j)
    (hEn : ∀ q' r, r < nn + 1 → En q' (q' + r) = some (F q' r)) (hF0 : ∀ q', ∃ vs', F q' 0 = .inr (ci, vs'))
    (hR : c00 + (nn + 1) * N ≤ R.cells ∧ s00 + nso * N ≤ R.slots) (hns : sm_nf ci ≤ nso)
    (hpush : ∀ {lv : List (Nat × Value)} {st : List Value} {E : al_E} {n cells slots : Nat}, al_Go p l e R s m args below meth c0 Q G A nL (P0 + 1 + lp) lv (.int (q_i N) :: st) E n cells slots → al_Go p l e R s m args below meth c0 Q G A nL (P0 + 1) lv st E n cells slots)
    (hcall : ∀ {q' : Nat} {lv : List (Nat × Value)} {st : List Value} {E : al_E} {cells slots : Nat}, b ≤ q' → E q' = some (.inr (ci, vs)) → cells + nn ≤ R.cells → slots + (nso - sm_nf ci) ≤ R.slots → (st.map fun v => v.category).sum ≤ 8 → al_Go p l e R s m args below meth c0 Q G A nL (P0 + 1 + lp + 12 + 3) lv st (al_cut q' E (En q')) (q' + 1 + nn) (cells + nn) (slots + (nso - sm_nf ci)) → al_Go p l e R s m args below meth c0 Q G A nL (P0 + 1 + lp + 12) lv (.ref q' :: st) E (q' + 1) cells slots)
    (d0 : decode cc P0 = .ok (.iload_n 1, 1)) (d1 : decode cc (P0 + 1 + lp) = .ok (.if_icmp .ge off1, 3)) (ht1 : ((P0 + 1 + lp : Nat) : Int) + off1 = (tgt : Int)) (d2 : decode cc (P0 + 1 + lp + 3) = .ok (.aload_n 0, 1)) (d3 : decode cc (P0 + 1 + lp + 4) = .ok (.getfield i1, 3)) (d4 : decode cc (P0 + 1 + lp + 7) = .ok (.iload_n 1, 1)) (d5 : decode cc (P0 + 1 + lp + 8) = .ok (.new i2, 3)) (d6 : decode cc (P0 + 1 + lp + 11) = .ok (.dup, 1)) (d8 : decode cc (P0 + 1 + lp + 15) = .ok (.aastore, 1)) (d9 : decode cc (P0 + 1 + lp + 16) = .ok (.iinc 1 1, 3)) (d10 : decode cc (P0 + 1 + lp + 19) = .ok (.goto off2, 3)) (ht2 : ((P0 + 1 + lp + 19 : Nat) : Int) + off2 = (P0 : Int)) (hnL : 1 < nL)
    (kk : al_Go p l e R s m args below meth c0 Q G A nL tgt [(1, .int (q_i N)), (0, .ref q)] [] (al_lp G Eb F a b (nn + 1) t N N) (b + (nn + 1) * N) (c00 + (nn + 1) * N) (s00 + nso * N)) :
    ∀ f i : Nat, i + f = N → al_Go p l e R s m args below meth c0 Q G A nL P0 [(1, .int (q_i i)), (0, .ref q)] [] (al_lp G Eb F a b (nn + 1) t N i) (b + (nn + 1) * i) (c00 + (nn + 1) * i) (s00 + nso * i) := by
  have cR := hR.1
  have sR := hR.2
  intro f
  induction f with
  | zero =>
    intro i hi
    have e : i = N := by omega
    subst e
    refine al_iload (j := 0) hx hb d0 rfl rfl (hpush (al_ge (tgt := tgt) hx hb d1 ht1 (fun _ => kk) (fun c => absurd ?_ c)))
    rw [q_le (by omega) (by omega) (by omega) (by omega)]
    omega
  | succ f ih =>
    intro i hi
    have hiN : i < N := by omega
    have m1 : (nn + 1) * (i + 1) ≤ (nn + 1) * N := Nat.mul_le_mul_left _ (by omega)
    have m2 : nso * (i + 1) ≤ nso * N := Nat.mul_le_mul_left _ (by omega)
    rw [Nat.mul_succ] at m1 m2
    refine al_iload (j := 0) hx hb d0 rfl rfl (hpush (al_ge (tgt := tgt) hx hb d1 ht1 (fun c => absurd c ?_) (fun _ => ?_)))
    · rw [q_le (by omega) (by omega) (by omega) (by omega)]
      omega
    refine al_aload (j := 1) hx hb d2 rfl rfl ?_
    refine al_get (ci := cs) (k := fk) (fs := fs) hx hb hts hown hK hcs (by unfold al_lp; rw [al_fn (Or.inl hq.1), al_un (fun z => hq.2.2 z.symm)]; exact hEq) hfk hlink hfv d3 ?_
    refine al_iload (j := 0) hx hb d4 rfl rfl ?_
    refine al_new (ci := ci) (fs := vs) hx hb hts hown hK hA hci hw hvs (by omega) (by omega) d5 ?_
    refine al_dup hx hb d6 ?_
    refine hcall (by omega) (al_ue rfl) (by omega) (by omega) (by simp [Value.category]) ?_
    obtain ⟨vs', hv'⟩ := hF0 (b + (nn + 1) * i)
    have et : (q_i (i : Int)).toNatClampNeg = i := by rw [q_tn (by omega) (by omega)]; omega
    refine al_aast (t := t) (ci := ci) (vs := vs') (N' := N) (f := al_rf b (nn + 1) i) (cA := sm_ca G t) hx hb hK hci ?_ hAa ht ?_ (q_vp (by omega) (by omega) (by omega)) d8 ?_
    · rw [al_cl (by omega), al_un (by omega)]
      unfold al_lp
      rw [al_fn (by omega), al_ue rfl]
    · rw [al_cr (Nat.le_refl _), ← hv']
      exact hEn _ 0 (by omega)
    rw [et, al_rf_up]
    have ei : q_i (i : Int) + Int32.ofInt 1 = q_i ((i + 1 : Nat) : Int) := by
      rw [show Int32.ofInt 1 = q_i 1 from rfl, q_add]; rfl
    refine al_iinc (k := 0) (v := q_i ((i + 1 : Nat) : Int)) (lv' := [(1, .int (q_i ((i + 1 : Nat) : Int))), (0, .ref q)]) hx hb d9 rfl ei hnL rfl ?_
    refine al_goto (tgt := P0) hx hb d10 ht2 ?_
    have z := ih (i + 1) (by omega)
    rw [show b + (nn + 1) * (i + 1) = b + (nn + 1) * i + 1 + nn by rw [Nat.mul_succ]; omega, show c00 + (nn + 1) * (i + 1) = c00 + (nn + 1) * i + 1 + nn by rw [Nat.mul_succ]; omega, show s00 + nso * (i + 1) = s00 + nso * i + sm_nf ci + (nso - sm_nf ci) by rw [Nat.mul_succ]; omega] at z
    refine al_mono ?_ z
    unfold al_lp
    refine al_allf (fun j hj => ?_) (al_all (al_ue rfl) (fun x e hxe => ?_))
    · rw [Nat.mul_succ] at hj
      rw [al_un (by omega)]
      by_cases c : j < (nn + 1) * i
      · rw [al_cl (by omega), al_un (by omega), al_fe c rfl]
      · obtain ⟨r, rfl⟩ : ∃ r, j = (nn + 1) * i + r := ⟨j - (nn + 1) * i, by omega⟩
        have hr : r < nn + 1 := by omega
        rw [al_cr (by omega), show b + ((nn + 1) * i + r) = b + (nn + 1) * i + r by omega, hEn _ r hr, Nat.mul_add_div (by omega), Nat.mul_add_mod, Nat.div_eq_of_lt hr, Nat.mod_eq_of_lt hr]; rfl
    · obtain ⟨x1, x2⟩ := hEb x e hxe
      rw [al_un x2, al_cl (by omega), al_un (by omega), al_fn (by omega), al_un x2]
      exact hxe
end ALL
