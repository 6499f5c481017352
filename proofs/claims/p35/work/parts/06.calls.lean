/-! SOUNDNESS: calls, library calls, switches, throws, catches -/
def sm_en9 (e : Nat) : String := match e with | 1 => "java/lang/IllegalArgumentException" | 2 => "java/lang/IllegalStateException" | _ => "java/lang/IndexOutOfBoundsException"
def sm_xn : List String := ["java/lang/RuntimeException", "java/lang/Exception"]
def sm_Ca (E : String) (U : State) : Prop := ∃ c, U.vm.findClass E = some c ∧ U.vm.assignable c c = true
theorem sm_Ca.moved {E : String} {u U : State} (hvm : u.vm.Alike U.vm) (h : sm_Ca E u) : sm_Ca E U := by
  obtain ⟨c, h1, h2⟩ := h
  exact ⟨c, by rw [hvm.findClass]; exact h1, by rw [hvm.assignable]; exact h2⟩
theorem sm_Ca.word {E : String} {U : State} {a : Array Value} (h : sm_Ca E U) : (Cond.castable E E).before a U = true := by
  obtain ⟨c, h1, h2⟩ := h
  simp [Cond.before, Cond.holds, Cond.value, h1, h2]
def sm_strs : List (Nat × String) := [(75, "a character code is 0 to 255"), (85, "the text is full"), (99, "the text is not as it must be"), (154, "what is 0 to 13"), (367, "there is no such slope"), (186, "what is 0 to 6"), (373, "there is no such gun"), (216, "what is 0 to 5"), (236, "j is 0 or more, what is 0 or 1"), (242, "an hour is 0 to 9999"), (379, "m is 1 to 99"), (261, "what is 0 to 3, v is in its range"), (267, "units are 1 to 9999"), (272, "i is 0 to W - 1, v is -9 to 9"), (277, "what is 1 or 2, v is in its range"), (279, "area is 1 to 9, rank 0 to 9, target 0 to 99"), (281, "there are 6 slopes"), (283, "the slope has guns"), (377, "a nozzle is 0 to 3"), (291, "there are 8 guns"), (303, "no state is remembered"), (310, "i is 0 or more"), (318, "m is 0 to 99, what is 0 to 4"), (334, "n is 1 to 24"), (340, "n is 1 to 3, a script has at most 5 * n digits"), (375, "a save slot is 0 or 1"), (360, "nothing has been saved in this slot")]
def sm_xd : List String := ["java/lang/RuntimeException", "java/lang/Exception", "java/lang/Throwable"]
def sm_Wf (G : sm_G) (U : State) : Prop := sm_Wd G U ∧ (∀ e, sm_Ca (sm_en9 e) U) ∧ (∀ e e1, sm_en9 e ≠ sm_en9 e1 → va_Nc (sm_en9 e) (sm_en9 e1) U) ∧ (∀ q ∈ sm_strs, ∃ a, vk_R "SnowGuns" q.1 q.2 a U) ∧ (∀ Y ∈ sm_xd, va_Nw (.declares (Bundle.initS Y)) U) ∧ va_T .int (sm_ad G 61 0 0) (sm_sc G).1 (fun j => .int ((sm_sc G).2 j)) (sm_A G) U U.heap
theorem sm_Wf.at {G : sm_G} {s U : State} {H : Heap} {locs : List Loc} (h : sm_Wf G s) (hS : va_S (sm_A G) s.heap H locs) (hU : U.heap = H) (hW : s.WarmedH U.vm) : sm_Wf G U := by
  obtain ⟨⟨h1, h2, h3, h4, h5⟩, h6, h7, h8, h9, h10⟩ := h
  have hvm := hW.alike
  refine ⟨⟨va_K.moved hvm h1, ?_, ?_, ?_, ?_⟩, fun e => (h6 e).moved hvm, fun e e1 q => (h7 e e1 q).moved hvm, fun q hq => ?_, fun Y hY => va_Nw.warmD hW (h9 Y hY), ?_⟩
  · rw [hU]; exact va_T.moved hvm (va_T.kept h2 hS.2.1)
  · rw [hU]; exact va_Z.moved hvm (va_Z.kept h3 hS.2.1)
  · rw [hU]; exact vx_Zq.moved hvm (vx_Zq.kept h4 hS.2.1)
  · rw [hU]; exact vx_Zq.moved hvm (vx_Zq.kept h5 hS.2.1)
  · obtain ⟨a, ha⟩ := h8 q hq
    exact ⟨a, vk_R.warm hW ha⟩
  · rw [hU]; exact va_T.moved hvm (va_T.kept h10 hS.2.1)
theorem sm_Wf.call {G : sm_G} {U : State} {g : JFrame} {mk : MethodId} {a : Array Value} (h : sm_Wf G U) : sm_Wf G (U.calling g mk a) := h.at (H := U.heap) (locs := []) va_S.rf rfl (State.WarmedH.refl U)
def sm_Rm (lev cost : Nat) : Room := { frames := lev, cells := cost, slots := 6 * cost, locals := 30 * lev + 100 }
def sm_Pc (G : sm_G) (M : sm_M) (avs : List sm_V) : Array Value → State → Prop := fun a U => a = (avs.map (sm_c G)).toArray ∧ sm_Rep G M U.heap ∧ sm_Wf G U
def sm_Qc (G : sm_G) (o : sm_O) : Array Value → State → Outcome → State → Prop := fun _ st oc t => ∃ r, o.2 = .ok r ∧ oc = .returned (r.map (sm_c G)) ∧ sm_okl G r.toList ∧ sm_Rep G o.1 t.heap ∧ va_F (sm_A G) st t
def sm_XC (G : sm_G) (o : sm_O) : String → State → State → Prop := fun E st t => ∃ x, o.2 = .error x ∧ E = sm_en9 x ∧ sm_Rep G o.1 t.heap ∧ va_F (sm_A G) st t
/-- a method's contract: it does what f says -/
def sm_Con (l : Launch) (G : sm_G) (y : MethodName) (head : Cond) (lev cost : Nat) (f : sm_F) : Prop := ∀ M avs o, sm_okl G avs → f M avs = some o → vx_Met l y (head :: sm_W) (sm_Rm lev cost) (sm_Pc G M avs) (sm_Qc G o) (sm_XC G o) cost (6 * cost) (sm_A G)
theorem sm_blind (G : sm_G) (M : sm_M) (avs : List sm_V) : FrameBlind (sm_Pc G M avs) := fun _ _ _ _ h => ⟨h.1, h.2.1, h.2.2.call⟩
theorem sm_good {h : Cond} (hh : h ∈ sm_W) : GoodIn sm_W (h :: sm_W) := by
  intro w hw
  rcases List.mem_cons.mp hw with rfl | hw
  · exact ⟨hh, good_of_word (List.mem_filter.mp hh).2⟩
  · exact ⟨hw, good_of_word (List.mem_filter.mp hw).2⟩
theorem sm_c_rev {G : sm_G} (as st : List sm_V) (n : Nat) : (st.take n).map (sm_c G) ++ (st.drop n).map (sm_c G) = st.map (sm_c G) := by
  rw [← List.map_append, List.take_append_drop]
theorem sm_cat_sum {G : sm_G} : ∀ st : List sm_V, ((st.map (sm_c G)).map fun v => v.category).sum ≤ 2 * st.length
  | [] => Nat.le_refl _
  | v :: st => by
    have h1 := sm_cat_sum (G := G) st
    have h2 : (sm_c G v).category ≤ 2 := by
      rcases lv_cat (sm_c G v) with h | h <;> omega
    simp only [List.map_cons, List.sum_cons, List.length_cons]
    omega
section SMC
variable {p : Program} {l : Launch} {e : Env} {R : Room} {s : State} {m : MethodId} {args : Array Value} {below : List Frame} {meth : Method} {c0 : Code} {Q : State → Prop} {G : sm_G} {nL : Nat}
variable {cc : ByteArray} {b pc : Nat} {M : sm_M} {ls : sm_L} {r : List sm_V} {own : String}
/-- the frame with something thrown over it -/
def sm_GoX (p : Program) (l : Launch) (e : Env) (R : Room) (s : State) (m : MethodId) (args : Array Value) (below : List Frame) (meth : Method) (c : Code) (Q : State → Prop) (G : sm_G) (nL : Nat) (S : sm_S) (x : Nat) : Prop :=
  ∀ (H : Heap) (locs : List Loc) (LS : Array Slot) (cells slots : Nat) (q : Addr) (ce : Cell), sm_Rl R s G nL S H locs LS cells slots → H[q]? = some ce → ce.vm = .none → s.vm.findClass (sm_en9 x) = some ce.cls → vx_W p l e R s m args below meth c H locs cells slots Q (F0 m S.2.1 LS (S.2.2.2.2.map (sm_c G))) q
/-- behind a call of any kind -/
theorem sd_back {o : sm_O} {cost cells slots : Nat} {H : Heap} {locs : List Loc} {LS : Array Slot} {a : Array Value} {st0 : List Value} (hcost : cost ≤ b)
    (hr : vx_Run p l e R s m args below meth c0 H locs cells slots cost (6 * cost) (F0 m pc LS st0) (r.map (sm_c G)) (sm_Qc G o a) (sm_XC G o) (sm_A G))
    (h2 : va_S (sm_A G) s.heap H locs) (h3 : sm_LR G LS nL ls) (h4 : sm_okm G ls) (h5 : sm_okl G r) (h6 : cells + b ≤ R.cells) (h7 : slots + 6 * b ≤ R.slots)
    (kk : ∀ M1 v, o = (M1, .ok v) → sm_Go p l e R s m args below meth c0 Q G nL (b - cost, pc + 3, M1, ls, v.toList ++ r))
    (kx : ∀ M1 x, o = (M1, .error x) → sm_GoX p l e R s m args below meth c0 Q G nL (b - cost, pc, M1, ls, r) x) :
    W p l e R s m args below meth c0 H locs cells slots Q (F0 m pc LS st0) := by
  intro T hT X
  rcases hr T hT X with ⟨v, st₀, t, T', L, h0, X', hL, e1, e2, ⟨rv, hv1, hv2, hv3, hv4, hF⟩, st⟩ | ⟨q, st₀, t, T', L, E, ce, h0, X', hL, e1, e2, ⟨x, hx1, hx2, hx3, hF⟩, hce, hcv, hcl, st⟩
  · obtain ⟨k1, k2, k3⟩ := vx_keep h0 e1 h2 (fun q _ z => z) (fun q z => z) hL hF
    cases hv2
    obtain ⟨t2, a1, b1⟩ := kk o.1 rv (by rw [← hv1]) T'.heap (locs ++ L) LS (cells + cost) (slots + 6 * cost) ⟨by rw [e1]; exact hv4, k3, h3, h4, fun z hz => (List.mem_append.mp hz).elim (hv3 z) (h5 z), by show cells + cost + (b - cost) ≤ R.cells; omega, by show slots + 6 * cost + 6 * (b - cost) ≤ R.slots; omega⟩ T' rfl X'
    refine ⟨t2, st t2 ?_, b1⟩
    have hst : (rv.toList ++ r).map (sm_c G) = (rv.map (sm_c G)).toList ++ r.map (sm_c G) := by cases rv <;> rfl
    rw [← hst]
    exact a1
  · obtain ⟨k1, k2, k3⟩ := vx_keep h0 e1 h2 (fun q _ z => z) (fun q z => z) hL hF
    subst hx2
    obtain ⟨t2, a1, b1⟩ := kx o.1 x (by rw [← hx1]) T'.heap (locs ++ L) LS (cells + cost) (slots + 6 * cost) q ce ⟨by rw [e1]; exact hx3, k3, h3, h4, h5, by show cells + cost + (b - cost) ≤ R.cells; omega, by show slots + 6 * cost + 6 * (b - cost) ≤ R.slots; omega⟩ (by rw [e1]; exact hce) hcv hcl T' rfl X'
    exact ⟨t2, st.trans a1, b1⟩
/-- the words of a call, by its kind -/
def sm_Cs (own : String) (idx kd n cy : Nat) (y : MethodName) (bytes : ByteArray) (maxL : Nat) (ret : Option FieldType) (hh : List (Nat × Nat × Nat × Nat)) : Prop :=
  Cond.methodLink own idx y ∈ sm_W ∧ Cond.initialized y.cls ∈ sm_W ∧ (y.cls ≠ "java/lang/invoke/MethodHandle" ∧ y.cls ≠ "java/lang/invoke/VarHandle") ∧ maxL ≤ 60 ∧
  (kd = 0 → Cond.instanceMethod y ∈ sm_W ∧ Cond.selects y.cls y y ∈ sm_W ∧ Cond.code y bytes maxL ret ∈ sm_W ∧ (parseMethodDescriptor y.desc).map (fun d => d.parameters.length + 1) = some n ∧ cy ≤ 9 ∧ (sm_kl cy).1 = y.cls) ∧
  (kd = 1 → Cond.static y ∈ sm_W ∧ Cond.code y bytes maxL ret ∈ sm_W ∧ (parseMethodDescriptor y.desc).map (fun d => d.parameters.length) = some n) ∧
  (kd = 2 → Cond.static y ∈ sm_W ∧ Cond.codeWith y bytes maxL ret hh ∈ sm_W ∧ (parseMethodDescriptor y.desc).map (fun d => d.parameters.length) = some n) ∧ kd ≤ 2
def sm_hd (kd : Nat) (y : MethodName) (bytes : ByteArray) (maxL : Nat) (ret : Option FieldType) (hh : List (Nat × Nat × Nat × Nat)) : Cond := match kd with
  | 2 => .codeWith y bytes maxL ret hh
  | _ => .code y bytes maxL ret
theorem sm_plen {y : MethodName} {n : Nat} (h : (parseMethodDescriptor y.desc).map (fun d => d.parameters.length) = some n) : ∀ sig, parseMethodDescriptor y.desc = some sig → n = sig.parameters.length := fun sig hs => by
  rw [hs] at h; exact (Option.some.inj h).symm
theorem sm_plen1 {y : MethodName} {n : Nat} (h : (parseMethodDescriptor y.desc).map (fun d => d.parameters.length + 1) = some n) : ∀ sig, parseMethodDescriptor y.desc = some sig → n = sig.parameters.length + 1 := fun sig hs => by
  rw [hs] at h; exact (Option.some.inj h).symm
theorem sm_CallB {idx kd n cy cost lev : Nat} {y : MethodName} {bytes : ByteArray} {maxL : Nat} {ret : Option FieldType} {hh : List (Nat × Nat × Nat × Nat)} (hts : ∀ w ∈ sm_W, w.before args s = true) (hcs : sm_Cs own idx kd n cy y bytes maxL ret hh) (hc : Cond.code y bytes maxL ret ∈ sm_W) (hlev : lev + 1 ≤ R.frames ∧ maxL + 30 * lev + 119 ≤ R.locals) {n1 : Nat} (hn : ∀ sig, parseMethodDescriptor y.desc = some sig → n1 = sig.parameters.length) :
    CallB R s args own idx y bytes maxL ret (Cond.code y bytes maxL ret :: sm_W) (sm_Rm lev cost) cost (6 * cost) n1 :=
  ⟨rfl, rfl, hlev.1, by have := hlev.2; show 8 + (maxL + 11) + (30 * lev + 100) ≤ R.locals; omega, pay_in hts (sm_good hc), List.mem_cons_self, hts _ hc, hts _ hcs.2.1, hcs.2.2.1, hn, hts _ hcs.1⟩
theorem sm_pre {U : State} {H : Heap} {locs : List Loc} {as : List sm_V} (hWf : sm_Wf G s) (hR : sm_Rep G M H) (hS : va_S (sm_A G) s.heap H locs) (hU : U.heap = H) (hW : s.WarmedH U.vm) : sm_Pc G M as (as.map (sm_c G)).toArray U :=
  ⟨rfl, by rw [hU]; exact hR, hWf.at hS hU hW⟩
theorem sd_callV (hx : p.tables.exec = Jvm.exec) (hb : c0.code = cc) (hml : c0.maxLocals = nL) (hts : ∀ w ∈ sm_W, w.before args s = true) (hown : s.vm.findClass own = some m.cls) (hWf : sm_Wf G s) {idx n cy cost lev : Nat} {y : MethodName} {bytes : ByteArray} {maxL : Nat} {ret : Option FieldType} {hh : List (Nat × Nat × Nat × Nat)} {f : sm_F} {o : sm_O} {k1 i1 : Nat} {as : List sm_V}
    (hcs : sm_Cs own idx 0 n cy y bytes maxL ret hh) (hcon : sm_Con l G y (.code y bytes maxL ret) lev cost f) (hlev : lev + 1 ≤ R.frames ∧ maxL + 30 * lev + 119 ≤ R.locals) (hn : as.length + 1 = n) (hr4 : r.length ≤ 4) (hcost : cost ≤ b) (hf : f M (.inr (.inr (cy, k1, i1)) :: as) = some o) (hd : decode cc pc = .ok (.invokevirtual idx, 3))
    (kk : ∀ M1 v, o = (M1, .ok v) → sm_Go p l e R s m args below meth c0 Q G nL (b - cost, pc + 3, M1, ls, v.toList ++ r))
    (kx : ∀ M1 x, o = (M1, .error x) → sm_GoX p l e R s m args below meth c0 Q G nL (b - cost, pc, M1, ls, r) x) :
    sm_Go p l e R s m args below meth c0 Q G nL (b, pc, M, ls, as.reverse ++ .inr (.inr (cy, k1, i1)) :: r) := fun H locs LS cells slots h => by
  obtain ⟨hi, hse, hcw, hpn, hcy, hcls⟩ := hcs.2.2.2.2.1 rfl
  have hokst : sm_okl G (as.reverse ++ .inr (.inr (cy, k1, i1)) :: r) := h.2.2.2.2.1
  have hok1 : sm_okv G (.inr (.inr (cy, k1, i1))) := hokst _ (by simp)
  have hokr : sm_okl G r := fun z hz => hokst z (by simp [hz])
  have hoka : sm_okl G (.inr (.inr (cy, k1, i1)) :: as) := sm_okl_cons.mpr ⟨hok1, fun z hz => hokst z (by simp [hz])⟩
  have hat := h.1.1 cy k1 i1 (sm_okv_obj hcy hok1)
  rw [sm_en_obj hcy] at hat
  obtain ⟨cell, g1, g2, g3⟩ := va_recv hWf.1.1 (sm_one hat) (ci := cy) (q0 := 0) (sm_kl_get hcy) rfl
  have hrun := vx_runV (p := p) (e := e) (below := below) (meth := meth) (locs := locs) (cells := cells) (slots := slots) (g := F0 m pc LS ((as.reverse ++ .inr (.inr (cy, k1, i1)) :: r).map (sm_c G))) (rest := r.map (sm_c G)) (As := as.map (sm_c G)) (n := n - 1) ⟨hx, hb, hml, hown, hts⟩ (hcon M _ o hoka hf) ⟨sm_CallB hts hcs hcw hlev (fun sig hs => by have := sm_plen1 hpn sig hs; omega), hts _ hi, hts _ hse⟩
    ⟨sm_blind G M _, ⟨cell, g1, g2, by rw [← hcls]; exact g3⟩, fun U hU hW => sm_pre (as := .inr (.inr (cy, k1, i1)) :: as) hWf h.1 h.2.1 hU hW⟩ rfl (by rw [List.length_map]; omega) h.2.2.1.2.1 (by show (as.reverse ++ .inr (.inr (cy, k1, i1)) :: r).map (sm_c G) = _; simp [sm_c]) (by have := sm_cat_sum (G := G) r; exact lv_room (by omega)) hd ⟨by have := h.2.2.2.2.2.1; simp only at this; omega, by have := h.2.2.2.2.2.2; simp only at this; omega⟩
  exact sd_back hcost hrun h.2.1 h.2.2.1 h.2.2.2.1 hokr h.2.2.2.2.2.1 h.2.2.2.2.2.2 kk kx
/-- a call of the second object -/
theorem sd_callW (hx : p.tables.exec = Jvm.exec) (hb : c0.code = cc) (hml : c0.maxLocals = nL) (hts : ∀ w ∈ sm_W, w.before args s = true) (hown : s.vm.findClass own = some m.cls) (hWf : sm_Wf G s) {idx n cost lev : Nat} {y : MethodName} {bytes : ByteArray} {maxL : Nat} {ret : Option FieldType} {hh : List (Nat × Nat × Nat × Nat)} {f : sm_F} {o : sm_O} {as : List sm_V}
    (hcs : sm_Cs own idx 0 n 9 y bytes maxL ret hh) (hcon : sm_Con l G y (.code y bytes maxL ret) lev cost f) (hlev : lev + 1 ≤ R.frames ∧ maxL + 30 * lev + 119 ≤ R.locals) (hn : as.length + 1 = n) (hr4 : r.length ≤ 4) (hcost : cost ≤ b) (hf : f M (.inr (.inr (109, 0, 0)) :: as) = some o) (hd : decode cc pc = .ok (.invokevirtual idx, 3))
    (kk : ∀ M1 v, o = (M1, .ok v) → sm_Go p l e R s m args below meth c0 Q G nL (b - cost, pc + 3, M1, ls, v.toList ++ r))
    (kx : ∀ M1 x, o = (M1, .error x) → sm_GoX p l e R s m args below meth c0 Q G nL (b - cost, pc, M1, ls, r) x) :
    sm_Go p l e R s m args below meth c0 Q G nL (b, pc, M, ls, as.reverse ++ .inr (.inr (109, 0, 0)) :: r) := fun H locs LS cells slots h => by
  obtain ⟨hi, hse, hcw, hpn, hcy, hcls⟩ := hcs.2.2.2.2.1 rfl
  have hokst : sm_okl G (as.reverse ++ .inr (.inr (109, 0, 0)) :: r) := h.2.2.2.2.1
  have hok1 : sm_okv G (.inr (.inr (109, 0, 0))) := hokst _ (by simp)
  have hokr : sm_okl G r := fun z hz => hokst z (by simp [hz])
  have hoka : sm_okl G (.inr (.inr (109, 0, 0)) :: as) := sm_okl_cons.mpr ⟨hok1, fun z hz => hokst z (by simp [hz])⟩
  have hog : sm_og (sm_up G) 9 0 0 := by
    rcases hok1 with z | ⟨z, -⟩ | ⟨z, -⟩ | ⟨-, -, -, z⟩
    · exact z.1.elim
    · exact absurd z (by decide)
    · exact absurd z (by decide)
    · exact z
  have hat := h.1.2 9 0 0 hog
  rw [sm_en_obj hcy] at hat
  obtain ⟨cell, g1, g2, g3⟩ := va_recv hWf.1.1 (sm_one hat) (ci := 9) (q0 := 0) (sm_kl_get hcy) rfl
  have hrun := vx_runV (p := p) (e := e) (below := below) (meth := meth) (locs := locs) (cells := cells) (slots := slots) (g := F0 m pc LS ((as.reverse ++ .inr (.inr (109, 0, 0)) :: r).map (sm_c G))) (rest := r.map (sm_c G)) (As := as.map (sm_c G)) (n := n - 1) ⟨hx, hb, hml, hown, hts⟩ (hcon M _ o hoka hf) ⟨sm_CallB hts hcs hcw hlev (fun sig hs => by have := sm_plen1 hpn sig hs; omega), hts _ hi, hts _ hse⟩
    ⟨sm_blind G M _, ⟨cell, g1, g2, by rw [← hcls]; exact g3⟩, fun U hU hW => sm_pre (as := .inr (.inr (109, 0, 0)) :: as) hWf h.1 h.2.1 hU hW⟩ rfl (by rw [List.length_map]; omega) h.2.2.1.2.1 (by show (as.reverse ++ .inr (.inr (109, 0, 0)) :: r).map (sm_c G) = _; rw [List.map_append, List.map_cons, List.map_reverse]; rfl) (by have := sm_cat_sum (G := G) r; exact lv_room (by omega)) hd ⟨by have := h.2.2.2.2.2.1; simp only at this; omega, by have := h.2.2.2.2.2.2; simp only at this; omega⟩
  exact sd_back hcost hrun h.2.1 h.2.2.1 h.2.2.2.1 hokr h.2.2.2.2.2.1 h.2.2.2.2.2.2 kk kx
theorem sd_callS (hx : p.tables.exec = Jvm.exec) (hb : c0.code = cc) (hml : c0.maxLocals = nL) (hts : ∀ w ∈ sm_W, w.before args s = true) (hown : s.vm.findClass own = some m.cls) (hWf : sm_Wf G s) {idx kd n cy cost lev : Nat} {y : MethodName} {bytes : ByteArray} {maxL : Nat} {ret : Option FieldType} {hh : List (Nat × Nat × Nat × Nat)} {f : sm_F} {o : sm_O} {as : List sm_V} (hkd : kd ≠ 0)
    (hcs : sm_Cs own idx kd n cy y bytes maxL ret hh) (hcon : sm_Con l G y (sm_hd kd y bytes maxL ret hh) lev cost f) (hlev : lev + 1 ≤ R.frames ∧ maxL + 30 * lev + 119 ≤ R.locals) (hn : as.length = n) (hr4 : r.length ≤ 4) (hcost : cost ≤ b) (hf : f M as = some o) (hd : decode cc pc = .ok (.invokestatic idx, 3))
    (kk : ∀ M1 v, o = (M1, .ok v) → sm_Go p l e R s m args below meth c0 Q G nL (b - cost, pc + 3, M1, ls, v.toList ++ r))
    (kx : ∀ M1 x, o = (M1, .error x) → sm_GoX p l e R s m args below meth c0 Q G nL (b - cost, pc, M1, ls, r) x) :
    sm_Go p l e R s m args below meth c0 Q G nL (b, pc, M, ls, as.reverse ++ r) := fun H locs LS cells slots h => by
  have hokst : sm_okl G (as.reverse ++ r) := h.2.2.2.2.1
  have hokr : sm_okl G r := fun z hz => hokst z (by simp [hz])
  have hoka : sm_okl G as := fun z hz => hokst z (by simp [hz])
  have hroom : cells + cost ≤ R.cells ∧ slots + 6 * cost ≤ R.slots := ⟨by have := h.2.2.2.2.2.1; simp only at this; omega, by have := h.2.2.2.2.2.2; simp only at this; omega⟩
  have hlr : 2 * (F0 m pc LS ((as.reverse ++ r).map (sm_c G))).monitorRoom + ((r.map (sm_c G)).map fun v => v.category).sum ≤ 8 := by have := sm_cat_sum (G := G) r; exact lv_room (by omega)
  rcases (show kd = 1 ∨ kd = 2 by have := hcs.2.2.2.2.2.2.2; omega) with rfl | rfl
  · obtain ⟨hst, hcw, hpn⟩ := hcs.2.2.2.2.2.1 rfl
    have hrun := vx_runS (p := p) (e := e) (below := below) (meth := meth) (locs := locs) (cells := cells) (slots := slots) (g := F0 m pc LS ((as.reverse ++ r).map (sm_c G))) (rest := r.map (sm_c G)) (As := as.map (sm_c G)) (n := n) ⟨hx, hb, hml, hown, hts⟩ (hcon M _ o hoka hf) ⟨sm_CallB hts hcs hcw hlev (sm_plen hpn), hts _ hst⟩
      ⟨sm_blind G M _, fun U hU hW => sm_pre hWf h.1 h.2.1 hU hW⟩ rfl (by rw [List.length_map]; exact hn) h.2.2.1.2.1 (by show (as.reverse ++ r).map (sm_c G) = _; simp) hlr hd hroom
    exact sd_back hcost hrun h.2.1 h.2.2.1 h.2.2.2.1 hokr h.2.2.2.2.2.1 h.2.2.2.2.2.2 kk kx
  · obtain ⟨hst, hcw, hpn⟩ := hcs.2.2.2.2.2.2.1 rfl
    have hrun := vx_runSX (p := p) (e := e) (below := below) (meth := meth) (locs := locs) (cells := cells) (slots := slots) (g := F0 m pc LS ((as.reverse ++ r).map (sm_c G))) (rest := r.map (sm_c G)) (As := as.map (sm_c G)) (n := n) ⟨hx, hb, hml, hown, hts⟩ (hcon M _ o hoka hf)
      ⟨⟨rfl, rfl, hlev.1, by have := hlev.2; show 8 + (maxL + 11) + (30 * lev + 100) ≤ R.locals; omega, pay_in hts (sm_good hcw), List.mem_cons_self⟩, hts _ hcw, hts _ hcs.2.1, hcs.2.2.1, sm_plen hpn, hts _ hcs.1, hts _ hst⟩
      ⟨sm_blind G M _, fun U hU hW => sm_pre hWf h.1 h.2.1 hU hW⟩ rfl (by rw [List.length_map]; exact hn) h.2.2.1.2.1 (by show (as.reverse ++ r).map (sm_c G) = _; simp) hlr hd hroom
    exact sd_back hcost hrun h.2.1 h.2.2.1 h.2.2.2.1 hokr h.2.2.2.2.2.1 h.2.2.2.2.2.2 kk kx
theorem sd_min (hx : p.tables.exec = Jvm.exec) (hb : c0.code = cc) (hml : c0.maxLocals = nL) (hts : ∀ w ∈ sm_W, w.before args s = true) (hown : s.vm.findClass own = some m.cls) {idx : Nat} (hlk : Cond.methodLink own idx Lib.Math.min.name ∈ sm_W) (hw : Cond.static Lib.Math.min.name ∈ sm_W ∧ Cond.initialized "java/lang/Math" ∈ sm_W ∧ Cond.code Lib.Math.min.name Lib.Math.min.code 2 (some .int) ∈ sm_W) (hR : 1 ≤ R.frames ∧ 100 ≤ R.locals) (hr4 : r.length ≤ 4) {x y : Int32} (hd : decode cc pc = .ok (.invokestatic idx, 3))
    (kk : sm_Go p l e R s m args below meth c0 Q G nL (b, pc + 3, M, ls, .inl (if y < x then y else x) :: r)) : sm_Go p l e R s m args below meth c0 Q G nL (b, pc, M, ls, .inl y :: .inl x :: r) := fun H locs LS cells slots h =>
  va_mmin hx hb (hml.trans h.2.2.1.2.1.symm) hown (hts _ hlk) (hts _ hw.1) (hts _ hw.2.1) (hts _ hw.2.2) hR.1 (by have := sm_cat_sum (G := G) r; omega) (by have := h.2.2.2.2.2.1; simp only at this; omega) (by have := h.2.2.2.2.2.2; simp only at this; omega) hd (kk H locs LS cells slots (h.to fun q => sm_okl_cons.mpr ⟨trivial, (sm_okl_cons.mp (sm_okl_cons.mp q).2).2⟩))
theorem sd_switch (hx : p.tables.exec = Jvm.exec) (hb : c0.code = cc) {d lo hi off : Int} {offs : Array Int} {len : Nat} {x : Int32} {tgt : Nat} (hs : sm_sw lo hi offs d x = some off) (ht : (pc : Int) + off = (tgt : Int)) (hd : decode cc pc = .ok (.tableswitch d lo hi offs, len)) (kk : sm_Go p l e R s m args below meth c0 Q G nL (b, tgt, M, ls, r)) : sm_Go p l e R s m args below meth c0 Q G nL (b, pc, M, ls, .inl x :: r) := fun H locs LS cells slots h => by
  have k1 := kk H locs LS cells slots (h.to fun q => (sm_okl_cons.mp q).2)
  unfold sm_sw at hs
  split at hs
  · rename_i hq
    cases hs
    exact lv_tableOut hx hb hd hq ht k1
  · rename_i hq
    exact lv_tableIn hx hb hd (fun q => hq (Or.inl q)) (fun q => hq (Or.inr q)) hs ht k1
end SMC
