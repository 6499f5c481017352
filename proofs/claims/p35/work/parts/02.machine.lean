/-! THE ABSTRACT MACHINE: names (code, k, i) for the objects, which never move; locations (region, place) for all that changes -/
abbrev sm_N : Type := Nat × Nat × Nat
abbrev sm_V : Type := Int32 ⊕ (Int64 ⊕ sm_N)
abbrev sm_M : Type := (Nat → Nat → Int32) × Int64
abbrev sm_O : Type := sm_M × Except Nat (Option sm_V)
abbrev sm_L : Type := List (Option sm_V)
/-- budget of throws, pc, memory, variables, stack -/
abbrev sm_S : Type := Nat × Nat × sm_M × sm_L × List sm_V
abbrev sm_F : Type := sm_M → List sm_V → Option sm_O
abbrev sm_X : Type := Option (sm_S ⊕ sm_O)
/-- a called method: kind (0 virtual, 1 static, 2 static with a table), arguments, cost, code of the receiver, what it does -/
abbrev sm_K : Type := Nat × Nat × Nat × Nat × sm_F
/-- a method's tables: code; fields; calls; handlers; throws; long constants; int constants; library calls; the static array; arrays that nobody writes; the answer's kind -/
abbrev sm_T : Type := (Nat → Option (Instr × Nat)) × (Nat → Option (Nat × Nat)) × (Nat → Option sm_K) × (Nat → Nat → Option (Nat × Nat)) × (Nat → Option Nat) × (Nat → Option Int64) × (Nat → Option Int32) × (Nat → Nat) × (Nat → Option Nat) × (Nat → Option (Nat × (Nat → Int32))) × Nat
abbrev sm_tab (T : sm_T) := T.1
abbrev sm_fld (T : sm_T) := T.2.1
abbrev sm_cal (T : sm_T) := T.2.2.1
abbrev sm_hnd (T : sm_T) := T.2.2.2.1
abbrev sm_exn (T : sm_T) := T.2.2.2.2.1
abbrev sm_k64 (T : sm_T) := T.2.2.2.2.2.1
abbrev sm_k32 (T : sm_T) := T.2.2.2.2.2.2.1
abbrev sm_nat (T : sm_T) := T.2.2.2.2.2.2.2.1
abbrev sm_stc (T : sm_T) := T.2.2.2.2.2.2.2.2.1
abbrev sm_ro (T : sm_T) := T.2.2.2.2.2.2.2.2.2.1
abbrev sm_rk (T : sm_T) := T.2.2.2.2.2.2.2.2.2.2
/-- the fields: a name that never changes, or a location -/
def sm_fl (c k i f : Nat) : Option (sm_N ⊕ (Nat × Nat)) := match c with
  | 0 => (match f with | 0 => some (.inl (34, k, 0)) | 1 => some (.inl (35, k, 0)) | 2 => some (.inr (k, 14)) | _ => none)
  | 1 => if f < 6 then some (.inr (k, 39 + 6 * i + f)) else none
  | 2 => (match f with | 0 => some (.inl (40, 0, 0)) | 1 => some (.inr (24, 0)) | 2 => some (.inr (24, 1)) | _ => none)
  | 3 => (match f with | 0 => some (.inl (37, 0, 0)) | 1 => some (.inl (38, 0, 0)) | 2 => some (.inl (39, 0, 0)) | _ => none)
  | 4 => if f < 4 then some (.inr (k, 15 + 4 * i + f)) else none
  | 5 => (match f with | 0 => some (.inl (30, k, 0)) | 1 => some (.inl (31, k, 0)) | 2 => some (.inl (7, k, 0)) | 3 => some (.inl (8, k, 0)) | 4 => some (.inl (0, k, 0)) | 5 => some (.inr (k, 4)) | 6 => some (.inr (k, 5)) | 7 => some (.inr (k, 8)) | _ => none)
  | 6 => (match f with | 0 => some (.inl (36, 0, 0)) | 1 => some (.inr (19, 0)) | 2 => some (.inr (19, 1)) | 3 => some (.inr (19, 2)) | 4 => some (.inr (19, 3)) | 5 => some (.inr (19, 4)) | _ => none)
  | 7 => (match f with | 0 => some (.inl (32, k, 0)) | 1 => some (.inr (k, 7)) | 2 => some (.inr (k, 9)) | 3 => some (.inr (k, 10)) | 4 => some (.inr (k, 11)) | 5 => some (.inr (k, 12)) | 6 => some (.inr (k, 13)) | _ => none)
  | 8 => (match f with | 0 => some (.inl (33, k, 0)) | 1 => some (.inr (k, 6)) | _ => none)
  | 9 => (match f with | 0 => some (.inl (6, 0, 0)) | 1 => some (.inl (5, 0, 0)) | 2 => some (.inl (5, 1, 0)) | 3 => some (.inl (5, 2, 0)) | 4 => some (.inl (3, 0, 0)) | 5 => some (.inl (2, 0, 0)) | 6 => some (.inl (41, 0, 0)) | 7 => some (.inl (42, 0, 0)) | _ => none)
  | _ => none
/-- rows of ints (0), booleans (1), chars (2): kind, length, region, first place, step -/
def sm_ar (c k : Nat) : Option (Nat × Nat × Nat × Nat × Nat) := match c with
  | 32 => some (0, 4, k, 0, 1) | 33 => some (0, 24, k, 93, 1) | 34 => some (0, 20, k, 117, 2) | 35 => some (0, 20, k, 118, 2)
  | 36 => some (2, 120, 20, 0, 1) | 37 => some (0, 9, 21, 0, 1) | 38 => some (0, 9, 22, 0, 1) | 39 => some (1, 6, 23, 0, 1) | 42 => some (1, 2, 25, 0, 1)
  | 60 => some (0, 48, 40, 0, 1)
  | _ => none
/-- rows of references: kind, length, what stands there -/
def sm_ra (c k : Nat) : Option (Nat × Nat × (Nat → sm_N)) := match c with
  | 30 => some (4, 6, fun j => (4, k, j)) | 31 => some (5, 9, fun j => (1, k, j)) | 40 => some (6, 14, fun j => (5, 3 + j, 0)) | 41 => some (6, 2, fun j => (5, 17 + j, 0))
  | _ => none
def sm_st (M : sm_M) (a b : Nat) (x : Int32) : sm_M := (fun r j => if r = a ∧ j = b then x else M.1 r j, M.2)
def sm_g {α : Type} (c : Prop) [Decidable c] (x : Option α) : Option α := if c then x else none
def sm_nx (b pc : Nat) (M : sm_M) (ls : sm_L) (st : List sm_V) : sm_X := some (.inl (b, pc, M, ls, st))
def sm_i1 {α : Type} (st : List sm_V) (f : Int32 → List sm_V → Option α) : Option α := match st with | .inl x :: r => f x r | _ => none
def sm_i2 {α : Type} (st : List sm_V) (f : Int32 → Int32 → List sm_V → Option α) : Option α := match st with | .inl y :: .inl x :: r => f x y r | _ => none
def sm_l1 {α : Type} (st : List sm_V) (f : Int64 → List sm_V → Option α) : Option α := match st with | .inr (.inl x) :: r => f x r | _ => none
def sm_l2 {α : Type} (st : List sm_V) (f : Int64 → Int64 → List sm_V → Option α) : Option α := match st with | .inr (.inl y) :: .inr (.inl x) :: r => f x y r | _ => none
def sm_li {α : Type} (st : List sm_V) (f : Int64 → Int32 → List sm_V → Option α) : Option α := match st with | .inl y :: .inr (.inl x) :: r => f x y r | _ => none
def sm_r1 {α : Type} (st : List sm_V) (f : Nat → Nat → Nat → List sm_V → Option α) : Option α := match st with | .inr (.inr (c, k, i)) :: r => f c k i r | _ => none
def sm_ir {α : Type} (st : List sm_V) (f : Int32 → Nat → Nat → Nat → List sm_V → Option α) : Option α := match st with | .inl x :: .inr (.inr (c, k, i)) :: r => f x c k i r | _ => none
def sm_iir {α : Type} (st : List sm_V) (f : Int32 → Int32 → Nat → Nat → Nat → List sm_V → Option α) : Option α := match st with | .inl x :: .inl j :: .inr (.inr (c, k, i)) :: r => f x j c k i r | _ => none
def sm_lir {α : Type} (st : List sm_V) (f : Int64 → Int32 → Nat → Nat → Nat → List sm_V → Option α) : Option α := match st with | .inr (.inl x) :: .inl j :: .inr (.inr (c, k, i)) :: r => f x j c k i r | _ => none
/-- the value in a variable -/
def sm_lg (ls : sm_L) (i : Nat) : Option sm_V := match ls[i]? with | some (some v) => some v | _ => none
def sm_nl (v : Option sm_V) : Bool := match v with | some (.inr (.inl _)) => false | _ => true
/-- no long stands just before -/
def sm_lk (ls : sm_L) (i : Nat) : Bool := match i with | 0 => true | j + 1 => sm_nl ((ls[j]?).getD none)
def sm_s1 (ls : sm_L) (i : Nat) (v : sm_V) : Option sm_L := sm_g (i < ls.length ∧ sm_lk ls i = true) (some (ls.set i (some v)))
def sm_s2 (ls : sm_L) (i : Nat) (v : sm_V) : Option sm_L := sm_g (i + 1 < ls.length ∧ sm_lk ls i = true) (some ((ls.set i (some v)).set (i + 1) none))
def sm_c1 (v : sm_V) : Bool := match v with | .inr (.inl _) => false | _ => true
def sm_jp (b pc : Nat) (off : Int) (M : sm_M) (ls : sm_L) (st : List sm_V) : sm_X := sm_g (0 ≤ (pc : Int) + off) (sm_nx b ((pc : Int) + off).toNat M ls st)
def sm_br (b pc : Nat) (off : Int) (M : sm_M) (ls : sm_L) (st : List sm_V) (c : Prop) [Decidable c] : sm_X := sm_g (0 ≤ (pc : Int) + off) (if c then sm_nx b ((pc : Int) + off).toNat M ls st else sm_nx b (pc + 3) M ls st)
def sm_ld (T : sm_T) (M : sm_M) (tag c k : Nat) (j : Int32) : Option Int32 := match sm_ar c k with
  | some (t, n, r, o, s) => sm_g (t = tag ∧ ¬ (j < 0 ∨ n ≤ j.toNatClampNeg)) (some (M.1 r (o + s * j.toNatClampNeg)))
  | none => (match sm_ro T c with
    | some (n, f) => sm_g (tag = 0 ∧ ¬ (j < 0 ∨ n ≤ j.toNatClampNeg)) (some (f j.toNatClampNeg))
    | none => none)
def sm_sr (M : sm_M) (tag c k : Nat) (j x : Int32) : Option sm_M := match sm_ar c k with
  | some (t, n, r, o, s) => sm_g (t = tag ∧ ¬ (j < 0 ∨ n ≤ j.toNatClampNeg) ∧ (tag = 1 → x = 0 ∨ x = 1) ∧ (tag = 2 → 0 ≤ x ∧ x ≤ 65535)) (some (sm_st M r (o + s * j.toNatClampNeg) x))
  | none => none
def sm_ln (T : sm_T) (c k : Nat) : Option Nat := match sm_ar c k with
  | some (_, n, _) => some n
  | none => (match sm_ro T c with | some (n, _) => some n | none => none)
def sm_cp (M : sm_M) (r0 o0 s0 sp r1 o1 s1 dp n : Nat) : sm_M := (fun r j => if r = r1 ∧ o1 + s1 * dp ≤ j ∧ j < o1 + s1 * (dp + n) ∧ (j - o1) % s1 = 0 then M.1 r0 (o0 + s0 * (sp + ((j - o1) / s1 - dp))) else M.1 r j, M.2)
def sm_co (M : sm_M) (c k : Nat) (sp : Int32) (c2 k2 : Nat) (dp n : Int32) : Option sm_M := match sm_ar c k, sm_ar c2 k2 with
  | some (0, n0, r0, o0, s0), some (0, n1, r1, o1, s1) => sm_g (¬ sp < 0 ∧ ¬ dp < 0 ∧ ¬ n < 0 ∧ sp.toNatClampNeg + n.toNatClampNeg ≤ n0 ∧ dp.toNatClampNeg + n.toNatClampNeg ≤ n1) (some (sm_cp M r0 o0 s0 sp.toNatClampNeg r1 o1 s1 dp.toNatClampNeg n.toNatClampNeg))
  | _, _ => none
def sm_ac {α : Type} (st : List sm_V) (f : Nat → Nat → Int32 → Nat → Nat → Int32 → Int32 → List sm_V → Option α) : Option α := match st with | .inl n :: .inl dp :: .inr (.inr (c2, k2, 0)) :: .inl sp :: .inr (.inr (c, k, 0)) :: r => f c k sp c2 k2 dp n r | _ => none
/-- behind a call -/
def sm_bk (T : sm_T) (b pc cost : Nat) (ls : sm_L) (rest : List sm_V) (o : Option sm_O) : sm_X := match o with
  | none => none
  | some (M1, .ok r) => sm_nx (b - cost) (pc + 3) M1 ls (r.toList ++ rest)
  | some (M1, .error e) => (match sm_hnd T pc e with
    | some (pc1, k) => sm_g (sm_lk ls k = true) (sm_nx (b - cost) pc1 M1 (ls.set k none) [])
    | none => sm_g (sm_rk T < 10) (some (.inr (M1, .error e))))
def sm_cv (c : Nat) (as : List sm_V) : Bool := match as with | .inr (.inr (c1, k1, i1)) :: _ => c1 == c || (c == 9 && c1 == 109 && k1 == 0 && i1 == 0) | _ => false
def sm_in (T : sm_T) (b pc : Nat) (M : sm_M) (ls : sm_L) (st : List sm_V) (virt : Bool) (idx : Nat) : sm_X := match sm_cal T idx with
  | none => none
  | some (kd, n, cost, c, f) => sm_g (n ≤ st.length ∧ (st.drop n).length ≤ 4 ∧ cost ≤ b ∧ (virt = true → kd = 0 ∧ sm_cv c (st.take n).reverse = true) ∧ (virt = false → kd ≠ 0)) (sm_bk T b pc cost ls (st.drop n) (f M (st.take n).reverse))
def sm_sw (lo hi : Int) (offs : Array Int) (d : Int) (x : Int32) : Option Int := if x.toInt < lo ∨ hi < x.toInt then some d else offs[(x.toInt - lo).toNat]?
def sm_cm (c : ClassFile.Cond) (x y : Int32) : Prop := match c with | .eq => x = y | .ne => x ≠ y | .lt => x < y | .ge => y ≤ x | .gt => y < x | .le => x ≤ y
/-- the law's row of 48 ints, made anew: a variable that held the one before holds nothing -/
def sm_cl (v : Option sm_V) : Option sm_V := match v with | some (.inr (.inr (60, _, _))) => none | v => v
def sm_z6 (M : sm_M) : sm_M := (fun r j => if r = 40 then 0 else M.1 r j, M.2)
/-- one instruction -/
def sm_op (T : sm_T) (b pc : Nat) (M : sm_M) (ls : sm_L) (st : List sm_V) (len : Nat) (i : Instr) : sm_X := match i with
  | .iconst n => sm_g (len = 1) (sm_nx b (pc + 1) M ls (.inl (Int32.ofInt n) :: st))
  | .bipush n => sm_g (len = 2) (sm_nx b (pc + 2) M ls (.inl (Int8.ofInt n).toInt32 :: st))
  | .sipush n => sm_g (len = 3) (sm_nx b (pc + 3) M ls (.inl (Int16.ofInt n).toInt32 :: st))
  | .lconst n => sm_g (len = 1) (sm_nx b (pc + 1) M ls (.inr (.inl (Int64.ofNat (n : Nat))) :: st))
  | .ldc x => sm_g (len = 2) (match sm_k32 T x with | some v => sm_nx b (pc + 2) M ls (.inl v :: st) | none => none)
  | .ldc_w x => sm_g (len = 3) (match sm_k32 T x with | some v => sm_nx b (pc + 3) M ls (.inl v :: st) | none => none)
  | .ldc2_w x => sm_g (len = 3) (match sm_k64 T x with | some v => sm_nx b (pc + 3) M ls (.inr (.inl v) :: st) | none => none)
  | .iload_n k => sm_g (len = 1) (match sm_lg ls k with | some (.inl x) => sm_nx b (pc + 1) M ls (.inl x :: st) | _ => none)
  | .iload k => sm_g (len = 2) (match sm_lg ls k with | some (.inl x) => sm_nx b (pc + 2) M ls (.inl x :: st) | _ => none)
  | .lload_n k => sm_g (len = 1) (match sm_lg ls k with | some (.inr (.inl x)) => sm_nx b (pc + 1) M ls (.inr (.inl x) :: st) | _ => none)
  | .lload k => sm_g (len = 2) (match sm_lg ls k with | some (.inr (.inl x)) => sm_nx b (pc + 2) M ls (.inr (.inl x) :: st) | _ => none)
  | .aload_n k => sm_g (len = 1) (match sm_lg ls k with | some (.inr (.inr x)) => sm_nx b (pc + 1) M ls (.inr (.inr x) :: st) | _ => none)
  | .aload k => sm_g (len = 2) (match sm_lg ls k with | some (.inr (.inr x)) => sm_nx b (pc + 2) M ls (.inr (.inr x) :: st) | _ => none)
  | .istore_n k => sm_g (len = 1) (sm_i1 st fun x r => match sm_s1 ls k (.inl x) with | some l1 => sm_nx b (pc + 1) M l1 r | none => none)
  | .istore k => sm_g (len = 2) (sm_i1 st fun x r => match sm_s1 ls k (.inl x) with | some l1 => sm_nx b (pc + 2) M l1 r | none => none)
  | .lstore_n k => sm_g (len = 1) (sm_l1 st fun x r => match sm_s2 ls k (.inr (.inl x)) with | some l1 => sm_nx b (pc + 1) M l1 r | none => none)
  | .lstore k => sm_g (len = 2) (sm_l1 st fun x r => match sm_s2 ls k (.inr (.inl x)) with | some l1 => sm_nx b (pc + 2) M l1 r | none => none)
  | .astore_n k => sm_g (len = 1) (sm_r1 st fun c n i r => match sm_s1 ls k (.inr (.inr (c, n, i))) with | some l1 => sm_nx b (pc + 1) M l1 r | none => none)
  | .astore k => sm_g (len = 2) (sm_r1 st fun c n i r => match sm_s1 ls k (.inr (.inr (c, n, i))) with | some l1 => sm_nx b (pc + 2) M l1 r | none => none)
  | .iinc k n => sm_g (len = 3) (match sm_lg ls k with | some (.inl x) => (match sm_s1 ls k (.inl (x + Int32.ofInt n)) with | some l1 => sm_nx b (pc + 3) M l1 st | none => none) | _ => none)
  | .iadd => sm_g (len = 1) (sm_i2 st fun x y r => sm_nx b (pc + 1) M ls (.inl (x + y) :: r))
  | .isub => sm_g (len = 1) (sm_i2 st fun x y r => sm_nx b (pc + 1) M ls (.inl (x - y) :: r))
  | .imul => sm_g (len = 1) (sm_i2 st fun x y r => sm_nx b (pc + 1) M ls (.inl (x * y) :: r))
  | .idiv => sm_g (len = 1) (sm_i2 st fun x y r => sm_g (¬ y = 0) (sm_nx b (pc + 1) M ls (.inl (x / y) :: r)))
  | .irem => sm_g (len = 1) (sm_i2 st fun x y r => sm_g (¬ y = 0) (sm_nx b (pc + 1) M ls (.inl (x - x / y * y) :: r)))
  | .iand => sm_g (len = 1) (sm_i2 st fun x y r => sm_nx b (pc + 1) M ls (.inl (x &&& y) :: r))
  | .ishl => sm_g (len = 1) (sm_i2 st fun x y r => sm_nx b (pc + 1) M ls (.inl (x <<< (y &&& 31)) :: r))
  | .ior => sm_g (len = 1) (sm_i2 st fun x y r => sm_nx b (pc + 1) M ls (.inl (x ||| y) :: r))
  | .newarray .int => sm_g (len = 2) (match sm_exn T pc with | some 60 => (match st with | [.inl x] => sm_g (x = 48 ∧ 9 ≤ b) (sm_nx (b - 9) (pc + 2) (sm_z6 M) (ls.map sm_cl) [.inr (.inr (60, 0, 0))]) | _ => none) | _ => none)
  | .ineg => sm_g (len = 1) (sm_i1 st fun x r => sm_nx b (pc + 1) M ls (.inl (-x) :: r))
  | .ladd => sm_g (len = 1) (sm_l2 st fun x y r => sm_nx b (pc + 1) M ls (.inr (.inl (x + y)) :: r))
  | .lsub => sm_g (len = 1) (sm_l2 st fun x y r => sm_nx b (pc + 1) M ls (.inr (.inl (x - y)) :: r))
  | .lmul => sm_g (len = 1) (sm_l2 st fun x y r => sm_nx b (pc + 1) M ls (.inr (.inl (x * y)) :: r))
  | .ldiv => sm_g (len = 1) (sm_l2 st fun x y r => sm_g (¬ y = 0) (sm_nx b (pc + 1) M ls (.inr (.inl (x / y)) :: r)))
  | .lrem => sm_g (len = 1) (sm_l2 st fun x y r => sm_g (¬ y = 0) (sm_nx b (pc + 1) M ls (.inr (.inl (x - x / y * y)) :: r)))
  | .land => sm_g (len = 1) (sm_l2 st fun x y r => sm_nx b (pc + 1) M ls (.inr (.inl (x &&& y)) :: r))
  | .lor => sm_g (len = 1) (sm_l2 st fun x y r => sm_nx b (pc + 1) M ls (.inr (.inl (x ||| y)) :: r))
  | .lshl => sm_g (len = 1) (sm_li st fun x y r => sm_nx b (pc + 1) M ls (.inr (.inl (x <<< (y.toInt64 &&& 63))) :: r))
  | .lushr => sm_g (len = 1) (sm_li st fun x y r => sm_nx b (pc + 1) M ls (.inr (.inl (x.toUInt64 >>> (y.toInt64.toUInt64 &&& Int64.toUInt64 63)).toInt64) :: r))
  | .lcmp => sm_g (len = 1) (sm_l2 st fun x y r => sm_nx b (pc + 1) M ls (.inl (lg_cmp x y) :: r))
  | .i2l => sm_g (len = 1) (sm_i1 st fun x r => sm_nx b (pc + 1) M ls (.inr (.inl x.toInt64) :: r))
  | .l2i => sm_g (len = 1) (sm_l1 st fun x r => sm_nx b (pc + 1) M ls (.inl x.toInt32 :: r))
  | .i2c => sm_g (len = 1) (sm_i1 st fun x r => sm_nx b (pc + 1) M ls (.inl (x.toUInt32 % 65536).toInt32 :: r))
  | .dup => sm_g (len = 1) (match st with | v :: r => sm_g (sm_c1 v = true) (sm_nx b (pc + 1) M ls (v :: v :: r)) | _ => none)
  | .pop => sm_g (len = 1) (match st with | v :: r => sm_g (sm_c1 v = true) (sm_nx b (pc + 1) M ls r) | _ => none)
  | .dup2 => sm_g (len = 1) (match st with | v :: w :: r => sm_g (sm_c1 v = true ∧ sm_c1 w = true) (sm_nx b (pc + 1) M ls (v :: w :: v :: w :: r)) | _ => none)
  | .goto off => sm_g (len = 3) (sm_jp b pc off M ls st)
  | .ifCond .eq off => sm_g (len = 3) (sm_i1 st fun x r => sm_br b pc off M ls r (x = 0))
  | .ifCond .ne off => sm_g (len = 3) (sm_i1 st fun x r => sm_br b pc off M ls r (¬ x = 0))
  | .ifCond .lt off => sm_g (len = 3) (sm_i1 st fun x r => sm_br b pc off M ls r (x < 0))
  | .ifCond .ge off => sm_g (len = 3) (sm_i1 st fun x r => sm_br b pc off M ls r (0 ≤ x))
  | .ifCond .gt off => sm_g (len = 3) (sm_i1 st fun x r => sm_br b pc off M ls r (0 < x))
  | .ifCond .le off => sm_g (len = 3) (sm_i1 st fun x r => sm_br b pc off M ls r (x ≤ 0))
  | .if_icmp .eq off => sm_g (len = 3) (sm_i2 st fun x y r => sm_br b pc off M ls r (x = y))
  | .if_icmp .ne off => sm_g (len = 3) (sm_i2 st fun x y r => sm_br b pc off M ls r (¬ x = y))
  | .if_icmp .lt off => sm_g (len = 3) (sm_i2 st fun x y r => sm_br b pc off M ls r (x < y))
  | .if_icmp .ge off => sm_g (len = 3) (sm_i2 st fun x y r => sm_br b pc off M ls r (y ≤ x))
  | .if_icmp .gt off => sm_g (len = 3) (sm_i2 st fun x y r => sm_br b pc off M ls r (y < x))
  | .if_icmp .le off => sm_g (len = 3) (sm_i2 st fun x y r => sm_br b pc off M ls r (x ≤ y))
  | .tableswitch d lo hi offs => sm_i1 st fun x r => match sm_sw lo hi offs d x with | some off => sm_jp b pc off M ls r | none => none
  | .getfield x => sm_g (len = 3) (sm_r1 st fun c k i r => match sm_fld T x with
    | some (ci, f) => sm_g (c = ci) (match sm_fl c k i f with
      | some (.inl n) => sm_nx b (pc + 3) M ls (.inr (.inr n) :: r)
      | some (.inr (a, j)) => sm_nx b (pc + 3) M ls (.inl (M.1 a j) :: r)
      | none => none)
    | none => none)
  | .putfield x => sm_g (len = 3) (sm_ir st fun v c k i r => match sm_fld T x with
    | some (ci, f) => sm_g (c = ci ∧ (ci = 1 ∧ f = 2 → v = 0 ∨ v = 1)) (match sm_fl c k i f with
      | some (.inr (a, j)) => sm_nx b (pc + 3) (sm_st M a j v) ls r
      | _ => none)
    | none => none)
  | .getstatic x => sm_g (len = 3) (match sm_stc T x with | some c => sm_nx b (pc + 3) M ls (.inr (.inr (c, 0, 0)) :: st) | none => none)
  | .arraylength => sm_g (len = 1) (sm_r1 st fun c k i r => sm_g (i = 0) (match sm_ln T c k with | some n => sm_nx b (pc + 1) M ls (.inl (Int32.ofNat n) :: r) | none => none))
  | .iaload => sm_g (len = 1) (sm_ir st fun j c k i r => sm_g (i = 0) (match sm_ld T M 0 c k j with | some v => sm_nx b (pc + 1) M ls (.inl v :: r) | none => none))
  | .baload => sm_g (len = 1) (sm_ir st fun j c k i r => sm_g (i = 0) (match sm_ld T M 1 c k j with | some v => sm_nx b (pc + 1) M ls (.inl v :: r) | none => none))
  | .caload => sm_g (len = 1) (sm_ir st fun j c k i r => sm_g (i = 0) (match sm_ld T M 2 c k j with | some v => sm_nx b (pc + 1) M ls (.inl v :: r) | none => none))
  | .aaload => sm_g (len = 1) (sm_ir st fun j c k i r => sm_g (i = 0) (match sm_ra c k with | some (_, n, f) => sm_g (¬ (j < 0 ∨ n ≤ j.toNatClampNeg)) (sm_nx b (pc + 1) M ls (.inr (.inr (f j.toNatClampNeg)) :: r)) | none => none))
  | .iastore => sm_g (len = 1) (sm_iir st fun x j c k i r => sm_g (i = 0) (match sm_sr M 0 c k j x with | some M1 => sm_nx b (pc + 1) M1 ls r | none => none))
  | .bastore => sm_g (len = 1) (sm_iir st fun x j c k i r => sm_g (i = 0) (match sm_sr M 1 c k j x with | some M1 => sm_nx b (pc + 1) M1 ls r | none => none))
  | .castore => sm_g (len = 1) (sm_iir st fun x j c k i r => sm_g (i = 0) (match sm_sr M 2 c k j x with | some M1 => sm_nx b (pc + 1) M1 ls r | none => none))
  | .invokevirtual x => sm_g (len = 3) (sm_in T b pc M ls st true x)
  | .invokestatic x => sm_g (len = 3) (match sm_nat T x with
    | 0 => sm_in T b pc M ls st false x
    | 1 => sm_i2 st fun x y r => sm_g (r.length ≤ 4) (sm_nx b (pc + 3) M ls (.inl (if y < x then y else x) :: r))
    | 2 => sm_i2 st fun x y r => sm_g (r.length ≤ 4) (sm_nx b (pc + 3) M ls (.inl (if x < y then y else x) :: r))
    | 3 => sm_ac st fun c k sp c2 k2 dp n r => sm_g (r.length ≤ 4) (match sm_co M c k sp c2 k2 dp n with | some M1 => sm_nx b (pc + 3) M1 ls r | none => none)
    | _ => none)
  | .new _ => sm_g (len = 3) (match sm_exn T pc with | some e => sm_g (st.length ≤ 4 ∧ 1 ≤ b ∧ e ≠ 60) (some (.inr (M, .error e))) | none => none)
  | .ireturn => sm_g (len = 1) (match st with | [.inl x] => sm_g (sm_rk T = 1 ∨ sm_rk T = 11 ∨ (sm_rk T = 2 ∧ (x = 0 ∨ x = 1))) (some (.inr (M, .ok (some (.inl x))))) | _ => none)
  | .lreturn => sm_g (len = 1) (match st with | [.inr (.inl x)] => sm_g (sm_rk T = 3) (some (.inr (M, .ok (some (.inr (.inl x)))))) | _ => none)
  | .areturn => sm_g (len = 1) (match st with | [.inr (.inr x)] => sm_g (sm_rk T = 4) (some (.inr (M, .ok (some (.inr (.inr x)))))) | _ => none)
  | .return_ => sm_g (len = 1) (match st with | [] => sm_g (sm_rk T = 0) (some (.inr (M, .ok none))) | _ => none)
  | _ => none
def sm_ex (T : sm_T) (S : sm_S) : sm_X := match sm_tab T S.2.1 with
  | none => none
  | some (i, len) => sm_op T S.1 S.2.1 S.2.2.1 S.2.2.2.1 S.2.2.2.2 len i
def sm_run (T : sm_T) : Nat → sm_S → Option sm_O
  | 0, _ => none
  | n + 1, S => (match sm_ex T S with | none => none | some (.inl S1) => sm_run T n S1 | some (.inr o) => some o)
/-- what the machine comes to, if it comes to an end -/
noncomputable def sm_R (T : sm_T) (S : sm_S) : Option sm_O := @dite _ (∃ n o, sm_run T n S = some o) (Classical.propDecidable _) (fun h => sm_run T h.choose S) (fun _ => none)
theorem sm_run_mono {T : sm_T} : ∀ (n : Nat) (S : sm_S) (o : sm_O), sm_run T n S = some o → ∀ m, n ≤ m → sm_run T m S = some o
  | 0, _, _, h, _, _ => by cases h
  | n + 1, S, o, h, m, hm => by
    obtain ⟨m1, rfl⟩ : ∃ m1, m = m1 + 1 := ⟨m - 1, by omega⟩
    simp only [sm_run] at h ⊢
    split at h
    · cases h
    · exact sm_run_mono n _ _ h m1 (by omega)
    · exact h
theorem sm_R_of {T : sm_T} {S : sm_S} {o : sm_O} (h : sm_R T S = some o) : ∃ n, sm_run T n S = some o := by
  unfold sm_R at h
  by_cases hc : ∃ n o, sm_run T n S = some o
  · rw [dif_pos hc] at h
    exact ⟨_, h⟩
  · rw [dif_neg hc] at h
    cases h
theorem sm_R_some {T : sm_T} {S : sm_S} {o : sm_O} {n : Nat} (h : sm_run T n S = some o) : sm_R T S = some o := by
  have hc : ∃ n o, sm_run T n S = some o := ⟨n, o, h⟩
  unfold sm_R
  rw [dif_pos hc]
  obtain ⟨o1, h1⟩ := hc.choose_spec
  have h2 := sm_run_mono _ _ _ h1 (hc.choose + n) (by omega)
  have h3 := sm_run_mono _ _ _ h (hc.choose + n) (by omega)
  rw [h1, ← h2, h3]
theorem sm_R_eq (T : sm_T) (S : sm_S) : sm_R T S = (match sm_ex T S with | none => none | some (.inl S1) => sm_R T S1 | some (.inr o) => some o) := by
  cases hx : sm_ex T S with
  | none =>
    show sm_R T S = none
    cases hr : sm_R T S with
    | none => rfl
    | some o =>
      obtain ⟨n, h⟩ := sm_R_of hr
      cases n with
      | zero => cases h
      | succ n => simp [sm_run, hx] at h
  | some z =>
    cases z with
    | inl S1 =>
      show sm_R T S = sm_R T S1
      cases hr : sm_R T S1 with
      | none =>
        cases hs : sm_R T S with
        | none => rfl
        | some o =>
          obtain ⟨n, h⟩ := sm_R_of hs
          cases n with
          | zero => cases h
          | succ n =>
            simp only [sm_run, hx] at h
            rw [sm_R_some h] at hr
            cases hr
      | some o =>
        obtain ⟨n, h⟩ := sm_R_of hr
        exact sm_R_some (n := n + 1) (by simp only [sm_run, hx]; exact h)
    | inr o => exact sm_R_some (n := 1) (by simp only [sm_run, hx])
