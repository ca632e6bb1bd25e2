/-! ===== THE WALKING LAYER: a judgement kG over worlds, locals and stack that are lists, and a rule an instruction ===== -/
abbrev kW (y : MethodName) (b : ByteArray) (n : Nat) (r : Option FieldType) : List Cond := Cond.code y b n r :: wsL_law0
def sru (x y : Int32) : Int32 := (x.toUInt32 >>> (y.toUInt32 &&& Int32.toUInt32 31)).toInt32
def shl (x y : Int32) : Int32 := x <<< (y &&& 31)
def shr (x y : Int32) : Int32 := x >>> (y &&& 31)
def lsru (x : Int64) (y : Int32) : Int64 := (x.toUInt64 >>> (y.toInt64.toUInt64 &&& Int64.toUInt64 63)).toInt64
def lshl (x : Int64) (y : Int32) : Int64 := x <<< (y.toInt64 &&& 63)
def lshr (x : Int64) (y : Int32) : Int64 := x >>> (y.toInt64 &&& 63)
def irem (x y : Int32) : Int32 := x - x / y * y
def lrem (x y : Int64) : Int64 := x - x / y * y
/-- the links between nest mates -/
def kNest (U : State) : Prop :=
  va_Nw (.methodLinkNest RX0 19 yX10_ones RX10) U ∧ va_Nw (.methodLinkNest RX0 59 yX10_signed RX10) U ∧ va_Nw (.methodLinkNest RX2 32 yX10_ones RX10) U ∧
  va_Nw (.methodLinkNest RX4 133 yX10_signed RX10) U ∧ va_Nw (.methodLinkNest RX4 141 yX10_ones RX10) U ∧ va_Nw (.methodLinkNest RX5 44 yX10_ones RX10) U ∧ va_Nw (.methodLinkNest RX10 25 yX3_init RX10) U
theorem kNest.warm {s U : State} (hW : s.WarmedH U.vm) (h : kNest s) : kNest U := by
  obtain ⟨a, b, c, d, e, f, g⟩ := h
  exact ⟨a.warmM hW, b.warmM hW, c.warmM hW, d.warmM hW, e.warmM hW, f.warmM hW, g.warmM hW⟩
theorem kNest.same {u U : State} (hv : u.vm = U.vm) (h : kNest u) : kNest U := by
  obtain ⟨a, b, c, d, e, f, g⟩ := h
  exact ⟨a.same rfl hv, b.same rfl hv, c.same rfl hv, d.same rfl hv, e.same rfl hv, f.same rfl hv, g.same rfl hv⟩
/-- the table of kinds, as the Statement gives it -/
def kTab : List Int32 := [225, 0, 97, 193, 97, 97, 97, 97, 0, 225, 225, 225, 247, 0, 243, 212, 227, 228, 99, 100, 0, 0, 0, 229, 226, 226, 98, 98, 226, 226, 194, 194, 225, 225, 97, 97, 0, 225, 0, 225, 225, 225, 225, 225, 230, 230, 230, 230, 43, 43, 0, 0, 0, 0, 0, 0, 0, 0, 0, 0, 0, 0, 0, 0, 42, 42, 42, 42, 42, 42, 42, 42, 97, 97, 97, 97, 0, 0, 85, 86, 113, 0, 41, 0, 46, 0, 0, 57, 44, 44, 44, 44, 44, 44, 44, 44, 97, 97, 97, 97, 97, 97, 97, 97, 0, 97, 0, 97, 0, 97, 0, 97, 103, 103, 103, 103, 104, 104, 104, 104, 103, 0, 103, 103, 103, 103, 71, 103]
def kKinds (j : Nat) : Int32 := kTab.getD j 0
def kKD (A : Nat → Prop) (U : State) (H : Heap) : Prop := ∃ t : Nat, va_Z "StripMachine$Decoder" "KINDS" "[I" (.ref t) A U H ∧ va_T .int t 128 (fun j => .int (kKinds j)) A U H
theorem kKD.to {A B : Nat → Prop} {u U : State} {H H1 : Heap} (h : kKD A u H) (hq : ∀ a : Nat, a < H.size → ¬ A a → H1[a]? = H[a]?) (hAB : ∀ q, B q → A q) (hvm : u.vm.Alike U.vm) : kKD B U H1 := by
  obtain ⟨t, h1, h2⟩ := h
  exact ⟨t, ((h1.kept hq).narrow hAB).moved hvm, ((h2.kept hq).narrow hAB).moved hvm⟩
def kEn (D : va_G) (ty : List (ClassId × FieldType)) (A : Nat → Prop) (U : State) (H : Heap) : Prop := va_K D vwCl ty U ∧ kNest U ∧ kKD A U H
/-- a contract's start and end -/
def kPc (av : List Value) (D : va_G) (ty : List (ClassId × FieldType)) (w0 : va_W) (sz : Nat) : Array Value → State → Prop :=
  va_Pc av (fun U => U.heap.size = sz ∧ va_P D vwCl w0 U.heap ∧ kEn D ty (va_A w0 sz) U U.heap ∧ va_D (fun _ => True) w0)
def kQ (D : va_G) (r : Option Value) (w1 : va_W) (A : Nat → Prop) : Array Value → State → Outcome → State → Prop := fun _ st oc t =>
  oc = .returned r ∧ va_P D vwCl w1 t.heap ∧ va_D A w1 ∧ va_F A st t
/-- a CONTRACT: from a heap that holds w0 the method returns r, the heap holds w1, nothing else has changed -/
def kM (l : Launch) (y : MethodName) (b : ByteArray) (n : Nat) (ret : Option FieldType) (fr lo : Nat) (mc ms : Nat) (D : va_G) (ty : List (ClassId × FieldType)) (av : List Value) (w0 : va_W) (r : Option Value) (w1 : va_W) : Prop :=
  ∀ sz : Nat, Met l y (kW y b n ret) ({ frames := fr, cells := mc, slots := ms, locals := lo }) (kPc av D ty w0 sz) (kQ D r w1 (va_A w0 sz)) mc ms (va_A w0 sz)
def kCx (p : Program) (R : Room) (m : MethodId) (c : Code) (cc : ByteArray) (nL : Nat) (s : State) (args : Array Value) (own : String) (D : va_G) (ty : List (ClassId × FieldType)) (A : Nat → Prop) (fr lo : Nat) : Prop :=
  CallFix p m c cc nL s args wsL_law0 own ∧ kEn D ty A s s.heap ∧ (∀ q : Nat, s.heap.size ≤ q → A q) ∧ R.frames = fr ∧ R.locals = lo
def kG (p : Program) (l : Launch) (e : Env) (R : Room) (s : State) (m : MethodId) (args : Array Value) (below : List Frame) (meth : Method) (c : Code) (D : va_G) (A : Nat → Prop) (nL : Nat) (Q : State → Prop) (cells slots : Nat) (ws : va_W) (lv : List (Nat × Value)) (st : List Value) (pc : Nat) : Prop :=
  ∀ (H : Heap) (locs : List Loc) (ls : Array Slot), va_P D vwCl ws H → va_D A ws → va_S A s.heap H locs → lv_has ls nL lv → W p l e R s m args below meth c H locs cells slots Q (F0 m pc ls st)
section KR
variable {p : Program} {l : Launch} {e : Env} {R : Room} {s : State} {m : MethodId} {args : Array Value} {below : List Frame} {meth : Method} {c : Code} {cc : ByteArray} {nL : Nat} {own : String} {D : va_G} {ty : List (ClassId × FieldType)} {A : Nat → Prop} {Q : State → Prop} {cells slots fr lo : Nat}
variable {ws : va_W} {lv : List (Nat × Value)} {st : List Value} {pc pc' : Nat}
theorem k_iconst (X : kCx p R m c cc nL s args own D ty A fr lo) {n : Int} {v : Int32} (d : decode cc pc = .ok (.iconst n, 1)) (hv : Int32.ofInt n = v) (hp : pc + 1 = pc') (k : kG p l e R s m args below meth c D A nL Q cells slots ws lv (.int v :: st) pc') : kG p l e R s m args below meth c D A nL Q cells slots ws lv st pc := by
  subst hp; intro H locs ls hP hD hS hl; exact lv_iconst X.1.1 X.1.2.1 d hv (k H locs ls hP hD hS hl)
theorem k_bipush (X : kCx p R m c cc nL s args own D ty A fr lo) {n : Int} {v : Int32} (d : decode cc pc = .ok (.bipush n, 2)) (hv : (Int8.ofInt n).toInt32 = v) (hp : pc + 2 = pc') (k : kG p l e R s m args below meth c D A nL Q cells slots ws lv (.int v :: st) pc') : kG p l e R s m args below meth c D A nL Q cells slots ws lv st pc := by
  subst hp; intro H locs ls hP hD hS hl; exact lv_bipush X.1.1 X.1.2.1 d hv (k H locs ls hP hD hS hl)
theorem k_sipush (X : kCx p R m c cc nL s args own D ty A fr lo) {n : Int} {v : Int32} (d : decode cc pc = .ok (.sipush n, 3)) (hv : (Int16.ofInt n).toInt32 = v) (hp : pc + 3 = pc') (k : kG p l e R s m args below meth c D A nL Q cells slots ws lv (.int v :: st) pc') : kG p l e R s m args below meth c D A nL Q cells slots ws lv st pc := by
  subst hp; intro H locs ls hP hD hS hl; exact lv_sipush X.1.1 X.1.2.1 d hv (k H locs ls hP hD hS hl)
theorem k_lconst (X : kCx p R m c cc nL s args own D ty A fr lo) {n : Fin 2} {v : Int64} (d : decode cc pc = .ok (.lconst n, 1)) (hv : Int64.ofNat (n : Nat) = v) (hp : pc + 1 = pc') (k : kG p l e R s m args below meth c D A nL Q cells slots ws lv (.long v :: st) pc') : kG p l e R s m args below meth c D A nL Q cells slots ws lv st pc := by
  subst hp; intro H locs ls hP hD hS hl; exact lv_lconst X.1.1 X.1.2.1 d hv (k H locs ls hP hD hS hl)
theorem k_ldc (X : kCx p R m c cc nL s args own D ty A fr lo) {index : Nat} {v : Int32} (hq : Cond.constant own index v ∈ wsL_law0) (d : decode cc pc = .ok (.ldc index, 2)) (hp : pc + 2 = pc') (k : kG p l e R s m args below meth c D A nL Q cells slots ws lv (.int v :: st) pc') : kG p l e R s m args below meth c D A nL Q cells slots ws lv st pc := by
  subst hp; intro H locs ls hP hD hS hl; exact lv_ldc X.1.1 X.1.2.1 X.1.2.2.2.1 (X.1.2.2.2.2 _ hq) d (k H locs ls hP hD hS hl)
theorem k_ldc2 (X : kCx p R m c cc nL s args own D ty A fr lo) {index : Nat} {v : Int64} (hq : Cond.constantLong own index v ∈ wsL_law0) (d : decode cc pc = .ok (.ldc2_w index, 3)) (hp : pc + 3 = pc') (k : kG p l e R s m args below meth c D A nL Q cells slots ws lv (.long v :: st) pc') : kG p l e R s m args below meth c D A nL Q cells slots ws lv st pc := by
  subst hp; intro H locs ls hP hD hS hl; exact lv_ldc2 X.1.1 X.1.2.1 X.1.2.2.2.1 (X.1.2.2.2.2 _ hq) d (k H locs ls hP hD hS hl)
theorem k_iload_n (X : kCx p R m c cc nL s args own D ty A fr lo) {k : Fin 4} {i : Nat} {x : Int32} (d : decode cc pc = .ok (.iload_n k, 1)) (hi : (k : Nat) = i) (j : Nat) (hk : lv[j]? = some (i, .int x)) (hp : pc + 1 = pc') (g : kG p l e R s m args below meth c D A nL Q cells slots ws lv (.int x :: st) pc') : kG p l e R s m args below meth c D A nL Q cells slots ws lv st pc := by
  subst hp; intro H locs ls hP hD hS hl; exact lv_iload_n X.1.1 X.1.2.1 d hi (lv_at hl j hk) (g H locs ls hP hD hS hl)
theorem k_iload (X : kCx p R m c cc nL s args own D ty A fr lo) {i : Nat} {x : Int32} (d : decode cc pc = .ok (.iload i, 2)) (j : Nat) (hk : lv[j]? = some (i, .int x)) (hp : pc + 2 = pc') (g : kG p l e R s m args below meth c D A nL Q cells slots ws lv (.int x :: st) pc') : kG p l e R s m args below meth c D A nL Q cells slots ws lv st pc := by
  subst hp; intro H locs ls hP hD hS hl; exact lv_iload X.1.1 X.1.2.1 d (lv_at hl j hk) (g H locs ls hP hD hS hl)
theorem k_lload_n (X : kCx p R m c cc nL s args own D ty A fr lo) {k : Fin 4} {i : Nat} {x : Int64} (d : decode cc pc = .ok (.lload_n k, 1)) (hi : (k : Nat) = i) (j : Nat) (hk : lv[j]? = some (i, .long x)) (hp : pc + 1 = pc') (g : kG p l e R s m args below meth c D A nL Q cells slots ws lv (.long x :: st) pc') : kG p l e R s m args below meth c D A nL Q cells slots ws lv st pc := by
  subst hp; intro H locs ls hP hD hS hl; exact lv_lload_n X.1.1 X.1.2.1 d hi (lv_at hl j hk) (g H locs ls hP hD hS hl)
theorem k_lload (X : kCx p R m c cc nL s args own D ty A fr lo) {i : Nat} {x : Int64} (d : decode cc pc = .ok (.lload i, 2)) (j : Nat) (hk : lv[j]? = some (i, .long x)) (hp : pc + 2 = pc') (g : kG p l e R s m args below meth c D A nL Q cells slots ws lv (.long x :: st) pc') : kG p l e R s m args below meth c D A nL Q cells slots ws lv st pc := by
  subst hp; intro H locs ls hP hD hS hl; exact lv_lload X.1.1 X.1.2.1 d (lv_at hl j hk) (g H locs ls hP hD hS hl)
theorem k_aload_n (X : kCx p R m c cc nL s args own D ty A fr lo) {k : Fin 4} {i : Nat} {x : Nat} (d : decode cc pc = .ok (.aload_n k, 1)) (hi : (k : Nat) = i) (j : Nat) (hk : lv[j]? = some (i, .ref x)) (hp : pc + 1 = pc') (g : kG p l e R s m args below meth c D A nL Q cells slots ws lv (.ref x :: st) pc') : kG p l e R s m args below meth c D A nL Q cells slots ws lv st pc := by
  subst hp; intro H locs ls hP hD hS hl; exact lv_aload_n X.1.1 X.1.2.1 d hi (lv_at hl j hk) (g H locs ls hP hD hS hl)
theorem k_istore_n (X : kCx p R m c cc nL s args own D ty A fr lo) {k : Fin 4} {i : Nat} {x : Int32} {lv' : List (Nat × Value)} (d : decode cc pc = .ok (.istore_n k, 1)) (hi : (k : Nat) = i) (hn : Nat.ble (i + 1) nL = true) (h : (i, Value.int x) :: lv.filter (fun q => !(q.1 == i) && !(q.1 + 1 == i && q.2.category == 2)) = lv') (hp : pc + 1 = pc') (g : kG p l e R s m args below meth c D A nL Q cells slots ws lv' st pc') : kG p l e R s m args below meth c D A nL Q cells slots ws lv (.int x :: st) pc := by
  subst hp; intro H locs ls hP hD hS hl; exact lv_istore_n X.1.1 X.1.2.1 d hi hl (Nat.le_of_ble_eq_true hn) h (fun ls' hl' => g H locs ls' hP hD hS hl')
theorem k_istore (X : kCx p R m c cc nL s args own D ty A fr lo) {i : Nat} {x : Int32} {lv' : List (Nat × Value)} (d : decode cc pc = .ok (.istore i, 2)) (hn : Nat.ble (i + 1) nL = true) (h : (i, Value.int x) :: lv.filter (fun q => !(q.1 == i) && !(q.1 + 1 == i && q.2.category == 2)) = lv') (hp : pc + 2 = pc') (g : kG p l e R s m args below meth c D A nL Q cells slots ws lv' st pc') : kG p l e R s m args below meth c D A nL Q cells slots ws lv (.int x :: st) pc := by
  subst hp; intro H locs ls hP hD hS hl; exact lv_istore X.1.1 X.1.2.1 d hl (Nat.le_of_ble_eq_true hn) h (fun ls' hl' => g H locs ls' hP hD hS hl')
theorem k_lstore_n (X : kCx p R m c cc nL s args own D ty A fr lo) {k : Fin 4} {i : Nat} {x : Int64} {lv' : List (Nat × Value)} (d : decode cc pc = .ok (.lstore_n k, 1)) (hi : (k : Nat) = i) (hn : Nat.ble (i + 1 + 1) nL = true) (h : (i, Value.long x) :: lv.filter (fun q => !(q.1 == i) && (!(q.1 == i + 1) && !(q.1 + 1 == i && q.2.category == 2))) = lv') (hp : pc + 1 = pc') (g : kG p l e R s m args below meth c D A nL Q cells slots ws lv' st pc') : kG p l e R s m args below meth c D A nL Q cells slots ws lv (.long x :: st) pc := by
  subst hp; intro H locs ls hP hD hS hl; exact lv_lstore_n X.1.1 X.1.2.1 d hi hl (Nat.le_of_ble_eq_true hn) h (fun ls' hl' => g H locs ls' hP hD hS hl')
theorem k_lstore (X : kCx p R m c cc nL s args own D ty A fr lo) {i : Nat} {x : Int64} {lv' : List (Nat × Value)} (d : decode cc pc = .ok (.lstore i, 2)) (hn : Nat.ble (i + 1 + 1) nL = true) (h : (i, Value.long x) :: lv.filter (fun q => !(q.1 == i) && (!(q.1 == i + 1) && !(q.1 + 1 == i && q.2.category == 2))) = lv') (hp : pc + 2 = pc') (g : kG p l e R s m args below meth c D A nL Q cells slots ws lv' st pc') : kG p l e R s m args below meth c D A nL Q cells slots ws lv (.long x :: st) pc := by
  subst hp; intro H locs ls hP hD hS hl; exact lv_lstore X.1.1 X.1.2.1 d hl (Nat.le_of_ble_eq_true hn) h (fun ls' hl' => g H locs ls' hP hD hS hl')
theorem k_iinc (X : kCx p R m c cc nL s args own D ty A fr lo) {i : Nat} {n : Int} {x v : Int32} {lv' : List (Nat × Value)} (d : decode cc pc = .ok (.iinc i n, 3)) (j : Nat) (hk : lv[j]? = some (i, .int x)) (hv : Int32.ofInt n = v) (hn : Nat.ble (i + 1) nL = true) (h : (i, Value.int (x + v)) :: lv.filter (fun q => !(q.1 == i) && !(q.1 + 1 == i && q.2.category == 2)) = lv') (hp : pc + 3 = pc') (g : kG p l e R s m args below meth c D A nL Q cells slots ws lv' st pc') : kG p l e R s m args below meth c D A nL Q cells slots ws lv st pc := by
  subst hp; subst hv; intro H locs ls hP hD hS hl; exact lv_iinc X.1.1 X.1.2.1 d hl hk rfl (Nat.le_of_ble_eq_true hn) h (fun ls' hl' => g H locs ls' hP hD hS hl')
theorem k_iadd (X : kCx p R m c cc nL s args own D ty A fr lo) {x y : Int32} (d : decode cc pc = .ok (.iadd, 1)) (hp : pc + 1 = pc') (g : kG p l e R s m args below meth c D A nL Q cells slots ws lv (.int (x + y) :: st) pc') : kG p l e R s m args below meth c D A nL Q cells slots ws lv (.int y :: .int x :: st) pc := by
  subst hp; intro H locs ls hP hD hS hl; exact lv_iadd X.1.1 X.1.2.1 d (g H locs ls hP hD hS hl)
theorem k_isub (X : kCx p R m c cc nL s args own D ty A fr lo) {x y : Int32} (d : decode cc pc = .ok (.isub, 1)) (hp : pc + 1 = pc') (g : kG p l e R s m args below meth c D A nL Q cells slots ws lv (.int (x - y) :: st) pc') : kG p l e R s m args below meth c D A nL Q cells slots ws lv (.int y :: .int x :: st) pc := by
  subst hp; intro H locs ls hP hD hS hl; exact lv_isub X.1.1 X.1.2.1 d (g H locs ls hP hD hS hl)
theorem k_imul (X : kCx p R m c cc nL s args own D ty A fr lo) {x y : Int32} (d : decode cc pc = .ok (.imul, 1)) (hp : pc + 1 = pc') (g : kG p l e R s m args below meth c D A nL Q cells slots ws lv (.int (x * y) :: st) pc') : kG p l e R s m args below meth c D A nL Q cells slots ws lv (.int y :: .int x :: st) pc := by
  subst hp; intro H locs ls hP hD hS hl; exact lv_imul X.1.1 X.1.2.1 d (g H locs ls hP hD hS hl)
theorem k_iand (X : kCx p R m c cc nL s args own D ty A fr lo) {x y : Int32} (d : decode cc pc = .ok (.iand, 1)) (hp : pc + 1 = pc') (g : kG p l e R s m args below meth c D A nL Q cells slots ws lv (.int (x &&& y) :: st) pc') : kG p l e R s m args below meth c D A nL Q cells slots ws lv (.int y :: .int x :: st) pc := by
  subst hp; intro H locs ls hP hD hS hl; exact lv_iand X.1.1 X.1.2.1 d (g H locs ls hP hD hS hl)
theorem k_ior (X : kCx p R m c cc nL s args own D ty A fr lo) {x y : Int32} (d : decode cc pc = .ok (.ior, 1)) (hp : pc + 1 = pc') (g : kG p l e R s m args below meth c D A nL Q cells slots ws lv (.int (x ||| y) :: st) pc') : kG p l e R s m args below meth c D A nL Q cells slots ws lv (.int y :: .int x :: st) pc := by
  subst hp; intro H locs ls hP hD hS hl; exact lv_ior X.1.1 X.1.2.1 d (g H locs ls hP hD hS hl)
theorem k_ixor (X : kCx p R m c cc nL s args own D ty A fr lo) {x y : Int32} (d : decode cc pc = .ok (.ixor, 1)) (hp : pc + 1 = pc') (g : kG p l e R s m args below meth c D A nL Q cells slots ws lv (.int (x ^^^ y) :: st) pc') : kG p l e R s m args below meth c D A nL Q cells slots ws lv (.int y :: .int x :: st) pc := by
  subst hp; intro H locs ls hP hD hS hl; exact lv_ixor X.1.1 X.1.2.1 d (g H locs ls hP hD hS hl)
theorem k_ishl (X : kCx p R m c cc nL s args own D ty A fr lo) {x y : Int32} (d : decode cc pc = .ok (.ishl, 1)) (hp : pc + 1 = pc') (g : kG p l e R s m args below meth c D A nL Q cells slots ws lv (.int (shl x y) :: st) pc') : kG p l e R s m args below meth c D A nL Q cells slots ws lv (.int y :: .int x :: st) pc := by
  subst hp; intro H locs ls hP hD hS hl; exact lv_ishl X.1.1 X.1.2.1 d (g H locs ls hP hD hS hl)
theorem k_ishr (X : kCx p R m c cc nL s args own D ty A fr lo) {x y : Int32} (d : decode cc pc = .ok (.ishr, 1)) (hp : pc + 1 = pc') (g : kG p l e R s m args below meth c D A nL Q cells slots ws lv (.int (shr x y) :: st) pc') : kG p l e R s m args below meth c D A nL Q cells slots ws lv (.int y :: .int x :: st) pc := by
  subst hp; intro H locs ls hP hD hS hl; exact lv_ishr X.1.1 X.1.2.1 d (g H locs ls hP hD hS hl)
theorem k_idiv (X : kCx p R m c cc nL s args own D ty A fr lo) {x y : Int32} (d : decode cc pc = .ok (.idiv, 1)) (hne : ¬ y = 0) (hp : pc + 1 = pc') (g : kG p l e R s m args below meth c D A nL Q cells slots ws lv (.int (x / y) :: st) pc') : kG p l e R s m args below meth c D A nL Q cells slots ws lv (.int y :: .int x :: st) pc := by
  subst hp; intro H locs ls hP hD hS hl; exact lv_idiv X.1.1 X.1.2.1 d hne (g H locs ls hP hD hS hl)
theorem k_irem (X : kCx p R m c cc nL s args own D ty A fr lo) {x y : Int32} (d : decode cc pc = .ok (.irem, 1)) (hne : ¬ y = 0) (hp : pc + 1 = pc') (g : kG p l e R s m args below meth c D A nL Q cells slots ws lv (.int (irem x y) :: st) pc') : kG p l e R s m args below meth c D A nL Q cells slots ws lv (.int y :: .int x :: st) pc := by
  subst hp; intro H locs ls hP hD hS hl; exact lv_irem X.1.1 X.1.2.1 d hne (g H locs ls hP hD hS hl)
theorem k_ladd (X : kCx p R m c cc nL s args own D ty A fr lo) {x y : Int64} (d : decode cc pc = .ok (.ladd, 1)) (hp : pc + 1 = pc') (g : kG p l e R s m args below meth c D A nL Q cells slots ws lv (.long (x + y) :: st) pc') : kG p l e R s m args below meth c D A nL Q cells slots ws lv (.long y :: .long x :: st) pc := by
  subst hp; intro H locs ls hP hD hS hl; exact lv_ladd X.1.1 X.1.2.1 d (g H locs ls hP hD hS hl)
theorem k_lsub (X : kCx p R m c cc nL s args own D ty A fr lo) {x y : Int64} (d : decode cc pc = .ok (.lsub, 1)) (hp : pc + 1 = pc') (g : kG p l e R s m args below meth c D A nL Q cells slots ws lv (.long (x - y) :: st) pc') : kG p l e R s m args below meth c D A nL Q cells slots ws lv (.long y :: .long x :: st) pc := by
  subst hp; intro H locs ls hP hD hS hl; exact lv_lsub X.1.1 X.1.2.1 d (g H locs ls hP hD hS hl)
theorem k_lmul (X : kCx p R m c cc nL s args own D ty A fr lo) {x y : Int64} (d : decode cc pc = .ok (.lmul, 1)) (hp : pc + 1 = pc') (g : kG p l e R s m args below meth c D A nL Q cells slots ws lv (.long (x * y) :: st) pc') : kG p l e R s m args below meth c D A nL Q cells slots ws lv (.long y :: .long x :: st) pc := by
  subst hp; intro H locs ls hP hD hS hl; exact lv_lmul X.1.1 X.1.2.1 d (g H locs ls hP hD hS hl)
theorem k_land (X : kCx p R m c cc nL s args own D ty A fr lo) {x y : Int64} (d : decode cc pc = .ok (.land, 1)) (hp : pc + 1 = pc') (g : kG p l e R s m args below meth c D A nL Q cells slots ws lv (.long (x &&& y) :: st) pc') : kG p l e R s m args below meth c D A nL Q cells slots ws lv (.long y :: .long x :: st) pc := by
  subst hp; intro H locs ls hP hD hS hl; exact lv_land X.1.1 X.1.2.1 d (g H locs ls hP hD hS hl)
theorem k_lor (X : kCx p R m c cc nL s args own D ty A fr lo) {x y : Int64} (d : decode cc pc = .ok (.lor, 1)) (hp : pc + 1 = pc') (g : kG p l e R s m args below meth c D A nL Q cells slots ws lv (.long (x ||| y) :: st) pc') : kG p l e R s m args below meth c D A nL Q cells slots ws lv (.long y :: .long x :: st) pc := by
  subst hp; intro H locs ls hP hD hS hl; exact lv_lor X.1.1 X.1.2.1 d (g H locs ls hP hD hS hl)
theorem k_lxor (X : kCx p R m c cc nL s args own D ty A fr lo) {x y : Int64} (d : decode cc pc = .ok (.lxor, 1)) (hp : pc + 1 = pc') (g : kG p l e R s m args below meth c D A nL Q cells slots ws lv (.long (x ^^^ y) :: st) pc') : kG p l e R s m args below meth c D A nL Q cells slots ws lv (.long y :: .long x :: st) pc := by
  subst hp; intro H locs ls hP hD hS hl; exact lv_lxor X.1.1 X.1.2.1 d (g H locs ls hP hD hS hl)
theorem k_ldiv (X : kCx p R m c cc nL s args own D ty A fr lo) {x y : Int64} (d : decode cc pc = .ok (.ldiv, 1)) (hne : ¬ y = 0) (hp : pc + 1 = pc') (g : kG p l e R s m args below meth c D A nL Q cells slots ws lv (.long (x / y) :: st) pc') : kG p l e R s m args below meth c D A nL Q cells slots ws lv (.long y :: .long x :: st) pc := by
  subst hp; intro H locs ls hP hD hS hl; exact lv_ldiv X.1.1 X.1.2.1 d hne (g H locs ls hP hD hS hl)
theorem k_lrem (X : kCx p R m c cc nL s args own D ty A fr lo) {x y : Int64} (d : decode cc pc = .ok (.lrem, 1)) (hne : ¬ y = 0) (hp : pc + 1 = pc') (g : kG p l e R s m args below meth c D A nL Q cells slots ws lv (.long (lrem x y) :: st) pc') : kG p l e R s m args below meth c D A nL Q cells slots ws lv (.long y :: .long x :: st) pc := by
  subst hp; intro H locs ls hP hD hS hl; exact lv_lrem X.1.1 X.1.2.1 d hne (g H locs ls hP hD hS hl)
theorem k_lneg (X : kCx p R m c cc nL s args own D ty A fr lo) {x : Int64} (d : decode cc pc = .ok (.lneg, 1)) (hp : pc + 1 = pc') (g : kG p l e R s m args below meth c D A nL Q cells slots ws lv (.long (-x) :: st) pc') : kG p l e R s m args below meth c D A nL Q cells slots ws lv (.long x :: st) pc := by
  subst hp; intro H locs ls hP hD hS hl; exact lv_lneg X.1.1 X.1.2.1 d (g H locs ls hP hD hS hl)
theorem k_i2l (X : kCx p R m c cc nL s args own D ty A fr lo) {x : Int32} (d : decode cc pc = .ok (.i2l, 1)) (hp : pc + 1 = pc') (g : kG p l e R s m args below meth c D A nL Q cells slots ws lv (.long x.toInt64 :: st) pc') : kG p l e R s m args below meth c D A nL Q cells slots ws lv (.int x :: st) pc := by
  subst hp; intro H locs ls hP hD hS hl; exact lv_i2l X.1.1 X.1.2.1 d rfl (g H locs ls hP hD hS hl)
theorem k_l2i (X : kCx p R m c cc nL s args own D ty A fr lo) {x : Int64} (d : decode cc pc = .ok (.l2i, 1)) (hp : pc + 1 = pc') (g : kG p l e R s m args below meth c D A nL Q cells slots ws lv (.int x.toInt32 :: st) pc') : kG p l e R s m args below meth c D A nL Q cells slots ws lv (.long x :: st) pc := by
  subst hp; intro H locs ls hP hD hS hl; exact lv_l2i X.1.1 X.1.2.1 d rfl (g H locs ls hP hD hS hl)
theorem k_iushr (X : kCx p R m c cc nL s args own D ty A fr lo) {x y : Int32} (d : decode cc pc = .ok (.iushr, 1)) (hp : pc + 1 = pc') (g : kG p l e R s m args below meth c D A nL Q cells slots ws lv (.int (sru x y) :: st) pc') : kG p l e R s m args below meth c D A nL Q cells slots ws lv (.int y :: .int x :: st) pc := by
  subst hp; intro H locs ls hP hD hS hl; exact lv_iushr X.1.1 X.1.2.1 d rfl (g H locs ls hP hD hS hl)
theorem k_lushr (X : kCx p R m c cc nL s args own D ty A fr lo) {x : Int64} {y : Int32} (d : decode cc pc = .ok (.lushr, 1)) (hp : pc + 1 = pc') (g : kG p l e R s m args below meth c D A nL Q cells slots ws lv (.long (lsru x y) :: st) pc') : kG p l e R s m args below meth c D A nL Q cells slots ws lv (.int y :: .long x :: st) pc := by
  subst hp; intro H locs ls hP hD hS hl; exact lv_lushr X.1.1 X.1.2.1 d rfl (g H locs ls hP hD hS hl)
theorem k_lshl (X : kCx p R m c cc nL s args own D ty A fr lo) {x : Int64} {y : Int32} (d : decode cc pc = .ok (.lshl, 1)) (hp : pc + 1 = pc') (g : kG p l e R s m args below meth c D A nL Q cells slots ws lv (.long (lshl x y) :: st) pc') : kG p l e R s m args below meth c D A nL Q cells slots ws lv (.int y :: .long x :: st) pc := by
  subst hp; intro H locs ls hP hD hS hl; exact lv_lshl X.1.1 X.1.2.1 d rfl (g H locs ls hP hD hS hl)
theorem k_lshr (X : kCx p R m c cc nL s args own D ty A fr lo) {x : Int64} {y : Int32} (d : decode cc pc = .ok (.lshr, 1)) (hp : pc + 1 = pc') (g : kG p l e R s m args below meth c D A nL Q cells slots ws lv (.long (lshr x y) :: st) pc') : kG p l e R s m args below meth c D A nL Q cells slots ws lv (.int y :: .long x :: st) pc := by
  subst hp; intro H locs ls hP hD hS hl; exact lv_lshr X.1.1 X.1.2.1 d rfl (g H locs ls hP hD hS hl)
theorem k_dup (X : kCx p R m c cc nL s args own D ty A fr lo) {v : Value} (d : decode cc pc = .ok (.dup, 1)) (hv : v.category = 1) (hp : pc + 1 = pc') (g : kG p l e R s m args below meth c D A nL Q cells slots ws lv (v :: v :: st) pc') : kG p l e R s m args below meth c D A nL Q cells slots ws lv (v :: st) pc := by
  subst hp; intro H locs ls hP hD hS hl; exact lv_dup X.1.1 X.1.2.1 d hv (g H locs ls hP hD hS hl)
theorem k_if_eq (X : kCx p R m c cc nL s args own D ty A fr lo) {x : Int32} {off : Int} {tgt : Nat} (d : decode cc pc = .ok (.ifCond .eq off, 3)) (ht : (pc : Int) + off = (tgt : Int)) (hp : pc + 3 = pc') (kt : x = 0 → kG p l e R s m args below meth c D A nL Q cells slots ws lv st tgt) (kf : ¬ (x = 0) → kG p l e R s m args below meth c D A nL Q cells slots ws lv st pc') : kG p l e R s m args below meth c D A nL Q cells slots ws lv (.int x :: st) pc := by
  subst hp; intro H locs ls hP hD hS hl; exact lv_if_eq X.1.1 X.1.2.1 d ht (fun h => kt h H locs ls hP hD hS hl) (fun h => kf h H locs ls hP hD hS hl)
theorem k_icmp_eq (X : kCx p R m c cc nL s args own D ty A fr lo) {x y : Int32} {off : Int} {tgt : Nat} (d : decode cc pc = .ok (.if_icmp .eq off, 3)) (ht : (pc : Int) + off = (tgt : Int)) (hp : pc + 3 = pc') (kt : x = y → kG p l e R s m args below meth c D A nL Q cells slots ws lv st tgt) (kf : ¬ (x = y) → kG p l e R s m args below meth c D A nL Q cells slots ws lv st pc') : kG p l e R s m args below meth c D A nL Q cells slots ws lv (.int y :: .int x :: st) pc := by
  subst hp; intro H locs ls hP hD hS hl; exact lv_icmp_eq X.1.1 X.1.2.1 d ht (fun h => kt h H locs ls hP hD hS hl) (fun h => kf h H locs ls hP hD hS hl)
theorem k_if_lt (X : kCx p R m c cc nL s args own D ty A fr lo) {x : Int32} {off : Int} {tgt : Nat} (d : decode cc pc = .ok (.ifCond .lt off, 3)) (ht : (pc : Int) + off = (tgt : Int)) (hp : pc + 3 = pc') (kt : x < 0 → kG p l e R s m args below meth c D A nL Q cells slots ws lv st tgt) (kf : ¬ (x < 0) → kG p l e R s m args below meth c D A nL Q cells slots ws lv st pc') : kG p l e R s m args below meth c D A nL Q cells slots ws lv (.int x :: st) pc := by
  subst hp; intro H locs ls hP hD hS hl; exact lv_if_lt X.1.1 X.1.2.1 d ht (fun h => kt h H locs ls hP hD hS hl) (fun h => kf h H locs ls hP hD hS hl)
theorem k_icmp_lt (X : kCx p R m c cc nL s args own D ty A fr lo) {x y : Int32} {off : Int} {tgt : Nat} (d : decode cc pc = .ok (.if_icmp .lt off, 3)) (ht : (pc : Int) + off = (tgt : Int)) (hp : pc + 3 = pc') (kt : x < y → kG p l e R s m args below meth c D A nL Q cells slots ws lv st tgt) (kf : ¬ (x < y) → kG p l e R s m args below meth c D A nL Q cells slots ws lv st pc') : kG p l e R s m args below meth c D A nL Q cells slots ws lv (.int y :: .int x :: st) pc := by
  subst hp; intro H locs ls hP hD hS hl; exact lv_icmp_lt X.1.1 X.1.2.1 d ht (fun h => kt h H locs ls hP hD hS hl) (fun h => kf h H locs ls hP hD hS hl)
theorem k_if_ge (X : kCx p R m c cc nL s args own D ty A fr lo) {x : Int32} {off : Int} {tgt : Nat} (d : decode cc pc = .ok (.ifCond .ge off, 3)) (ht : (pc : Int) + off = (tgt : Int)) (hp : pc + 3 = pc') (kt : 0 ≤ x → kG p l e R s m args below meth c D A nL Q cells slots ws lv st tgt) (kf : ¬ (0 ≤ x) → kG p l e R s m args below meth c D A nL Q cells slots ws lv st pc') : kG p l e R s m args below meth c D A nL Q cells slots ws lv (.int x :: st) pc := by
  subst hp; intro H locs ls hP hD hS hl; exact lv_if_ge X.1.1 X.1.2.1 d ht (fun h => kt h H locs ls hP hD hS hl) (fun h => kf h H locs ls hP hD hS hl)
theorem k_icmp_ge (X : kCx p R m c cc nL s args own D ty A fr lo) {x y : Int32} {off : Int} {tgt : Nat} (d : decode cc pc = .ok (.if_icmp .ge off, 3)) (ht : (pc : Int) + off = (tgt : Int)) (hp : pc + 3 = pc') (kt : y ≤ x → kG p l e R s m args below meth c D A nL Q cells slots ws lv st tgt) (kf : ¬ (y ≤ x) → kG p l e R s m args below meth c D A nL Q cells slots ws lv st pc') : kG p l e R s m args below meth c D A nL Q cells slots ws lv (.int y :: .int x :: st) pc := by
  subst hp; intro H locs ls hP hD hS hl; exact lv_icmp_ge X.1.1 X.1.2.1 d ht (fun h => kt h H locs ls hP hD hS hl) (fun h => kf h H locs ls hP hD hS hl)
theorem k_if_gt (X : kCx p R m c cc nL s args own D ty A fr lo) {x : Int32} {off : Int} {tgt : Nat} (d : decode cc pc = .ok (.ifCond .gt off, 3)) (ht : (pc : Int) + off = (tgt : Int)) (hp : pc + 3 = pc') (kt : 0 < x → kG p l e R s m args below meth c D A nL Q cells slots ws lv st tgt) (kf : ¬ (0 < x) → kG p l e R s m args below meth c D A nL Q cells slots ws lv st pc') : kG p l e R s m args below meth c D A nL Q cells slots ws lv (.int x :: st) pc := by
  subst hp; intro H locs ls hP hD hS hl; exact lv_if_gt X.1.1 X.1.2.1 d ht (fun h => kt h H locs ls hP hD hS hl) (fun h => kf h H locs ls hP hD hS hl)
theorem k_icmp_gt (X : kCx p R m c cc nL s args own D ty A fr lo) {x y : Int32} {off : Int} {tgt : Nat} (d : decode cc pc = .ok (.if_icmp .gt off, 3)) (ht : (pc : Int) + off = (tgt : Int)) (hp : pc + 3 = pc') (kt : y < x → kG p l e R s m args below meth c D A nL Q cells slots ws lv st tgt) (kf : ¬ (y < x) → kG p l e R s m args below meth c D A nL Q cells slots ws lv st pc') : kG p l e R s m args below meth c D A nL Q cells slots ws lv (.int y :: .int x :: st) pc := by
  subst hp; intro H locs ls hP hD hS hl; exact lv_icmp_gt X.1.1 X.1.2.1 d ht (fun h => kt h H locs ls hP hD hS hl) (fun h => kf h H locs ls hP hD hS hl)
theorem k_if_le (X : kCx p R m c cc nL s args own D ty A fr lo) {x : Int32} {off : Int} {tgt : Nat} (d : decode cc pc = .ok (.ifCond .le off, 3)) (ht : (pc : Int) + off = (tgt : Int)) (hp : pc + 3 = pc') (kt : x ≤ 0 → kG p l e R s m args below meth c D A nL Q cells slots ws lv st tgt) (kf : ¬ (x ≤ 0) → kG p l e R s m args below meth c D A nL Q cells slots ws lv st pc') : kG p l e R s m args below meth c D A nL Q cells slots ws lv (.int x :: st) pc := by
  subst hp; intro H locs ls hP hD hS hl; exact lv_if_le X.1.1 X.1.2.1 d ht (fun h => kt h H locs ls hP hD hS hl) (fun h => kf h H locs ls hP hD hS hl)
theorem k_icmp_le (X : kCx p R m c cc nL s args own D ty A fr lo) {x y : Int32} {off : Int} {tgt : Nat} (d : decode cc pc = .ok (.if_icmp .le off, 3)) (ht : (pc : Int) + off = (tgt : Int)) (hp : pc + 3 = pc') (kt : x ≤ y → kG p l e R s m args below meth c D A nL Q cells slots ws lv st tgt) (kf : ¬ (x ≤ y) → kG p l e R s m args below meth c D A nL Q cells slots ws lv st pc') : kG p l e R s m args below meth c D A nL Q cells slots ws lv (.int y :: .int x :: st) pc := by
  subst hp; intro H locs ls hP hD hS hl; exact lv_icmp_le X.1.1 X.1.2.1 d ht (fun h => kt h H locs ls hP hD hS hl) (fun h => kf h H locs ls hP hD hS hl)
theorem k_if_ne (X : kCx p R m c cc nL s args own D ty A fr lo) {x : Int32} {off : Int} {tgt : Nat} (d : decode cc pc = .ok (.ifCond .ne off, 3)) (ht : (pc : Int) + off = (tgt : Int)) (hp : pc + 3 = pc') (kt : x = 0 → kG p l e R s m args below meth c D A nL Q cells slots ws lv st pc') (kf : ¬ x = 0 → kG p l e R s m args below meth c D A nL Q cells slots ws lv st tgt) : kG p l e R s m args below meth c D A nL Q cells slots ws lv (.int x :: st) pc := by
  subst hp; intro H locs ls hP hD hS hl; exact lv_if_ne X.1.1 X.1.2.1 d ht (fun h => kf h H locs ls hP hD hS hl) (fun h => kt h H locs ls hP hD hS hl)
theorem k_icmp_ne (X : kCx p R m c cc nL s args own D ty A fr lo) {x y : Int32} {off : Int} {tgt : Nat} (d : decode cc pc = .ok (.if_icmp .ne off, 3)) (ht : (pc : Int) + off = (tgt : Int)) (hp : pc + 3 = pc') (kt : x = y → kG p l e R s m args below meth c D A nL Q cells slots ws lv st pc') (kf : ¬ x = y → kG p l e R s m args below meth c D A nL Q cells slots ws lv st tgt) : kG p l e R s m args below meth c D A nL Q cells slots ws lv (.int y :: .int x :: st) pc := by
  subst hp; intro H locs ls hP hD hS hl; exact lv_icmp_ne X.1.1 X.1.2.1 d ht (fun h => kf h H locs ls hP hD hS hl) (fun h => kt h H locs ls hP hD hS hl)
theorem k_lcmp_eq (X : kCx p R m c cc nL s args own D ty A fr lo) {x y : Int64} {off : Int} {tgt : Nat} {pc1 : Nat} (d0 : decode cc pc = .ok (.lcmp, 1)) (hq : pc + 1 = pc1) (d : decode cc pc1 = .ok (.ifCond .eq off, 3)) (ht : (pc1 : Int) + off = (tgt : Int)) (hp : pc1 + 3 = pc') (kt : x = y → kG p l e R s m args below meth c D A nL Q cells slots ws lv st tgt) (kf : ¬ (x = y) → kG p l e R s m args below meth c D A nL Q cells slots ws lv st pc') : kG p l e R s m args below meth c D A nL Q cells slots ws lv (.long y :: .long x :: st) pc := by
  subst hp; subst hq; intro H locs ls hP hD hS hl; exact W.lcmp X.1.1 X.1.2.1 d0 (lv_if_eq X.1.1 X.1.2.1 d ht (fun h => kt ((lg_cmp_eq x y).mp h) H locs ls hP hD hS hl) (fun h => kf (fun q => h ((lg_cmp_eq x y).mpr q)) H locs ls hP hD hS hl))
theorem k_lcmp_lt (X : kCx p R m c cc nL s args own D ty A fr lo) {x y : Int64} {off : Int} {tgt : Nat} {pc1 : Nat} (d0 : decode cc pc = .ok (.lcmp, 1)) (hq : pc + 1 = pc1) (d : decode cc pc1 = .ok (.ifCond .lt off, 3)) (ht : (pc1 : Int) + off = (tgt : Int)) (hp : pc1 + 3 = pc') (kt : x < y → kG p l e R s m args below meth c D A nL Q cells slots ws lv st tgt) (kf : ¬ (x < y) → kG p l e R s m args below meth c D A nL Q cells slots ws lv st pc') : kG p l e R s m args below meth c D A nL Q cells slots ws lv (.long y :: .long x :: st) pc := by
  subst hp; subst hq; intro H locs ls hP hD hS hl; exact W.lcmp X.1.1 X.1.2.1 d0 (lv_if_lt X.1.1 X.1.2.1 d ht (fun h => kt ((lg_cmp_lt x y).mp h) H locs ls hP hD hS hl) (fun h => kf (fun q => h ((lg_cmp_lt x y).mpr q)) H locs ls hP hD hS hl))
theorem k_lcmp_ge (X : kCx p R m c cc nL s args own D ty A fr lo) {x y : Int64} {off : Int} {tgt : Nat} {pc1 : Nat} (d0 : decode cc pc = .ok (.lcmp, 1)) (hq : pc + 1 = pc1) (d : decode cc pc1 = .ok (.ifCond .ge off, 3)) (ht : (pc1 : Int) + off = (tgt : Int)) (hp : pc1 + 3 = pc') (kt : y ≤ x → kG p l e R s m args below meth c D A nL Q cells slots ws lv st tgt) (kf : ¬ (y ≤ x) → kG p l e R s m args below meth c D A nL Q cells slots ws lv st pc') : kG p l e R s m args below meth c D A nL Q cells slots ws lv (.long y :: .long x :: st) pc := by
  subst hp; subst hq; intro H locs ls hP hD hS hl; exact W.lcmp X.1.1 X.1.2.1 d0 (lv_if_ge X.1.1 X.1.2.1 d ht (fun h => kt ((lg_cmp_ge x y).mp h) H locs ls hP hD hS hl) (fun h => kf (fun q => h ((lg_cmp_ge x y).mpr q)) H locs ls hP hD hS hl))
theorem k_lcmp_gt (X : kCx p R m c cc nL s args own D ty A fr lo) {x y : Int64} {off : Int} {tgt : Nat} {pc1 : Nat} (d0 : decode cc pc = .ok (.lcmp, 1)) (hq : pc + 1 = pc1) (d : decode cc pc1 = .ok (.ifCond .gt off, 3)) (ht : (pc1 : Int) + off = (tgt : Int)) (hp : pc1 + 3 = pc') (kt : y < x → kG p l e R s m args below meth c D A nL Q cells slots ws lv st tgt) (kf : ¬ (y < x) → kG p l e R s m args below meth c D A nL Q cells slots ws lv st pc') : kG p l e R s m args below meth c D A nL Q cells slots ws lv (.long y :: .long x :: st) pc := by
  subst hp; subst hq; intro H locs ls hP hD hS hl; exact W.lcmp X.1.1 X.1.2.1 d0 (lv_if_gt X.1.1 X.1.2.1 d ht (fun h => kt ((lg_cmp_gt x y).mp h) H locs ls hP hD hS hl) (fun h => kf (fun q => h ((lg_cmp_gt x y).mpr q)) H locs ls hP hD hS hl))
theorem k_lcmp_le (X : kCx p R m c cc nL s args own D ty A fr lo) {x y : Int64} {off : Int} {tgt : Nat} {pc1 : Nat} (d0 : decode cc pc = .ok (.lcmp, 1)) (hq : pc + 1 = pc1) (d : decode cc pc1 = .ok (.ifCond .le off, 3)) (ht : (pc1 : Int) + off = (tgt : Int)) (hp : pc1 + 3 = pc') (kt : x ≤ y → kG p l e R s m args below meth c D A nL Q cells slots ws lv st tgt) (kf : ¬ (x ≤ y) → kG p l e R s m args below meth c D A nL Q cells slots ws lv st pc') : kG p l e R s m args below meth c D A nL Q cells slots ws lv (.long y :: .long x :: st) pc := by
  subst hp; subst hq; intro H locs ls hP hD hS hl; exact W.lcmp X.1.1 X.1.2.1 d0 (lv_if_le X.1.1 X.1.2.1 d ht (fun h => kt ((lg_cmp_le x y).mp h) H locs ls hP hD hS hl) (fun h => kf (fun q => h ((lg_cmp_le x y).mpr q)) H locs ls hP hD hS hl))
theorem k_lcmp_ne (X : kCx p R m c cc nL s args own D ty A fr lo) {x y : Int64} {off : Int} {tgt : Nat} {pc1 : Nat} (d0 : decode cc pc = .ok (.lcmp, 1)) (hq : pc + 1 = pc1) (d : decode cc pc1 = .ok (.ifCond .ne off, 3)) (ht : (pc1 : Int) + off = (tgt : Int)) (hp : pc1 + 3 = pc') (kt : x = y → kG p l e R s m args below meth c D A nL Q cells slots ws lv st pc') (kf : ¬ x = y → kG p l e R s m args below meth c D A nL Q cells slots ws lv st tgt) : kG p l e R s m args below meth c D A nL Q cells slots ws lv (.long y :: .long x :: st) pc := by
  subst hp; subst hq; intro H locs ls hP hD hS hl; exact W.lcmp X.1.1 X.1.2.1 d0 (lv_if_ne X.1.1 X.1.2.1 d ht (fun h => kf (fun q => h ((lg_cmp_eq x y).mpr q)) H locs ls hP hD hS hl) (fun h => kt ((lg_cmp_eq x y).mp h) H locs ls hP hD hS hl))
theorem k_goto (X : kCx p R m c cc nL s args own D ty A fr lo) {off : Int} {tgt : Nat} (d : decode cc pc = .ok (.goto off, 3)) (ht : (pc : Int) + off = (tgt : Int)) (g : kG p l e R s m args below meth c D A nL Q cells slots ws lv st tgt) : kG p l e R s m args below meth c D A nL Q cells slots ws lv st pc := by
  intro H locs ls hP hD hS hl; exact lv_goto X.1.1 X.1.2.1 d ht (g H locs ls hP hD hS hl)
theorem k_tblIn (X : kCx p R m c cc nL s args own D ty A fr lo) {dflt lo9 hi : Int} {offs : Array Int} {len : Nat} {x : Int32} {off : Int} {tgt : Nat} (d : decode cc pc = .ok (.tableswitch dflt lo9 hi offs, len)) {v : Int32} (hx : x = v) (h1 : ¬ v.toInt < lo9) (h2 : ¬ hi < v.toInt) (ho : offs[(v.toInt - lo9).toNat]? = some off) (ht : (pc : Int) + off = (tgt : Int)) (g : kG p l e R s m args below meth c D A nL Q cells slots ws lv st tgt) : kG p l e R s m args below meth c D A nL Q cells slots ws lv (.int x :: st) pc := by
  subst hx; intro H locs ls hP hD hS hl; exact lv_tableIn X.1.1 X.1.2.1 d h1 h2 ho ht (g H locs ls hP hD hS hl)
theorem k_tblOut (X : kCx p R m c cc nL s args own D ty A fr lo) {dflt lo9 hi : Int} {offs : Array Int} {len : Nat} {x : Int32} {tgt : Nat} (d : decode cc pc = .ok (.tableswitch dflt lo9 hi offs, len)) (h : x.toInt < lo9 ∨ hi < x.toInt) (ht : (pc : Int) + dflt = (tgt : Int)) (g : kG p l e R s m args below meth c D A nL Q cells slots ws lv st tgt) : kG p l e R s m args below meth c D A nL Q cells slots ws lv (.int x :: st) pc := by
  intro H locs ls hP hD hS hl; exact lv_tableOut X.1.1 X.1.2.1 d h ht (g H locs ls hP hD hS hl)
theorem k_lookup (X : kCx p R m c cc nL s args own D ty A fr lo) {dflt : Int} {ps : Array (Int × Int)} {len : Nat} {x : Int32} {off : Int} {tgt : Nat} (d : decode cc pc = .ok (.lookupswitch dflt ps, len)) (hp : (ps.toList.zip (ps.toList.drop 1)).all (fun (a, next) => a.1 < next.1) = true) (ho : Op.lookupswitch.offset ps.toList dflt x.toInt = off) (ht : (pc : Int) + off = (tgt : Int)) (g : kG p l e R s m args below meth c D A nL Q cells slots ws lv st tgt) : kG p l e R s m args below meth c D A nL Q cells slots ws lv (.int x :: st) pc := by
  intro H locs ls hP hD hS hl; exact lv_lookup X.1.1 X.1.2.1 d hp ho ht (g H locs ls hP hD hS hl)
theorem k_get (X : kCx p R m c cc nL s args own D ty A fr lo) {ref C : String} {T : u_T} {N ci index : Nat} (hin : ∀ w ∈ u_ws C T N, w ∈ wsL_law0) {a : Nat} {fs : List Value} {v : Value} (q0 k : Nat) (hlink : Cond.fieldLink own index ref (T k).2.1 (T k).2.2.1 ∈ wsL_law0) (hr : ref = (T k).1) (he : ws[q0]? = some (a, .inr (ci, fs))) (hc : vwCl[ci]? = some (C, T, N)) (hk : Nat.ble (k + 1) N = true) (hv : fs[k]? = some v) (d : decode cc pc = .ok (.getfield index, 3)) (hp : pc + 3 = pc') (g : kG p l e R s m args below meth c D A nL Q cells slots ws lv (v :: st) pc') : kG p l e R s m args below meth c D A nL Q cells slots ws lv (.ref a :: st) pc := by
  subst hp; subst hr; intro H locs ls hP hD hS hl; exact va_get X.1.1 X.1.2.1 X.1.2.2.2.2 hin X.1.2.2.2.1 X.2.1.1 hP q0 he hc k (Nat.le_of_ble_eq_true hk) (X.1.2.2.2.2 _ hlink) (fun _ h => h) hv d (g H locs ls hP hD hS hl)
theorem k_put (X : kCx p R m c cc nL s args own D ty A fr lo) {ref C : String} {T : u_T} {N ci index : Nat} (hin : ∀ w ∈ u_ws C T N, w ∈ wsL_law0) (ty0 : Nat → FieldType) (hty : ∀ k, k < N → parseFieldDescriptor (T k).2.2.1 = some (ty0 k)) (hnm : ∀ a, a < N → ∀ b, b < N → a ≠ b → (T a).2.1 ≠ (T b).2.1) {a : Nat} {fs : List Value} {v : Value} {ws' : va_W} (q0 k : Nat) (hlink : Cond.fieldLink own index ref (T k).2.1 (T k).2.2.1 ∈ wsL_law0) (hr : ref = (T k).1) (he : ws[q0]? = some (a, .inr (ci, fs))) (hc : vwCl[ci]? = some (C, T, N)) (hk : Nat.ble (k + 1) N = true) (hfin : (T k).2.2.2 = false) (hn : narrow (ty0 k) v = v) (hfit : fits (ty0 k) v = true) (hl : Nat.ble (k + 1) fs.length = true) (hw : ws.set q0 (a, .inr (ci, fs.set k v)) = ws') (d : decode cc pc = .ok (.putfield index, 3)) (hp : pc + 3 = pc') (g : kG p l e R s m args below meth c D A nL Q cells slots ws' lv st pc') : kG p l e R s m args below meth c D A nL Q cells slots ws lv (v :: .ref a :: st) pc := by
  subst hp; subst hr; subst hw; intro H locs ls hP hD hS h1; exact va_put X.1.1 X.1.2.1 X.1.2.2.2.2 hin ty0 hty hnm X.1.2.2.2.1 X.2.1.1 hP hD hS q0 he hc k (Nat.le_of_ble_eq_true hk) (X.1.2.2.2.2 _ hlink) (fun _ h => h) hfin (hty k (Nat.le_of_ble_eq_true hk)) hn hfit (Nat.le_of_ble_eq_true hl) d (fun H' locs' hP' hD' hS' => g H' locs' ls hP' hD' hS' h1)
theorem k_iald (X : kCx p R m c cc nL s args own D ty A fr lo) (q0 t0 : Nat) {a : Nat} {cA : ClassId} {n : Nat} {f : Nat → Int32} {i : Int32} (ha : ws[q0]? = some (a, .inl (cA, n, .inl f))) (ht : ty[t0]? = some (cA, .int)) (hin : vp_in i n) (d : decode cc pc = .ok (.iaload, 1)) (hp : pc + 1 = pc') (g : kG p l e R s m args below meth c D A nL Q cells slots ws lv (.int (f i.toNatClampNeg) :: st) pc') : kG p l e R s m args below meth c D A nL Q cells slots ws lv (.int i :: .ref a :: st) pc := by
  subst hp; intro H locs ls hP hD hS hl; exact va_iald X.1.1 X.1.2.1 X.2.1.1 hP q0 t0 ha ht hin d (g H locs ls hP hD hS hl)
theorem k_zald (X : kCx p R m c cc nL s args own D ty A fr lo) (q0 t0 : Nat) {a : Nat} {cA : ClassId} {n : Nat} {f : Nat → Int32} {i : Int32} (ha : ws[q0]? = some (a, .inl (cA, n, .inl f))) (ht : ty[t0]? = some (cA, .boolean)) (hin : vp_in i n) (d : decode cc pc = .ok (.baload, 1)) (hp : pc + 1 = pc') (g : kG p l e R s m args below meth c D A nL Q cells slots ws lv (.int (f i.toNatClampNeg) :: st) pc') : kG p l e R s m args below meth c D A nL Q cells slots ws lv (.int i :: .ref a :: st) pc := by
  subst hp; intro H locs ls hP hD hS hl; exact va_zald X.1.1 X.1.2.1 X.2.1.1 hP q0 t0 ha ht hin d (g H locs ls hP hD hS hl)
theorem k_iast (X : kCx p R m c cc nL s args own D ty A fr lo) (q0 t0 : Nat) {a : Nat} {cA : ClassId} {n : Nat} {f : Nat → Int32} {i x : Int32} {ws' : va_W} (ha : ws[q0]? = some (a, .inl (cA, n, .inl f))) (ht : ty[t0]? = some (cA, .int)) (hin : vp_in i n) (hw : ws.set q0 (a, .inl (cA, n, .inl (upd f i.toNatClampNeg x))) = ws') (d : decode cc pc = .ok (.iastore, 1)) (hp : pc + 1 = pc') (g : kG p l e R s m args below meth c D A nL Q cells slots ws' lv st pc') : kG p l e R s m args below meth c D A nL Q cells slots ws lv (.int x :: .int i :: .ref a :: st) pc := by
  subst hp; subst hw; intro H locs ls hP hD hS hl; exact va_iast X.1.1 X.1.2.1 X.2.1.1 hP hD hS q0 t0 ha ht hin d (fun H' locs' hP' hD' hS' => g H' locs' ls hP' hD' hS' hl)
theorem kPc.blind (av : List Value) (D : va_G) (ty : List (ClassId × FieldType)) (w0 : va_W) (sz : Nat) : FrameBlind (kPc av D ty w0 sz) := fun a U g mk q => by
  obtain ⟨q0, q1, qP, ⟨qK, qN, qZ⟩, qD⟩ := q
  exact ⟨q0, q1, qP, ⟨va_K.moved (u := U) (U := U.calling g mk a) (Vm.Alike.refl U.vm) qK, qN.same rfl, qZ.to (U := U.calling g mk a) (fun _ _ _ => rfl) (fun _ h => h) (Vm.Alike.refl U.vm)⟩, qD⟩
theorem kW_mem {w : Cond} (h : w ∈ wsL_law0) : goodWord w = true := by
  unfold wsL_law0 at h
  simp only [List.mem_append] at h
  rcases h with ((((((((((((h1 | h2 | h3 | h4 | h5 | h6 | h7 | h8 | h9 | h10 | h11 | h12 | h13 | h14 | h15 | h16 | h17 | h18 | h19 | h20 | h21 | h22 | h23 | h24 | h25 | h26 | h27 | h28 | h29 | h30 | h31 | h32 | h33 | h34 | h35 | h36 | h37 | h38 | h39 | h40 | h41 | h42 | h43 | h44 | h45 | h46) | h_wsX100) | h_wsX110) | h_wsX80) | h_wsX60) | h_wsX30) | h_wsX50) | h_wsX40) | h_wsX70) | h_wsX90) | h_wsX00) | h_wsX20) | hz
  · exact List.all_eq_true.mp gR1 _ h1
  · exact List.all_eq_true.mp gR2 _ h2
  · exact List.all_eq_true.mp gR3 _ h3
  · exact List.all_eq_true.mp gR4 _ h4
  · exact List.all_eq_true.mp gR5 _ h5
  · exact List.all_eq_true.mp gR6 _ h6
  · exact List.all_eq_true.mp gR7 _ h7
  · exact List.all_eq_true.mp gR8 _ h8
  · exact List.all_eq_true.mp gR9 _ h9
  · exact List.all_eq_true.mp gR10 _ h10
  · exact List.all_eq_true.mp gR11 _ h11
  · exact List.all_eq_true.mp gR12 _ h12
  · exact List.all_eq_true.mp gR13 _ h13
  · exact List.all_eq_true.mp gR14 _ h14
  · exact List.all_eq_true.mp gR15 _ h15
  · exact List.all_eq_true.mp gR16 _ h16
  · exact List.all_eq_true.mp gR17 _ h17
  · exact List.all_eq_true.mp gR18 _ h18
  · exact List.all_eq_true.mp gR19 _ h19
  · exact List.all_eq_true.mp gR20 _ h20
  · exact List.all_eq_true.mp gR21 _ h21
  · exact List.all_eq_true.mp gR22 _ h22
  · exact List.all_eq_true.mp gR23 _ h23
  · exact List.all_eq_true.mp gR24 _ h24
  · exact List.all_eq_true.mp gR25 _ h25
  · exact List.all_eq_true.mp gR26 _ h26
  · exact List.all_eq_true.mp gR27 _ h27
  · exact List.all_eq_true.mp gR28 _ h28
  · exact List.all_eq_true.mp gR29 _ h29
  · exact List.all_eq_true.mp gR30 _ h30
  · exact List.all_eq_true.mp gR31 _ h31
  · exact List.all_eq_true.mp gR32 _ h32
  · exact List.all_eq_true.mp gR33 _ h33
  · exact List.all_eq_true.mp gR34 _ h34
  · exact List.all_eq_true.mp gR35 _ h35
  · exact List.all_eq_true.mp gR36 _ h36
  · exact List.all_eq_true.mp gR37 _ h37
  · exact List.all_eq_true.mp gR38 _ h38
  · exact List.all_eq_true.mp gR39 _ h39
  · exact List.all_eq_true.mp gR40 _ h40
  · exact List.all_eq_true.mp gR41 _ h41
  · exact List.all_eq_true.mp gR42 _ h42
  · exact List.all_eq_true.mp gR43 _ h43
  · exact List.all_eq_true.mp gR44 _ h44
  · exact List.all_eq_true.mp gR45 _ h45
  · exact List.all_eq_true.mp gR46 _ h46
  · exact List.all_eq_true.mp g_wsX100 _ h_wsX100
  · exact List.all_eq_true.mp g_wsX110 _ h_wsX110
  · exact List.all_eq_true.mp g_wsX80 _ h_wsX80
  · exact List.all_eq_true.mp g_wsX60 _ h_wsX60
  · exact List.all_eq_true.mp g_wsX30 _ h_wsX30
  · exact List.all_eq_true.mp g_wsX50 _ h_wsX50
  · exact List.all_eq_true.mp g_wsX40 _ h_wsX40
  · exact List.all_eq_true.mp g_wsX70 _ h_wsX70
  · exact List.all_eq_true.mp g_wsX90 _ h_wsX90
  · exact List.all_eq_true.mp g_wsX00 _ h_wsX00
  · exact List.all_eq_true.mp g_wsX20 _ h_wsX20
  · exact absurd hz List.not_mem_nil
theorem kW_good {y0 : MethodName} {b0 : ByteArray} {n0 : Nat} {r0 : Option FieldType} {y : MethodName} {b : ByteArray} {n : Nat} {r : Option FieldType} (h : Cond.code y b n r ∈ wsL_law0) : GoodIn wsL_law0 (kW y b n r) := fun w hw => by
  rcases List.mem_cons.mp hw with e | hw
  · subst e; exact ⟨h, good_of_word (kW_mem h)⟩
  · exact ⟨hw, good_of_word (kW_mem hw)⟩
/-- what a call needs of the tables: a virtual method of its own class, by its words' places -/
def kVi (y : MethodName) (b : ByteArray) (n : Nat) (r : Option FieldType) (np : Nat) : Prop :=
  Cond.code y b n r ∈ wsL_law0 ∧ Cond.initialized y.cls ∈ wsL_law0 ∧ Cond.instanceMethod y ∈ wsL_law0 ∧ Cond.selects y.cls y y ∈ wsL_law0 ∧ (y.cls ≠ "java/lang/invoke/MethodHandle" ∧ y.cls ≠ "java/lang/invoke/VarHandle") ∧ (parseMethodDescriptor y.desc).map (fun d => d.parameters.length) = some np
def kSt (y : MethodName) (b : ByteArray) (n : Nat) (r : Option FieldType) (np : Nat) : Prop :=
  Cond.code y b n r ∈ wsL_law0 ∧ Cond.initialized y.cls ∈ wsL_law0 ∧ Cond.static y ∈ wsL_law0 ∧ (y.cls ≠ "java/lang/invoke/MethodHandle" ∧ y.cls ≠ "java/lang/invoke/VarHandle") ∧ (parseMethodDescriptor y.desc).map (fun d => d.parameters.length) = some np
theorem lv_roomW {st rest : List Value} {ls : Array Slot} {W9 : Nat} (h : (st.map fun v => v.category).sum ≤ W9) : 2 * (F0 m pc ls rest).monitorRoom + (st.map fun v => v.category).sum ≤ W9 := by
  show 2 * 0 + _ ≤ W9
  omega
theorem kPick {α : Type} {is : List Nat} {f : Nat → Option α} {w : List α} (h : is.map f = w.map some) : is.filterMap f = w := by
  have h1 : (is.map f).filterMap id = is.filterMap f := by rw [List.filterMap_map]; rfl
  rw [← h1, h, List.filterMap_map]
  exact List.filterMap_some
/-- behind a call: the callee's cells are put back at their places -/
theorem kBack {A0 : Nat → Prop} {wc wr w1 ws' : va_W} {H H1 : Heap} (hP : va_P D vwCl ws H) (hD : va_D A0 ws) (isC isR pm : List Nat) (hC : isC.map (fun i => ws[i]?) = wc.map some) (hR : isR.map (fun i => ws[i]?) = wr.map some) (hn : va_nd isR = true) (hdis : isR.all (fun i => !(isC.contains i)) = true)
    (hk : ∀ q : Nat, q < H.size → ¬ va_A wc H.size q → H1[q]? = H[q]?) (hF : ∀ q, va_A wc H.size q → A0 q) (hP1 : va_P D vwCl w1 H1) (hD1 : va_D (va_A wc H.size) w1) (hpn : va_nd pm = true) (hpm : pm.map (fun i => (wr ++ w1)[i]?) = ws'.map some) : va_P D vwCl ws' H1 ∧ va_D A0 ws' := by
  obtain ⟨h1, h2⟩ := va_join hP hD isC isR hC hR hn (fun i hi hc => by
    have h := List.all_eq_true.mp hdis i hi
    have h5 : isC.contains i = true := List.contains_iff_mem.mpr hc
    rw [h5] at h
    exact absurd h (by decide)) hk hF hP1 hD1
  exact ⟨h1.sub pm (kPick hpm), h2.sub pm hpn hpm⟩
theorem kCont {wc wr w1 ws' : va_W} {rv : Option Value} {st0 : List Value} {a : Array Value} {mc ms : Nat} (hA : ∀ q : Nat, s.heap.size ≤ q → A q) (isC isR pm : List Nat) (hC : isC.map (fun i => ws[i]?) = wc.map some) (hR : isR.map (fun i => ws[i]?) = wr.map some) (hn : va_nd isR = true) (hdis : isR.all (fun i => !(isC.contains i)) = true) (hpn : va_nd pm = true) (hpm : pm.map (fun i => (wr ++ w1)[i]?) = ws'.map some)
    (hr : ∀ (H : Heap) (locs : List Loc) (ls : Array Slot), va_P D vwCl ws H → va_D A ws → va_S A s.heap H locs → lv_has ls nL lv → va_Run p l e R s m args below meth c H locs cells slots mc ms (F0 m pc ls st0) st (kQ D rv w1 (va_A wc H.size) a) (va_A wc H.size))
    (g : kG p l e R s m args below meth c D A nL Q (cells + mc) (slots + ms) ws' lv (rv.toList ++ st) (pc + 3)) : kG p l e R s m args below meth c D A nL Q cells slots ws lv st0 pc := by
  intro H locs ls hP hD hS hl T hT X
  obtain ⟨v, st₀, t, T', L, h0, X', hL, e1, e2, ⟨hv, hP1, hD1, hz, hk⟩, st⟩ := hr H locs ls hP hD hS hl T hT X
  cases hv
  rw [h0] at hz hk
  have hf := va_free hD hS hA isC hC
  have hk' : ∀ q : Nat, q < H.size → ¬ va_A wc H.size q → t.heap[q]? = H[q]? := fun q h1 h2 => hk q h1 h2
  obtain ⟨hP', hD'⟩ := kBack hP hD isC isR pm hC hR hn hdis hk' hf hP1 hD1 hpn hpm
  obtain ⟨t2, a1, b1⟩ := g t.heap (locs ++ L) ls hP' hD' ⟨Nat.le_trans hS.1 hz, fun q h1 h2 => by
      rw [hk q (Nat.lt_of_lt_of_le h1 hS.1) (fun z => h2 (hf q z))]; exact hS.2.1 q h1 h2, fun q hq => by
      rcases List.mem_append.mp hq with h | h
      · exact hS.2.2 q h
      · exact hf _ (hL q h)⟩ hl T' e1 X'
  exact ⟨t2, st t2 a1, b1⟩
theorem k_callV (X : kCx p R m c cc nL s args own D ty A fr lo) {y : MethodName} {bytes : ByteArray} {maxL np : Nat} {ret : Option FieldType} {fr1 lo1 W9 index mc ms : Nat} {b : Nat} {As : List Value} {wc wr w1 ws' : va_W} {rv : Option Value} {st0 : List Value} (hM : kM l y bytes maxL ret fr1 lo1 mc ms D ty (.ref b :: As) wc rv w1) (hv : kVi y bytes maxL ret np) (hl : Cond.methodLink own index y ∈ wsL_law0) (hnp : As.length = np) (hst : st0 = As.reverse ++ .ref b :: st) (hW : Nat.ble (st.map fun v => v.category).sum W9 = true) (hfr : Nat.ble (fr1 + 1) fr = true) (hlo : Nat.ble (W9 + (maxL + 11) + lo1) lo = true) (hf : cells + mc ≤ R.cells ∧ slots + ms ≤ R.slots) (d : decode cc pc = .ok (.invokevirtual index, 3)) {T9 : u_T} {N9 ci q9 : Nat} {fs9 : List Value} (hcl : vwCl[ci]? = some (y.cls, T9, N9)) (he : wc[q9]? = some (b, .inr (ci, fs9))) (isC isR pm : List Nat) (hC : isC.map (fun i => ws[i]?) = wc.map some) (hR : isR.map (fun i => ws[i]?) = wr.map some) (hn : va_nd isR = true) (hdis : isR.all (fun i => !(isC.contains i)) = true) (hpn : va_nd pm = true) (hpm : pm.map (fun i => (wr ++ w1)[i]?) = ws'.map some) (hin9 : va_nd isC = true) (g : kG p l e R s m args below meth c D A nL Q (cells + mc) (slots + ms) ws' lv (rv.toList ++ st) (pc + 3)) : kG p l e R s m args below meth c D A nL Q cells slots ws lv st0 pc := by
  obtain ⟨⟨hx, hb, hml, hown, hts⟩, hE, hA, hRf, hRl⟩ := X
  refine kCont (a := (Value.ref b :: As).toArray) (wc := wc) (wr := wr) (w1 := w1) (st := st) hA isC isR pm hC hR hn hdis hpn hpm (fun H locs ls hP hD hS hl9 => ?_) g
  have hPc := hP.sub isC (kPick hC)
  have hDc : va_D A wc := hD.sub isC hin9 hC
  have hK : Back l R p e below s args y 3 W9 (PreOf R mc ms (kPc (.ref b :: As) D ty wc H.size)) (PostOf (kQ D rv w1 (va_A wc H.size)) mc ms (va_A wc H.size)) :=
    back_of (bytes := bytes) (maxL := maxL) (ret := ret) (hM H.size) (kPc.blind _ _ _ _ _) rfl rfl (by rw [hRf]; exact Nat.le_of_ble_eq_true hfr) (by rw [hRl]; exact Nat.le_of_ble_eq_true hlo) (pay_in hts (kW_good (y0 := y) (b0 := bytes) (n0 := 0) (r0 := none) hv.1)) List.mem_cons_self (fun a' U hW => word_at hW (Or.inl (by first | rfl | simp [Cond.onTables, Cond.keeps, Cond.steady])) (hts _ hv.2.1))
  have hpre : ∀ U : State, U.heap = H → s.WarmedH U.vm → kPc (.ref b :: As) D ty wc H.size (Value.ref b :: As).toArray U := fun U hU hW => ⟨rfl, by rw [hU], by rw [hU]; exact hPc, ⟨va_K.moved hW.alike hE.1, hE.2.1.warm hW, by rw [hU]; exact hE.2.2.to hS.2.1 (va_free hD hS hA isC hC) hW.alike⟩, hDc.weaken (fun _ _ _ _ => trivial)⟩
  intro T hT X0
  obtain ⟨cellB, hcB, hoB, hclB⟩ := va_recv hE.1 hPc hcl he
  obtain ⟨v, vm₁, ⟨U', l2, c2, s2⟩, hW₁, X', ⟨g', mk, t, L, e1, e2, hq, h1, hL, h2, h3⟩, st⟩ := callV X0 hx (C := y.cls) (bytes := bytes) (maxL := maxL) (ret := ret) hown (hts _ hl) (hts _ hv.2.2.1) (hts _ hv.2.2.2.1) (hts _ hv.1) hv.2.2.2.2.1 hK (by rw [hT]; exact hcB) hoB hclB rfl (hl9.1.trans hml.symm) (argsL := As) (rest := st) (fun sig h => by
      have h2 := hv.2.2.2.2.2
      rw [h] at h2
      exact hnp.trans (Option.some.inj h2).symm) hst (lv_roomW (Nat.le_of_ble_eq_true hW)) (by rw [hb]; exact d)
    (fun vm₁ hW₁ => ⟨hf.1, hf.2, hpre (T.setVm vm₁) hT hW₁⟩)
  dsimp only [Pt.U, Pt.locs, Pt.cells, Pt.slots] at X' e1 e2 h1 h2 h3 st
  subst h1; subst h2; subst h3
  exact ⟨v, (T.setVm vm₁).calling g' mk (Value.ref b :: As).toArray, t, U', L, hT, X', hL, e1, e2, hq, st⟩
theorem k_callS (X : kCx p R m c cc nL s args own D ty A fr lo) {y : MethodName} {bytes : ByteArray} {maxL np : Nat} {ret : Option FieldType} {fr1 lo1 W9 index mc ms : Nat} {As : List Value} {wc wr w1 ws' : va_W} {rv : Option Value} {st0 : List Value} (hM : kM l y bytes maxL ret fr1 lo1 mc ms D ty As wc rv w1) (hv : kSt y bytes maxL ret np) (hl : Cond.methodLink own index y ∈ wsL_law0) (hnp : As.length = np) (hst : st0 = As.reverse ++ st) (hW : Nat.ble (st.map fun v => v.category).sum W9 = true) (hfr : Nat.ble (fr1 + 1) fr = true) (hlo : Nat.ble (W9 + (maxL + 11) + lo1) lo = true) (hf : cells + mc ≤ R.cells ∧ slots + ms ≤ R.slots) (d : decode cc pc = .ok (.invokestatic index, 3)) (isC isR pm : List Nat) (hC : isC.map (fun i => ws[i]?) = wc.map some) (hR : isR.map (fun i => ws[i]?) = wr.map some) (hn : va_nd isR = true) (hdis : isR.all (fun i => !(isC.contains i)) = true) (hpn : va_nd pm = true) (hpm : pm.map (fun i => (wr ++ w1)[i]?) = ws'.map some) (hin9 : va_nd isC = true) (g : kG p l e R s m args below meth c D A nL Q (cells + mc) (slots + ms) ws' lv (rv.toList ++ st) (pc + 3)) : kG p l e R s m args below meth c D A nL Q cells slots ws lv st0 pc := by
  obtain ⟨⟨hx, hb, hml, hown, hts⟩, hE, hA, hRf, hRl⟩ := X
  refine kCont (a := As.toArray) (wc := wc) (wr := wr) (w1 := w1) (st := st) hA isC isR pm hC hR hn hdis hpn hpm (fun H locs ls hP hD hS hl9 => ?_) g
  have hPc := hP.sub isC (kPick hC)
  have hDc : va_D A wc := hD.sub isC hin9 hC
  have hK : Back l R p e below s args y 3 W9 (PreOf R mc ms (kPc As D ty wc H.size)) (PostOf (kQ D rv w1 (va_A wc H.size)) mc ms (va_A wc H.size)) :=
    back_of (bytes := bytes) (maxL := maxL) (ret := ret) (hM H.size) (kPc.blind _ _ _ _ _) rfl rfl (by rw [hRf]; exact Nat.le_of_ble_eq_true hfr) (by rw [hRl]; exact Nat.le_of_ble_eq_true hlo) (pay_in hts (kW_good (y0 := y) (b0 := bytes) (n0 := 0) (r0 := none) hv.1)) List.mem_cons_self (fun a' U hW => word_at hW (Or.inl (by first | rfl | simp [Cond.onTables, Cond.keeps, Cond.steady])) (hts _ hv.2.1))
  have hpre : ∀ U : State, U.heap = H → s.WarmedH U.vm → kPc As D ty wc H.size As.toArray U := fun U hU hW => ⟨rfl, by rw [hU], by rw [hU]; exact hPc, ⟨va_K.moved hW.alike hE.1, hE.2.1.warm hW, by rw [hU]; exact hE.2.2.to hS.2.1 (va_free hD hS hA isC hC) hW.alike⟩, hDc.weaken (fun _ _ _ _ => trivial)⟩
  intro T hT X0
  obtain ⟨v, vm₁, ⟨U', l2, c2, s2⟩, hW₁, X', ⟨g', mk, t, L, e1, e2, hq, h1, hL, h2, h3⟩, st⟩ := callS X0 hx (bytes := bytes) (maxL := maxL) (ret := ret) hown (hts _ hl) (hts _ hv.2.2.1) (hts _ hv.2.1) (hts _ hv.1) hv.2.2.2.1 hK rfl (hl9.1.trans hml.symm) (argsL := As) (rest := st) (fun sig h => by
      have h2 := hv.2.2.2.2
      rw [h] at h2
      exact hnp.trans (Option.some.inj h2).symm) hst (lv_roomW (Nat.le_of_ble_eq_true hW)) (by rw [hb]; exact d)
    (fun vm₁ hW₁ => ⟨hf.1, hf.2, hpre (T.setVm vm₁) hT hW₁⟩)
  dsimp only [Pt.U, Pt.locs, Pt.cells, Pt.slots] at X' e1 e2 h1 h2 h3 st
  subst h1; subst h2; subst h3
  exact ⟨v, (T.setVm vm₁).calling g' mk As.toArray, t, U', L, hT, X', hL, e1, e2, hq, st⟩
theorem k_callSN (X : kCx p R m c cc nL s args own D ty A fr lo) {y : MethodName} {bytes : ByteArray} {maxL np : Nat} {ret : Option FieldType} {fr1 lo1 W9 index mc ms : Nat} {As : List Value} {wc wr w1 ws' : va_W} {rv : Option Value} {st0 : List Value} {host : String} (hM : kM l y bytes maxL ret fr1 lo1 mc ms D ty As wc rv w1) (hv : kSt y bytes maxL ret np) (hl : va_Nw (.methodLinkNest own index y host) s) (hnp : As.length = np) (hst : st0 = As.reverse ++ st) (hW : Nat.ble (st.map fun v => v.category).sum W9 = true) (hfr : Nat.ble (fr1 + 1) fr = true) (hlo : Nat.ble (W9 + (maxL + 11) + lo1) lo = true) (hf : cells + mc ≤ R.cells ∧ slots + ms ≤ R.slots) (d : decode cc pc = .ok (.invokestatic index, 3)) (isC isR pm : List Nat) (hC : isC.map (fun i => ws[i]?) = wc.map some) (hR : isR.map (fun i => ws[i]?) = wr.map some) (hn : va_nd isR = true) (hdis : isR.all (fun i => !(isC.contains i)) = true) (hpn : va_nd pm = true) (hpm : pm.map (fun i => (wr ++ w1)[i]?) = ws'.map some) (hin9 : va_nd isC = true) (g : kG p l e R s m args below meth c D A nL Q (cells + mc) (slots + ms) ws' lv (rv.toList ++ st) (pc + 3)) : kG p l e R s m args below meth c D A nL Q cells slots ws lv st0 pc := by
  obtain ⟨⟨hx, hb, hml, hown, hts⟩, hE, hA, hRf, hRl⟩ := X
  refine kCont (a := As.toArray) (wc := wc) (wr := wr) (w1 := w1) (st := st) hA isC isR pm hC hR hn hdis hpn hpm (fun H locs ls hP hD hS hl9 => ?_) g
  have hPc := hP.sub isC (kPick hC)
  have hDc : va_D A wc := hD.sub isC hin9 hC
  have hK : Back l R p e below s args y 3 W9 (PreOf R mc ms (kPc As D ty wc H.size)) (PostOf (kQ D rv w1 (va_A wc H.size)) mc ms (va_A wc H.size)) :=
    back_of (bytes := bytes) (maxL := maxL) (ret := ret) (hM H.size) (kPc.blind _ _ _ _ _) rfl rfl (by rw [hRf]; exact Nat.le_of_ble_eq_true hfr) (by rw [hRl]; exact Nat.le_of_ble_eq_true hlo) (pay_in hts (kW_good (y0 := y) (b0 := bytes) (n0 := 0) (r0 := none) hv.1)) List.mem_cons_self (fun a' U hW => word_at hW (Or.inl (by first | rfl | simp [Cond.onTables, Cond.keeps, Cond.steady])) (hts _ hv.2.1))
  have hpre : ∀ U : State, U.heap = H → s.WarmedH U.vm → kPc As D ty wc H.size As.toArray U := fun U hU hW => ⟨rfl, by rw [hU], by rw [hU]; exact hPc, ⟨va_K.moved hW.alike hE.1, hE.2.1.warm hW, by rw [hU]; exact hE.2.2.to hS.2.1 (va_free hD hS hA isC hC) hW.alike⟩, hDc.weaken (fun _ _ _ _ => trivial)⟩
  intro T hT X0
  obtain ⟨v, vm₁, ⟨U', l2, c2, s2⟩, hW₁, X', ⟨g', mk, t, L, e1, e2, hq, h1, hL, h2, h3⟩, st⟩ := va_callSN X0 hx (bytes := bytes) (maxL := maxL) (ret := ret) hown (va_Nw.use rfl hl) (hts _ hv.2.2.1) (hts _ hv.2.1) (hts _ hv.1) hv.2.2.2.1 hK rfl (hl9.1.trans hml.symm) (argsL := As) (rest := st) (fun sig h => by
      have h2 := hv.2.2.2.2
      rw [h] at h2
      exact hnp.trans (Option.some.inj h2).symm) hst (lv_roomW (Nat.le_of_ble_eq_true hW)) (by rw [hb]; exact d)
    (fun vm₁ hW₁ => ⟨hf.1, hf.2, hpre (T.setVm vm₁) hT hW₁⟩)
  dsimp only [Pt.U, Pt.locs, Pt.cells, Pt.slots] at X' e1 e2 h1 h2 h3 st
  subst h1; subst h2; subst h3
  exact ⟨v, (T.setVm vm₁).calling g' mk As.toArray, t, U', L, hT, X', hL, e1, e2, hq, st⟩
theorem k_iret (X : kCx p R m c cc nL s args own D ty A fr lo) {v : Int32} {w1 : va_W} (hr : meth.sig.returnType = some .int) (hlk : meth.locks = false) (hw : ws = w1) (d : decode cc pc = .ok (.ireturn, 1)) : kG p l e R s m args below meth c D A nL (MQ below (kQ D (some (.int v)) w1 A) args s cells slots A) cells slots ws lv [.int v] pc := by
  subst hw; intro H locs ls hP hD hS hl
  exact W.iret X.1.1 X.1.2.1 hr (fun t ht hW => ⟨rfl, by rw [ht]; exact hP, hD, hS.F ht⟩) hS.2.2 d hlk
theorem k_zret (X : kCx p R m c cc nL s args own D ty A fr lo) {v : Int32} {w1 : va_W} (hr : meth.sig.returnType = some .boolean) (hlk : meth.locks = false) (hz : narrow .boolean (.int v) = .int v) (hw : ws = w1) (d : decode cc pc = .ok (.ireturn, 1)) : kG p l e R s m args below meth c D A nL (MQ below (kQ D (some (.int v)) w1 A) args s cells slots A) cells slots ws lv [.int v] pc := by
  subst hw; intro H locs ls hP hD hS hl
  exact W.zret X.1.1 X.1.2.1 hr hz (fun t ht hW => ⟨rfl, by rw [ht]; exact hP, hD, hS.F ht⟩) hS.2.2 d hlk
theorem k_lret (X : kCx p R m c cc nL s args own D ty A fr lo) {v : Int64} {w1 : va_W} (hr : meth.sig.returnType = some .long) (hlk : meth.locks = false) (hw : ws = w1) (d : decode cc pc = .ok (.lreturn, 1)) : kG p l e R s m args below meth c D A nL (MQ below (kQ D (some (.long v)) w1 A) args s cells slots A) cells slots ws lv [.long v] pc := by
  subst hw; intro H locs ls hP hD hS hl
  exact W.lret X.1.1 X.1.2.1 hr (fun t ht hW => ⟨rfl, by rw [ht]; exact hP, hD, hS.F ht⟩) hS.2.2 d hlk
theorem k_vret (X : kCx p R m c cc nL s args own D ty A fr lo) {w1 : va_W} (hr : meth.sig.returnType = none) (hlk : meth.locks = false) (hw : ws = w1) (d : decode cc pc = .ok (.return_, 1)) : kG p l e R s m args below meth c D A nL (MQ below (kQ D none w1 A) args s cells slots A) cells slots ws lv [] pc := by
  subst hw; intro H locs ls hP hD hS hl
  exact W.vret X.1.1 X.1.2.1 hr (fun t ht hW => ⟨rfl, by rw [ht]; exact hP, hD, hS.F ht⟩) hS.2.2 d hlk
theorem k_cV1 (X : kCx p R m c cc nL s args own D ty A fr lo) {y : MethodName} {bytes : ByteArray} {maxL np : Nat} {ret : Option FieldType} {fr1 lo1 index : Nat} {b : Nat} {v : Value} {wc wr w1 ws' : va_W} {st0 : List Value}  (As : List Value) (W9 : Nat) (isC isR pm : List Nat) (hM : kM l y bytes maxL ret fr1 lo1 0 0 D ty (.ref b :: As) wc (some v) w1) (hv : kVi y bytes maxL ret np) (hl : Cond.methodLink own index y ∈ wsL_law0) (d : decode cc pc = .ok (.invokevirtual index, 3)) {T9 : u_T} {N9 ci q9 : Nat} {fs9 : List Value} (hcl : vwCl[ci]? = some (y.cls, T9, N9)) (he : wc[q9]? = some (b, .inr (ci, fs9))) (hst : st0 = As.reverse ++ .ref b :: st) (hnp : As.length = np) (hW : Nat.ble (st.map fun v => v.category).sum W9 = true) (hfr : Nat.ble (fr1 + 1) fr = true) (hlo : Nat.ble (W9 + (maxL + 11) + lo1) lo = true) (hC : isC.map (fun i => ws[i]?) = wc.map some) (hR : isR.map (fun i => ws[i]?) = wr.map some) (hpm : pm.map (fun i => (wr ++ w1)[i]?) = ws'.map some) (hn : va_nd isR = true) (hdis : isR.all (fun i => !(isC.contains i)) = true) (hpn : va_nd pm = true) (hin9 : va_nd isC = true) (hp : pc + 3 = pc') (g : kG p l e R s m args below meth c D A nL Q 0 0 ws' lv (v :: st) pc') : kG p l e R s m args below meth c D A nL Q 0 0 ws lv st0 pc := by
  subst hp; exact k_callV (mc := 0) (ms := 0) (W9 := W9) X hM hv hl hnp hst hW hfr hlo ⟨Nat.zero_le _, Nat.zero_le _⟩ d hcl he isC isR pm hC hR hn hdis hpn hpm hin9 g
theorem k_cV0 (X : kCx p R m c cc nL s args own D ty A fr lo) {y : MethodName} {bytes : ByteArray} {maxL np : Nat} {ret : Option FieldType} {fr1 lo1 index : Nat} {b : Nat} {wc wr w1 ws' : va_W} {st0 : List Value}  (As : List Value) (W9 : Nat) (isC isR pm : List Nat) (hM : kM l y bytes maxL ret fr1 lo1 0 0 D ty (.ref b :: As) wc none w1) (hv : kVi y bytes maxL ret np) (hl : Cond.methodLink own index y ∈ wsL_law0) (d : decode cc pc = .ok (.invokevirtual index, 3)) {T9 : u_T} {N9 ci q9 : Nat} {fs9 : List Value} (hcl : vwCl[ci]? = some (y.cls, T9, N9)) (he : wc[q9]? = some (b, .inr (ci, fs9))) (hst : st0 = As.reverse ++ .ref b :: st) (hnp : As.length = np) (hW : Nat.ble (st.map fun v => v.category).sum W9 = true) (hfr : Nat.ble (fr1 + 1) fr = true) (hlo : Nat.ble (W9 + (maxL + 11) + lo1) lo = true) (hC : isC.map (fun i => ws[i]?) = wc.map some) (hR : isR.map (fun i => ws[i]?) = wr.map some) (hpm : pm.map (fun i => (wr ++ w1)[i]?) = ws'.map some) (hn : va_nd isR = true) (hdis : isR.all (fun i => !(isC.contains i)) = true) (hpn : va_nd pm = true) (hin9 : va_nd isC = true) (hp : pc + 3 = pc') (g : kG p l e R s m args below meth c D A nL Q 0 0 ws' lv st pc') : kG p l e R s m args below meth c D A nL Q 0 0 ws lv st0 pc := by
  subst hp; exact k_callV (mc := 0) (ms := 0) (W9 := W9) X hM hv hl hnp hst hW hfr hlo ⟨Nat.zero_le _, Nat.zero_le _⟩ d hcl he isC isR pm hC hR hn hdis hpn hpm hin9 g
theorem k_cS1 (X : kCx p R m c cc nL s args own D ty A fr lo) {y : MethodName} {bytes : ByteArray} {maxL np : Nat} {ret : Option FieldType} {fr1 lo1 index : Nat} {v : Value} {wc wr w1 ws' : va_W} {st0 : List Value}  (As : List Value) (W9 : Nat) (isC isR pm : List Nat) (hM : kM l y bytes maxL ret fr1 lo1 0 0 D ty As wc (some v) w1) (hv : kSt y bytes maxL ret np) (hl : Cond.methodLink own index y ∈ wsL_law0) (d : decode cc pc = .ok (.invokestatic index, 3))  (hst : st0 = As.reverse ++ st) (hnp : As.length = np) (hW : Nat.ble (st.map fun v => v.category).sum W9 = true) (hfr : Nat.ble (fr1 + 1) fr = true) (hlo : Nat.ble (W9 + (maxL + 11) + lo1) lo = true) (hC : isC.map (fun i => ws[i]?) = wc.map some) (hR : isR.map (fun i => ws[i]?) = wr.map some) (hpm : pm.map (fun i => (wr ++ w1)[i]?) = ws'.map some) (hn : va_nd isR = true) (hdis : isR.all (fun i => !(isC.contains i)) = true) (hpn : va_nd pm = true) (hin9 : va_nd isC = true) (hp : pc + 3 = pc') (g : kG p l e R s m args below meth c D A nL Q 0 0 ws' lv (v :: st) pc') : kG p l e R s m args below meth c D A nL Q 0 0 ws lv st0 pc := by
  subst hp; exact k_callS (mc := 0) (ms := 0) (W9 := W9) X hM hv hl hnp hst hW hfr hlo ⟨Nat.zero_le _, Nat.zero_le _⟩ d  isC isR pm hC hR hn hdis hpn hpm hin9 g
theorem k_cS0 (X : kCx p R m c cc nL s args own D ty A fr lo) {y : MethodName} {bytes : ByteArray} {maxL np : Nat} {ret : Option FieldType} {fr1 lo1 index : Nat} {wc wr w1 ws' : va_W} {st0 : List Value}  (As : List Value) (W9 : Nat) (isC isR pm : List Nat) (hM : kM l y bytes maxL ret fr1 lo1 0 0 D ty As wc none w1) (hv : kSt y bytes maxL ret np) (hl : Cond.methodLink own index y ∈ wsL_law0) (d : decode cc pc = .ok (.invokestatic index, 3))  (hst : st0 = As.reverse ++ st) (hnp : As.length = np) (hW : Nat.ble (st.map fun v => v.category).sum W9 = true) (hfr : Nat.ble (fr1 + 1) fr = true) (hlo : Nat.ble (W9 + (maxL + 11) + lo1) lo = true) (hC : isC.map (fun i => ws[i]?) = wc.map some) (hR : isR.map (fun i => ws[i]?) = wr.map some) (hpm : pm.map (fun i => (wr ++ w1)[i]?) = ws'.map some) (hn : va_nd isR = true) (hdis : isR.all (fun i => !(isC.contains i)) = true) (hpn : va_nd pm = true) (hin9 : va_nd isC = true) (hp : pc + 3 = pc') (g : kG p l e R s m args below meth c D A nL Q 0 0 ws' lv st pc') : kG p l e R s m args below meth c D A nL Q 0 0 ws lv st0 pc := by
  subst hp; exact k_callS (mc := 0) (ms := 0) (W9 := W9) X hM hv hl hnp hst hW hfr hlo ⟨Nat.zero_le _, Nat.zero_le _⟩ d  isC isR pm hC hR hn hdis hpn hpm hin9 g
theorem k_cN1 (X : kCx p R m c cc nL s args own D ty A fr lo) {y : MethodName} {bytes : ByteArray} {maxL np : Nat} {ret : Option FieldType} {fr1 lo1 index : Nat} {v : Value} {wc wr w1 ws' : va_W} {st0 : List Value} {host : String} (As : List Value) (W9 : Nat) (isC isR pm : List Nat) (hM : kM l y bytes maxL ret fr1 lo1 0 0 D ty As wc (some v) w1) (hv : kSt y bytes maxL ret np) (hl : va_Nw (.methodLinkNest own index y host) s) (d : decode cc pc = .ok (.invokestatic index, 3))  (hst : st0 = As.reverse ++ st) (hnp : As.length = np) (hW : Nat.ble (st.map fun v => v.category).sum W9 = true) (hfr : Nat.ble (fr1 + 1) fr = true) (hlo : Nat.ble (W9 + (maxL + 11) + lo1) lo = true) (hC : isC.map (fun i => ws[i]?) = wc.map some) (hR : isR.map (fun i => ws[i]?) = wr.map some) (hpm : pm.map (fun i => (wr ++ w1)[i]?) = ws'.map some) (hn : va_nd isR = true) (hdis : isR.all (fun i => !(isC.contains i)) = true) (hpn : va_nd pm = true) (hin9 : va_nd isC = true) (hp : pc + 3 = pc') (g : kG p l e R s m args below meth c D A nL Q 0 0 ws' lv (v :: st) pc') : kG p l e R s m args below meth c D A nL Q 0 0 ws lv st0 pc := by
  subst hp; exact k_callSN (mc := 0) (ms := 0) (W9 := W9) X hM hv hl hnp hst hW hfr hlo ⟨Nat.zero_le _, Nat.zero_le _⟩ d  isC isR pm hC hR hn hdis hpn hpm hin9 g
theorem k_cN0 (X : kCx p R m c cc nL s args own D ty A fr lo) {y : MethodName} {bytes : ByteArray} {maxL np : Nat} {ret : Option FieldType} {fr1 lo1 index : Nat} {wc wr w1 ws' : va_W} {st0 : List Value} {host : String} (As : List Value) (W9 : Nat) (isC isR pm : List Nat) (hM : kM l y bytes maxL ret fr1 lo1 0 0 D ty As wc none w1) (hv : kSt y bytes maxL ret np) (hl : va_Nw (.methodLinkNest own index y host) s) (d : decode cc pc = .ok (.invokestatic index, 3))  (hst : st0 = As.reverse ++ st) (hnp : As.length = np) (hW : Nat.ble (st.map fun v => v.category).sum W9 = true) (hfr : Nat.ble (fr1 + 1) fr = true) (hlo : Nat.ble (W9 + (maxL + 11) + lo1) lo = true) (hC : isC.map (fun i => ws[i]?) = wc.map some) (hR : isR.map (fun i => ws[i]?) = wr.map some) (hpm : pm.map (fun i => (wr ++ w1)[i]?) = ws'.map some) (hn : va_nd isR = true) (hdis : isR.all (fun i => !(isC.contains i)) = true) (hpn : va_nd pm = true) (hin9 : va_nd isC = true) (hp : pc + 3 = pc') (g : kG p l e R s m args below meth c D A nL Q 0 0 ws' lv st pc') : kG p l e R s m args below meth c D A nL Q 0 0 ws lv st0 pc := by
  subst hp; exact k_callSN (mc := 0) (ms := 0) (W9 := W9) X hM hv hl hnp hst hW hfr hlo ⟨Nat.zero_le _, Nat.zero_le _⟩ d  isC isR pm hC hR hn hdis hpn hpm hin9 g
theorem k_mid (ws' : va_W) (lv' : List (Nat × Value)) (st' : List Value) (pcJ : Nat) (hJ : kG p l e R s m args below meth c D A nL Q cells slots ws' lv' st' pcJ) (k : kG p l e R s m args below meth c D A nL Q cells slots ws' lv' st' pcJ → kG p l e R s m args below meth c D A nL Q cells slots ws lv st pc) : kG p l e R s m args below meth c D A nL Q cells slots ws lv st pc := k hJ
theorem k_iret9 (X : kCx p R m c cc nL s args own D ty A fr lo) {v r : Int32} {w1 : va_W} (hr : meth.sig.returnType = some .int) (hlk : meth.locks = false) (hv : v = r) (hw : ws = w1) (d : decode cc pc = .ok (.ireturn, 1)) : kG p l e R s m args below meth c D A nL (MQ below (kQ D (some (.int r)) w1 A) args s cells slots A) cells slots ws lv [.int v] pc := by
  subst hv; exact k_iret X hr hlk hw d
theorem k_zret9 (X : kCx p R m c cc nL s args own D ty A fr lo) {v r : Int32} {w1 : va_W} (hr : meth.sig.returnType = some .boolean) (hlk : meth.locks = false) (hz : narrow .boolean (.int v) = .int v) (hv : v = r) (hw : ws = w1) (d : decode cc pc = .ok (.ireturn, 1)) : kG p l e R s m args below meth c D A nL (MQ below (kQ D (some (.int r)) w1 A) args s cells slots A) cells slots ws lv [.int v] pc := by
  subst hv; exact k_zret X hr hlk hz hw d
theorem k_lret9 (X : kCx p R m c cc nL s args own D ty A fr lo) {v r : Int64} {w1 : va_W} (hr : meth.sig.returnType = some .long) (hlk : meth.locks = false) (hv : v = r) (hw : ws = w1) (d : decode cc pc = .ok (.lreturn, 1)) : kG p l e R s m args below meth c D A nL (MQ below (kQ D (some (.long r)) w1 A) args s cells slots A) cells slots ws lv [.long v] pc := by
  subst hv; exact k_lret X hr hlk hw d
theorem kTD {x : Int32} {lo9 hi dflt : Int} {offs : Array Int} (vs : List Int32) (h : ∀ v ∈ vs, ¬ x = v) (hc : (List.range (hi - lo9 + 1).toNat).all (fun j => decide (offs[j]? = some dflt) || vs.any (fun v => v.toInt == lo9 + (j : Int))) = true) : (x.toInt < lo9 ∨ hi < x.toInt) ∨ (¬ x.toInt < lo9 ∧ ¬ hi < x.toInt ∧ offs[(x.toInt - lo9).toNat]? = some dflt) := by
  by_cases h1 : x.toInt < lo9
  · exact Or.inl (Or.inl h1)
  by_cases h2 : hi < x.toInt
  · exact Or.inl (Or.inr h2)
  refine Or.inr ⟨h1, h2, ?_⟩
  have h3 := List.all_eq_true.mp hc (x.toInt - lo9).toNat (List.mem_range.mpr (by omega))
  rcases Bool.or_eq_true _ _ ▸ h3 with h4 | h4
  · exact of_decide_eq_true h4
  · obtain ⟨v, hv, h5⟩ := List.any_eq_true.mp h4
    have h6 : v.toInt = lo9 + (((x.toInt - lo9).toNat : Nat) : Int) := by simpa using h5
    exact absurd (Int32.toInt_inj.mp (by rw [h6]; omega)) (h v hv)
theorem k_tblD (X : kCx p R m c cc nL s args own D ty A fr lo) {dflt lo9 hi : Int} {offs : Array Int} {len : Nat} {x : Int32} {tgt : Nat} (d : decode cc pc = .ok (.tableswitch dflt lo9 hi offs, len)) (vs : List Int32) (h : ∀ v ∈ vs, ¬ x = v) (hc : (List.range (hi - lo9 + 1).toNat).all (fun j => decide (offs[j]? = some dflt) || vs.any (fun v => v.toInt == lo9 + (j : Int))) = true) (ht : (pc : Int) + dflt = (tgt : Int)) (g : kG p l e R s m args below meth c D A nL Q cells slots ws lv st tgt) : kG p l e R s m args below meth c D A nL Q cells slots ws lv (.int x :: st) pc := by
  rcases kTD vs h hc with q | ⟨q1, q2, q3⟩
  · exact k_tblOut X d q ht g
  · exact k_tblIn X d (v := x) rfl q1 q2 q3 ht g
theorem kLk {x : Int32} {dflt : Int} : ∀ (ps : List (Int × Int)) (vs : List Int32), (∀ v ∈ vs, ¬ x = v) → ps.all (fun q => vs.any (fun v => v.toInt == q.1)) = true → Op.lookupswitch.offset ps dflt x.toInt = dflt
  | [], _, _, _ => by rfl
  | (a, o) :: r, vs, h, hc => by
    rw [List.all_cons, Bool.and_eq_true] at hc
    obtain ⟨v, hv, h5⟩ := List.any_eq_true.mp hc.1
    have h6 : v.toInt = a := by simpa using h5
    rw [lv_osw (h v hv) h6]
    exact kLk r vs h hc.2
theorem k_lkD (X : kCx p R m c cc nL s args own D ty A fr lo) {dflt : Int} {ps : Array (Int × Int)} {len : Nat} {x : Int32} {tgt : Nat} (d : decode cc pc = .ok (.lookupswitch dflt ps, len)) (hp : (ps.toList.zip (ps.toList.drop 1)).all (fun (a, next) => a.1 < next.1) = true) (vs : List Int32) (h : ∀ v ∈ vs, ¬ x = v) (hc : ps.toList.all (fun q => vs.any (fun v => v.toInt == q.1)) = true) (ht : (pc : Int) + dflt = (tgt : Int)) (g : kG p l e R s m args below meth c D A nL Q cells slots ws lv st tgt) : kG p l e R s m args below meth c D A nL Q cells slots ws lv (.int x :: st) pc := k_lookup X d hp (kLk _ vs h hc) ht g
theorem k_lkI (X : kCx p R m c cc nL s args own D ty A fr lo) {dflt : Int} {ps : Array (Int × Int)} {len : Nat} {x v : Int32} {off : Int} {tgt : Nat} (d : decode cc pc = .ok (.lookupswitch dflt ps, len)) (hp : (ps.toList.zip (ps.toList.drop 1)).all (fun (a, next) => a.1 < next.1) = true) (hx : x = v) (ho : Op.lookupswitch.offset ps.toList dflt v.toInt = off) (ht : (pc : Int) + off = (tgt : Int)) (g : kG p l e R s m args below meth c D A nL Q cells slots ws lv st tgt) : kG p l e R s m args below meth c D A nL Q cells slots ws lv (.int x :: st) pc := by
  subst hx; exact k_lookup X d hp ho ht g
end KR
/-- a contract out of a walk -/
theorem kM.of {l : Launch} {y : MethodName} {bb : ByteArray} {n : Nat} {ret : Option FieldType} {fr lo mc ms : Nat} {D : va_G} {ty : List (ClassId × FieldType)} {av : List Value} {w0 : va_W} {r : Option Value} {w1 : va_W} (hy : plainName y.cls = true) (hn : Nat.ble (lg_sl av).length n = true)
    (body : ∀ (p : Program) (e : Env) (R : Room) (s : State) (m : MethodId) (args : Array Value) (below : List Frame) (meth : Method) (c : Code) (A : Nat → Prop), kCx p R m c bb n s args y.cls D ty A fr lo → R.cells = mc → R.slots = ms → meth.sig.returnType = ret → meth.locks = false →
      kG p l e R s m args below meth c D A n (MQ below (kQ D r w1 A) args s mc ms A) 0 0 w0 (lv_args 0 av) [] 0) : kM l y bb n ret fr lo mc ms D ty av w0 r w1 := by
  intro sz
  refine Met.ofW (cc := bb) (maxL := n) (ret := ret) hy rfl ?_
  intro p e s m args below meth c s₁ B hml hv
  obtain ⟨rfl, hsz, hP, hE, hD0⟩ := hv
  have hts := atoms_spec (ws := kW y bb n ret) B.pre
  have hown : s.vm.findClass y.cls = some m.cls := findClass_of_methodNamed B.named
  subst hsz
  have hD := hD0.self (sz := s.heap.size)
  have hl := lv_entry av (n := n) (Nat.le_of_ble_eq_true hn)
  rw [lg_entry_eq]
  exact body p e _ s m _ below meth c (va_A w0 s.heap.size) ⟨⟨B.exec, B.bytes, hml, hown, fun w hw => hts w (List.mem_cons_of_mem _ hw)⟩, hE, fun q h => Or.inr h, rfl, rfl⟩ rfl rfl B.returns B.notSynchronized _ _ _ hP hD va_S.rf hl
