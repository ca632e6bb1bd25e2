/-! ===== the seven methods of the class that throw: out of range ===== -/
def kXc : String := "java/lang/IndexOutOfBoundsException"
def kXw : List Cond := vx_atS RX10 92 "java/lang/IndexOutOfBoundsException" ["java/lang/RuntimeException", "java/lang/Exception"]
/-- what a throw wants of the world -/
def kEx (A : Nat → Prop) (U : State) (H : Heap) : Prop := vx_Zq Bundle.tN "UNASSIGNED_STACK" Bundle.steD A U H ∧ vx_Zq Bundle.tN "SUPPRESSED_SENTINEL" Bundle.listD A U H ∧
  (∃ a, vk_R RX10 90 "no such x register" a U) ∧ (∃ a, vk_R RX10 103 "no such word of the v registers" a U) ∧ (∃ a, vk_R RX10 109 "no such word of the memory" a U) ∧ (∃ a, vk_R RX10 114 "no such page" a U) ∧ ∀ w ∈ kXw, w.before #[] U = true
def kXi : Cond → Bool
  | .castable _ _ => true
  | .declares _ => true
  | _ => false
theorem kXi_is {w : Cond} (h : kXi w = true) : (∃ C T, w = .castable C T) ∨ ∃ x, w = .declares x := by
  cases w <;> first | exact Or.inl ⟨_, _, rfl⟩ | exact Or.inr ⟨_, rfl⟩ | (simp [kXi] at h)
theorem kXg : ∀ w ∈ kXw, goodWord w = true ∨ kXi w = true := by decide +kernel
theorem kXo : ∀ w ∈ Cond.classLink RX10 88 "java/lang/IndexOutOfBoundsException" :: Cond.initialized "java/lang/IndexOutOfBoundsException" :: vx_atS RX10 92 "java/lang/IndexOutOfBoundsException" ["java/lang/RuntimeException", "java/lang/Exception"], vx_ot w = true := by decide +kernel
theorem kXm : Cond.castable "java/lang/IndexOutOfBoundsException" "java/lang/IndexOutOfBoundsException" ∈ kXw := by decide +kernel
theorem kx_word {a a' : Array Value} {s U : State} {w : Cond} (hw : w ∈ kXw) (hW : s.WarmedH U.vm) (h : w.before a s = true) : w.before a' U = true := by
  rcases kXg w hw with g | g
  · exact word_at hW (good_of_word g) h
  · rcases kXi_is g with ⟨C, T, rfl⟩ | ⟨x, rfl⟩
    · exact va_Nw.use rfl (va_Nw.warmC hW (va_Nw.of rfl h))
    · exact va_Nw.use rfl (va_Nw.warmD hW (va_Nw.of rfl h))
theorem kEx.to {A B : Nat → Prop} {u U : State} {H H1 : Heap} (h : kEx A u H) (hq : ∀ a : Nat, a < H.size → ¬ A a → H1[a]? = H[a]?) (hAB : ∀ q, B q → A q) (hW : u.WarmedH U.vm) : kEx B U H1 := by
  obtain ⟨h1, h2, ⟨a3, h3⟩, ⟨a4, h4⟩, ⟨a5, h5⟩, ⟨a6, h6⟩, h7⟩ := h
  exact ⟨((h1.kept hq).narrow hAB).moved hW.alike, ((h2.kept hq).narrow hAB).moved hW.alike, ⟨a3, h3.warm hW⟩, ⟨a4, h4.warm hW⟩, ⟨a5, h5.warm hW⟩, ⟨a6, h6.warm hW⟩, fun w hw => kx_word hw hW (h7 w hw)⟩
def kXQ (sz : Nat) : String → State → State → Prop := fun E st t => E = "java/lang/IndexOutOfBoundsException" ∧ va_F (fun q => sz ≤ q) st t
def kPx (av : List Value) (sz : Nat) : Array Value → State → Prop := va_Pc av (fun U => U.heap.size = sz ∧ kEx (fun q => sz ≤ q) U U.heap)
theorem kPx.blind (av : List Value) (sz : Nat) : FrameBlind (kPx av sz) := fun a U g mk q => by
  obtain ⟨q0, q1, q2⟩ := q
  exact ⟨q0, q1, q2.to (fun _ _ _ => rfl) (fun _ h => h) (State.WarmedH.refl U)⟩
/-- a CONTRACT: the method throws -/
def kMX (l : Launch) (y : MethodName) (b : ByteArray) (n : Nat) (ret : Option FieldType) (fr lo : Nat) (av : List Value) : Prop :=
  ∀ sz : Nat, vx_Met l y (kW y b n ret) ({ frames := fr, cells := 1, slots := 6, locals := lo }) (kPx av sz) (fun _ _ _ _ => False) (kXQ sz) 1 6 (fun q => sz ≤ q)
section KXB
variable {p : Program} {l : Launch} {e : Env} {R : Room} {s : State} {m : MethodId} {args : Array Value} {below : List Frame} {meth : Method} {c : Code} {cc : ByteArray} {pc : Nat} {ls : Array Slot}
theorem kx_tail (hx : p.tables.exec = Jvm.exec) (hb : c.code = cc) (hl9 : l.stackTraces = false) (hown : s.vm.findClass RX10 = some m.cls) (hts : ∀ w ∈ wsL_law0, w.before args s = true) (hE : kEx (fun q => s.heap.size ≤ q) s s.heap) {is sa : Nat} {tx : String} (hstr : vk_R RX10 is tx sa s) (hml : ls.size = c.maxLocals) (ht : ∀ x ∈ c.exceptionTable.toList, False) (hlk : meth.locks = false)
    (d0 : decode cc pc = .ok (.new 88, 3)) (d3 : decode cc (pc + 3) = .ok (.dup, 1)) (d4 : decode cc (pc + 4) = .ok (.ldc is, 2)) (d6 : decode cc (pc + 6) = .ok (.invokespecial 92, 3)) (d9 : decode cc (pc + 9) = .ok (.athrow, 1))
    (hRf : R.frames = 6) (hRl : R.locals = 82) (hRc : R.cells = 1) (hRs : R.slots = 6) :
    W p l e R s m args below meth c s.heap [] 0 0 (vx_MQ below (fun _ _ _ _ => False) (kXQ s.heap.size) args s 1 6 (fun q => s.heap.size ≤ q)) (F0 m pc ls []) := by
  refine vx_throwS (own := RX10) (cls := "java/lang/IndexOutOfBoundsException") (text := tx) (names := ["java/lang/RuntimeException", "java/lang/Exception"]) (ik := 88) (is := is) (ic := 92) (mc := 1) (ms := 6) (sa := sa) (A := fun q => s.heap.size ≤ q) hx hb hl9 hown (by decide +kernel) (by decide +kernel) (hts _ q40_22) (hts _ q40_23) hstr
    (fun w hw => kx_word (a := #[]) hw (State.WarmedH.refl s) (hE.2.2.2.2.2.2 w hw)) kXo hE.1 hE.2.1 va_S.rf hml d0 d3 d4 d6 d9 (fun x hx => (ht x hx).elim) (by rw [hRf]; decide) (by rw [hRl]; decide) (by rw [hRc]; decide) (by rw [hRs]; decide) hlk (fun t _ h1 h2 => ⟨rfl, h1, fun q hq _ => h2 q hq⟩) (fun z hz => nomatch hz) (Nat.le_refl _) (Nat.le_refl _)
end KXB
theorem kX10_x_out (l : Launch) (hl9 : l.stackTraces = false) (b_q : Nat) (u1 : Int32) (hu : u1 < 0 ∨ ¬ u1 < 32) : kMX l yX10_x cX10_x 2 (some .int) 6 82 [.ref b_q, .int u1] := by
  intro sz
  refine vx_ofW (cc := cX10_x) (maxL := 2) (ret := some .int) (by decide) rfl ?_
  intro p e s m args below meth c s₁ B hml ht hv
  obtain ⟨rfl, hsz, hE⟩ := hv
  subst hsz
  have hts0 := atoms_spec (ws := kW yX10_x cX10_x 2 (some .int)) B.pre
  have hts : ∀ w ∈ wsL_law0, w.before _ s = true := fun w hw => hts0 w (List.mem_cons_of_mem _ hw)
  have hown : s.vm.findClass RX10 = some m.cls := findClass_of_methodNamed B.named
  have hl := lv_entry [.ref b_q, .int u1] (n := 2) (Nat.le_of_ble_eq_true rfl)
  rw [lg_entry_eq]
  generalize (lg_sl [.ref b_q, .int u1] ++ List.replicate (2 - (lg_sl [.ref b_q, .int u1]).length) Slot.unset).toArray = ls at hl ⊢
  obtain ⟨sa, hstr⟩ := hE.2.2.1
  have key := kx_tail (p := p) (e := e) (R := { frames := 6, cells := 1, slots := 6, locals := 82 }) (below := below) (meth := meth) (pc := 10) (ls := ls) B.exec B.bytes hl9 hown hts hE hstr (hl.1.trans hml.symm) ht B.notSynchronized dX10_x_10 dX10_x_13 dX10_x_14 dX10_x_16 dX10_x_19 rfl rfl rfl rfl
  refine lv_iload_n (x := u1) B.exec B.bytes dX10_x_0 rfl (lv_at hl 1 rfl) ?_
  refine lv_if_lt (tgt := 10) B.exec B.bytes dX10_x_1 (by decide) (fun _ => key) (fun c1 => ?_)
  refine lv_iload_n (x := u1) B.exec B.bytes dX10_x_4 rfl (lv_at hl 1 rfl) ?_
  refine lv_bipush (v := 32) B.exec B.bytes dX10_x_5 (by decide) ?_
  refine lv_icmp_lt (tgt := 20) B.exec B.bytes dX10_x_7 (by decide) (fun c2 => ?_) (fun _ => key)
  rcases hu with h | h
  · exact absurd h c1
  · exact absurd c2 h
theorem kX10_setX_out (l : Launch) (hl9 : l.stackTraces = false) (b_q : Nat) (u1 : Int32) (u2 : Int32) (hu : u1 < 0 ∨ ¬ u1 < 32) : kMX l yX10_setX cX10_setX 3 (none) 6 82 [.ref b_q, .int u1, .int u2] := by
  intro sz
  refine vx_ofW (cc := cX10_setX) (maxL := 3) (ret := none) (by decide) rfl ?_
  intro p e s m args below meth c s₁ B hml ht hv
  obtain ⟨rfl, hsz, hE⟩ := hv
  subst hsz
  have hts0 := atoms_spec (ws := kW yX10_setX cX10_setX 3 (none)) B.pre
  have hts : ∀ w ∈ wsL_law0, w.before _ s = true := fun w hw => hts0 w (List.mem_cons_of_mem _ hw)
  have hown : s.vm.findClass RX10 = some m.cls := findClass_of_methodNamed B.named
  have hl := lv_entry [.ref b_q, .int u1, .int u2] (n := 3) (Nat.le_of_ble_eq_true rfl)
  rw [lg_entry_eq]
  generalize (lg_sl [.ref b_q, .int u1, .int u2] ++ List.replicate (3 - (lg_sl [.ref b_q, .int u1, .int u2]).length) Slot.unset).toArray = ls at hl ⊢
  obtain ⟨sa, hstr⟩ := hE.2.2.1
  have key := kx_tail (p := p) (e := e) (R := { frames := 6, cells := 1, slots := 6, locals := 82 }) (below := below) (meth := meth) (pc := 10) (ls := ls) B.exec B.bytes hl9 hown hts hE hstr (hl.1.trans hml.symm) ht B.notSynchronized dX10_setX_10 dX10_setX_13 dX10_setX_14 dX10_setX_16 dX10_setX_19 rfl rfl rfl rfl
  refine lv_iload_n (x := u1) B.exec B.bytes dX10_setX_0 rfl (lv_at hl 1 rfl) ?_
  refine lv_if_lt (tgt := 10) B.exec B.bytes dX10_setX_1 (by decide) (fun _ => key) (fun c1 => ?_)
  refine lv_iload_n (x := u1) B.exec B.bytes dX10_setX_4 rfl (lv_at hl 1 rfl) ?_
  refine lv_bipush (v := 32) B.exec B.bytes dX10_setX_5 (by decide) ?_
  refine lv_icmp_lt (tgt := 20) B.exec B.bytes dX10_setX_7 (by decide) (fun c2 => ?_) (fun _ => key)
  rcases hu with h | h
  · exact absurd h c1
  · exact absurd c2 h
theorem kX10_v_out (l : Launch) (hl9 : l.stackTraces = false) (b_q : Nat) (u1 : Int32) (hu : u1 < 0 ∨ ¬ u1 < 128) : kMX l yX10_v cX10_v 2 (some .int) 6 82 [.ref b_q, .int u1] := by
  intro sz
  refine vx_ofW (cc := cX10_v) (maxL := 2) (ret := some .int) (by decide) rfl ?_
  intro p e s m args below meth c s₁ B hml ht hv
  obtain ⟨rfl, hsz, hE⟩ := hv
  subst hsz
  have hts0 := atoms_spec (ws := kW yX10_v cX10_v 2 (some .int)) B.pre
  have hts : ∀ w ∈ wsL_law0, w.before _ s = true := fun w hw => hts0 w (List.mem_cons_of_mem _ hw)
  have hown : s.vm.findClass RX10 = some m.cls := findClass_of_methodNamed B.named
  have hl := lv_entry [.ref b_q, .int u1] (n := 2) (Nat.le_of_ble_eq_true rfl)
  rw [lg_entry_eq]
  generalize (lg_sl [.ref b_q, .int u1] ++ List.replicate (2 - (lg_sl [.ref b_q, .int u1]).length) Slot.unset).toArray = ls at hl ⊢
  obtain ⟨sa, hstr⟩ := hE.2.2.2.1
  have key := kx_tail (p := p) (e := e) (R := { frames := 6, cells := 1, slots := 6, locals := 82 }) (below := below) (meth := meth) (pc := 11) (ls := ls) B.exec B.bytes hl9 hown hts hE hstr (hl.1.trans hml.symm) ht B.notSynchronized dX10_v_11 dX10_v_14 dX10_v_15 dX10_v_17 dX10_v_20 rfl rfl rfl rfl
  refine lv_iload_n (x := u1) B.exec B.bytes dX10_v_0 rfl (lv_at hl 1 rfl) ?_
  refine lv_if_lt (tgt := 11) B.exec B.bytes dX10_v_1 (by decide) (fun _ => key) (fun c1 => ?_)
  refine lv_iload_n (x := u1) B.exec B.bytes dX10_v_4 rfl (lv_at hl 1 rfl) ?_
  refine lv_sipush (v := 128) B.exec B.bytes dX10_v_5 (by decide) ?_
  refine lv_icmp_lt (tgt := 21) B.exec B.bytes dX10_v_8 (by decide) (fun c2 => ?_) (fun _ => key)
  rcases hu with h | h
  · exact absurd h c1
  · exact absurd c2 h
theorem kX10_setV_out (l : Launch) (hl9 : l.stackTraces = false) (b_q : Nat) (u1 : Int32) (u2 : Int32) (hu : u1 < 0 ∨ ¬ u1 < 128) : kMX l yX10_setV cX10_setV 3 (none) 6 82 [.ref b_q, .int u1, .int u2] := by
  intro sz
  refine vx_ofW (cc := cX10_setV) (maxL := 3) (ret := none) (by decide) rfl ?_
  intro p e s m args below meth c s₁ B hml ht hv
  obtain ⟨rfl, hsz, hE⟩ := hv
  subst hsz
  have hts0 := atoms_spec (ws := kW yX10_setV cX10_setV 3 (none)) B.pre
  have hts : ∀ w ∈ wsL_law0, w.before _ s = true := fun w hw => hts0 w (List.mem_cons_of_mem _ hw)
  have hown : s.vm.findClass RX10 = some m.cls := findClass_of_methodNamed B.named
  have hl := lv_entry [.ref b_q, .int u1, .int u2] (n := 3) (Nat.le_of_ble_eq_true rfl)
  rw [lg_entry_eq]
  generalize (lg_sl [.ref b_q, .int u1, .int u2] ++ List.replicate (3 - (lg_sl [.ref b_q, .int u1, .int u2]).length) Slot.unset).toArray = ls at hl ⊢
  obtain ⟨sa, hstr⟩ := hE.2.2.2.1
  have key := kx_tail (p := p) (e := e) (R := { frames := 6, cells := 1, slots := 6, locals := 82 }) (below := below) (meth := meth) (pc := 11) (ls := ls) B.exec B.bytes hl9 hown hts hE hstr (hl.1.trans hml.symm) ht B.notSynchronized dX10_setV_11 dX10_setV_14 dX10_setV_15 dX10_setV_17 dX10_setV_20 rfl rfl rfl rfl
  refine lv_iload_n (x := u1) B.exec B.bytes dX10_setV_0 rfl (lv_at hl 1 rfl) ?_
  refine lv_if_lt (tgt := 11) B.exec B.bytes dX10_setV_1 (by decide) (fun _ => key) (fun c1 => ?_)
  refine lv_iload_n (x := u1) B.exec B.bytes dX10_setV_4 rfl (lv_at hl 1 rfl) ?_
  refine lv_sipush (v := 128) B.exec B.bytes dX10_setV_5 (by decide) ?_
  refine lv_icmp_lt (tgt := 21) B.exec B.bytes dX10_setV_8 (by decide) (fun c2 => ?_) (fun _ => key)
  rcases hu with h | h
  · exact absurd h c1
  · exact absurd c2 h
theorem kX10_word_out (l : Launch) (hl9 : l.stackTraces = false) (b_q : Nat) (u1 : Int32) (hu : u1 < 0 ∨ ¬ u1 < 256) : kMX l yX10_word cX10_word 2 (some .int) 6 82 [.ref b_q, .int u1] := by
  intro sz
  refine vx_ofW (cc := cX10_word) (maxL := 2) (ret := some .int) (by decide) rfl ?_
  intro p e s m args below meth c s₁ B hml ht hv
  obtain ⟨rfl, hsz, hE⟩ := hv
  subst hsz
  have hts0 := atoms_spec (ws := kW yX10_word cX10_word 2 (some .int)) B.pre
  have hts : ∀ w ∈ wsL_law0, w.before _ s = true := fun w hw => hts0 w (List.mem_cons_of_mem _ hw)
  have hown : s.vm.findClass RX10 = some m.cls := findClass_of_methodNamed B.named
  have hl := lv_entry [.ref b_q, .int u1] (n := 2) (Nat.le_of_ble_eq_true rfl)
  rw [lg_entry_eq]
  generalize (lg_sl [.ref b_q, .int u1] ++ List.replicate (2 - (lg_sl [.ref b_q, .int u1]).length) Slot.unset).toArray = ls at hl ⊢
  obtain ⟨sa, hstr⟩ := hE.2.2.2.2.1
  have key := kx_tail (p := p) (e := e) (R := { frames := 6, cells := 1, slots := 6, locals := 82 }) (below := below) (meth := meth) (pc := 11) (ls := ls) B.exec B.bytes hl9 hown hts hE hstr (hl.1.trans hml.symm) ht B.notSynchronized dX10_word_11 dX10_word_14 dX10_word_15 dX10_word_17 dX10_word_20 rfl rfl rfl rfl
  refine lv_iload_n (x := u1) B.exec B.bytes dX10_word_0 rfl (lv_at hl 1 rfl) ?_
  refine lv_if_lt (tgt := 11) B.exec B.bytes dX10_word_1 (by decide) (fun _ => key) (fun c1 => ?_)
  refine lv_iload_n (x := u1) B.exec B.bytes dX10_word_4 rfl (lv_at hl 1 rfl) ?_
  refine lv_sipush (v := 256) B.exec B.bytes dX10_word_5 (by decide) ?_
  refine lv_icmp_lt (tgt := 21) B.exec B.bytes dX10_word_8 (by decide) (fun c2 => ?_) (fun _ => key)
  rcases hu with h | h
  · exact absurd h c1
  · exact absurd c2 h
theorem kX10_setWord_out (l : Launch) (hl9 : l.stackTraces = false) (b_q : Nat) (u1 : Int32) (u2 : Int32) (hu : u1 < 0 ∨ ¬ u1 < 256) : kMX l yX10_setWord cX10_setWord 3 (none) 6 82 [.ref b_q, .int u1, .int u2] := by
  intro sz
  refine vx_ofW (cc := cX10_setWord) (maxL := 3) (ret := none) (by decide) rfl ?_
  intro p e s m args below meth c s₁ B hml ht hv
  obtain ⟨rfl, hsz, hE⟩ := hv
  subst hsz
  have hts0 := atoms_spec (ws := kW yX10_setWord cX10_setWord 3 (none)) B.pre
  have hts : ∀ w ∈ wsL_law0, w.before _ s = true := fun w hw => hts0 w (List.mem_cons_of_mem _ hw)
  have hown : s.vm.findClass RX10 = some m.cls := findClass_of_methodNamed B.named
  have hl := lv_entry [.ref b_q, .int u1, .int u2] (n := 3) (Nat.le_of_ble_eq_true rfl)
  rw [lg_entry_eq]
  generalize (lg_sl [.ref b_q, .int u1, .int u2] ++ List.replicate (3 - (lg_sl [.ref b_q, .int u1, .int u2]).length) Slot.unset).toArray = ls at hl ⊢
  obtain ⟨sa, hstr⟩ := hE.2.2.2.2.1
  have key := kx_tail (p := p) (e := e) (R := { frames := 6, cells := 1, slots := 6, locals := 82 }) (below := below) (meth := meth) (pc := 11) (ls := ls) B.exec B.bytes hl9 hown hts hE hstr (hl.1.trans hml.symm) ht B.notSynchronized dX10_setWord_11 dX10_setWord_14 dX10_setWord_15 dX10_setWord_17 dX10_setWord_20 rfl rfl rfl rfl
  refine lv_iload_n (x := u1) B.exec B.bytes dX10_setWord_0 rfl (lv_at hl 1 rfl) ?_
  refine lv_if_lt (tgt := 11) B.exec B.bytes dX10_setWord_1 (by decide) (fun _ => key) (fun c1 => ?_)
  refine lv_iload_n (x := u1) B.exec B.bytes dX10_setWord_4 rfl (lv_at hl 1 rfl) ?_
  refine lv_sipush (v := 256) B.exec B.bytes dX10_setWord_5 (by decide) ?_
  refine lv_icmp_lt (tgt := 21) B.exec B.bytes dX10_setWord_8 (by decide) (fun c2 => ?_) (fun _ => key)
  rcases hu with h | h
  · exact absurd h c1
  · exact absurd c2 h
theorem kX10_shut_out (l : Launch) (hl9 : l.stackTraces = false) (b_q : Nat) (u1 : Int32) (u2 : Int32) (hu : u1 < 0 ∨ ¬ u1 < 16) : kMX l yX10_shut cX10_shut 3 (none) 6 82 [.ref b_q, .int u1, .int u2] := by
  intro sz
  refine vx_ofW (cc := cX10_shut) (maxL := 3) (ret := none) (by decide) rfl ?_
  intro p e s m args below meth c s₁ B hml ht hv
  obtain ⟨rfl, hsz, hE⟩ := hv
  subst hsz
  have hts0 := atoms_spec (ws := kW yX10_shut cX10_shut 3 (none)) B.pre
  have hts : ∀ w ∈ wsL_law0, w.before _ s = true := fun w hw => hts0 w (List.mem_cons_of_mem _ hw)
  have hown : s.vm.findClass RX10 = some m.cls := findClass_of_methodNamed B.named
  have hl := lv_entry [.ref b_q, .int u1, .int u2] (n := 3) (Nat.le_of_ble_eq_true rfl)
  rw [lg_entry_eq]
  generalize (lg_sl [.ref b_q, .int u1, .int u2] ++ List.replicate (3 - (lg_sl [.ref b_q, .int u1, .int u2]).length) Slot.unset).toArray = ls at hl ⊢
  obtain ⟨sa, hstr⟩ := hE.2.2.2.2.2.1
  have key := kx_tail (p := p) (e := e) (R := { frames := 6, cells := 1, slots := 6, locals := 82 }) (below := below) (meth := meth) (pc := 10) (ls := ls) B.exec B.bytes hl9 hown hts hE hstr (hl.1.trans hml.symm) ht B.notSynchronized dX10_shut_10 dX10_shut_13 dX10_shut_14 dX10_shut_16 dX10_shut_19 rfl rfl rfl rfl
  refine lv_iload_n (x := u1) B.exec B.bytes dX10_shut_0 rfl (lv_at hl 1 rfl) ?_
  refine lv_if_lt (tgt := 10) B.exec B.bytes dX10_shut_1 (by decide) (fun _ => key) (fun c1 => ?_)
  refine lv_iload_n (x := u1) B.exec B.bytes dX10_shut_4 rfl (lv_at hl 1 rfl) ?_
  refine lv_bipush (v := 16) B.exec B.bytes dX10_shut_5 (by decide) ?_
  refine lv_icmp_lt (tgt := 20) B.exec B.bytes dX10_shut_7 (by decide) (fun c2 => ?_) (fun _ => key)
  rcases hu with h | h
  · exact absurd h c1
  · exact absurd c2 h
