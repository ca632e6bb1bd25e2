/-! ===== further rules: long arrays, a throwing call that is caught here, static calls of methods with a table ===== -/
theorem kCx.sub {p : Program} {R : Room} {m : MethodId} {c : Code} {cc : ByteArray} {nL : Nat} {s : State} {args : Array Value} {own : String} {D : va_G} {t1 t2 t3 : ClassId × FieldType} {A : Nat → Prop} {fr lo : Nat} (X : kCx p R m c cc nL s args own D [t1, t2, t3] A fr lo) : kCx p R m c cc nL s args own D [t1, t2] A fr lo := ⟨X.1, ⟨X.2.1.1.sub [0, 1] rfl, X.2.1.2⟩, X.2.2⟩
section KRC
variable {p : Program} {l : Launch} {e : Env} {R : Room} {s : State} {m : MethodId} {args : Array Value} {below : List Frame} {meth : Method} {c : Code} {T : State} {H : Heap} {locs : List Loc} {cells slots : Nat}
theorem kx_callSW (X : Stand p l e R s m args below meth c T locs cells slots) (hexec : p.tables.exec = Jvm.exec) {own : String} {index : Nat} {y : MethodName} {bytes : ByteArray} {maxL : Nat} {ret : Option FieldType} {hh : List (Nat × Nat × Nat × Nat)}
    (hown : s.vm.findClass own = some m.cls) (hlink : (Cond.methodLink own index y).before args s = true) (hstat : (Cond.static y).before args s = true) (hinit : (Cond.initialized y.cls).before args s = true)
    (hcode : (Cond.codeWith y bytes maxL ret hh).before args s = true) (hy : y.cls ≠ "java/lang/invoke/MethodHandle" ∧ y.cls ≠ "java/lang/invoke/VarHandle")
    {W9 : Nat} {Pre : Pt → Array Value → Prop} {Post : Pt → Array Value → Option Value → Pt → Prop} (hK : Back l R p e below s args y 3 W9 Pre Post)
    {g : JFrame} (hg : g.method = m) (hsize : g.locals.size = c.maxLocals) {argsL rest : List Value} (hlen : ∀ sig, parseMethodDescriptor y.desc = some sig → argsL.length = sig.parameters.length)
    (hstack : g.stack = argsL.reverse ++ rest) (hW : 2 * g.monitorRoom + (rest.map fun v => v.category).sum ≤ W9) (hdg : decode c.code g.pc = .ok (.invokestatic index, 3))
    (hpre : ∀ vm₁, s.WarmedH vm₁ → Pre ⟨T.setVm vm₁, locs, cells, slots⟩ argsL.toArray) :
    ∃ (v : Option Value) (vm₁ : Vm) (B : Pt), s.WarmedH vm₁ ∧ Stand p l e R s m args below meth c B.U B.locs B.cells B.slots ∧ Post ⟨T.setVm vm₁, locs, cells, slots⟩ argsL.toArray v B ∧
      ∀ target, Steps p.tables e below (B.U.setTop { g with pc := g.pc + 3, stack := v.toList ++ rest }) target → Steps p.tables e below (T.setTop g) target := by
  obtain ⟨mk, methM, cM, hnamed, hmethM, -, -, -, -, -, -, hsigM⟩ := Cond.codeWith_spec hcode
  have hstatic : methM.isStatic = true := Cond.static_spec hnamed hmethM hstat
  obtain ⟨kP, hkP, -⟩ := className_of_methodNamed hnamed
  have hinitP : kP.init = .initialized := Cond.initialized_spec (findClass_of_methodNamed hnamed) hkP hinit
  obtain ⟨vm₁, X₁, hstep₁⟩ := X.invokestatic hexec hown hlink hnamed hmethM hstatic hkP hinitP hy (g := g) hg (argsL := argsL) (rest := rest) (hlen _ hsigM) hstack hdg
  obtain ⟨v, B, X', hpost, hsteps⟩ := hK m meth c ⟨T.setVm vm₁, locs, cells, slots⟩ { g with stack := rest } (.invokestatic index) mk argsL.toArray X₁ hg hsize hdg hW (X₁.named hnamed) (hpre vm₁ X₁.warmed)
  exact ⟨v, vm₁, B, X₁.warmed, X', hpost, fun target h => hstep₁ _ fun acts => by rw [doInvoke_state]; exact hsteps.trans h⟩
end KRC
abbrev kWW (y : MethodName) (b : ByteArray) (n : Nat) (r : Option FieldType) (hh : List (Nat × Nat × Nat × Nat)) : List Cond := Cond.codeWith y b n r hh :: wsL_law0
def kPw (av : List Value) (D : va_G) (ty : List (ClassId × FieldType)) (w0 : va_W) (sz : Nat) : Array Value → State → Prop :=
  va_Pc av (fun U => U.heap.size = sz ∧ va_P D vwCl w0 U.heap ∧ kEn D ty (va_A w0 sz) U U.heap ∧ va_D (fun _ => True) w0 ∧ kEx (va_A w0 sz) U U.heap)
theorem kPw.blind (av : List Value) (D : va_G) (ty : List (ClassId × FieldType)) (w0 : va_W) (sz : Nat) : FrameBlind (kPw av D ty w0 sz) := fun a U g mk q => by
  obtain ⟨q0, q1, q2, q3, q4, q5⟩ := q
  exact ⟨q0, q1, q2, ⟨va_K.moved (u := U) (U := U.calling g mk a) (Vm.Alike.refl U.vm) q3.1, q3.2.1.same rfl, q3.2.2.to (fun _ _ _ => rfl) (fun _ h => h) (Vm.Alike.refl U.vm)⟩, q4, q5.to (fun _ _ _ => rfl) (fun _ h => h) (State.WarmedH.refl U)⟩
/-- a CONTRACT of a method with an exception table -/
def kMW (l : Launch) (y : MethodName) (b : ByteArray) (n : Nat) (ret : Option FieldType) (hh : List (Nat × Nat × Nat × Nat)) (fr lo : Nat) (mc ms : Nat) (D : va_G) (ty : List (ClassId × FieldType)) (av : List Value) (w0 : va_W) (r : Option Value) (w1 : va_W) : Prop :=
  ∀ sz : Nat, Met l y (kWW y b n ret hh) ({ frames := fr, cells := mc, slots := ms, locals := lo }) (kPw av D ty w0 sz) (kQ D r w1 (va_A w0 sz)) mc ms (va_A w0 sz)
theorem kMW.of {l : Launch} {y : MethodName} {bb : ByteArray} {n : Nat} {ret : Option FieldType} {hh : List (Nat × Nat × Nat × Nat)} {fr lo mc ms : Nat} {D : va_G} {ty : List (ClassId × FieldType)} {av : List Value} {w0 : va_W} {r : Option Value} {w1 : va_W} (hy : plainName y.cls = true) (hn : Nat.ble (lg_sl av).length n = true)
    (body : ∀ (p : Program) (e : Env) (R : Room) (s : State) (m : MethodId) (args : Array Value) (below : List Frame) (meth : Method) (c : Code) (A : Nat → Prop), kCx p R m c bb n s args y.cls D ty A fr lo → kEx A s s.heap → c.exceptionTable.toList = tableOf hh → R.cells = mc → R.slots = ms → meth.sig.returnType = ret → meth.locks = false →
      kG p l e R s m args below meth c D A n (MQ below (kQ D r w1 A) args s mc ms A) 0 0 w0 (lv_args 0 av) [] 0) : kMW l y bb n ret hh fr lo mc ms D ty av w0 r w1 := by
  intro sz
  refine va_MetW (cc := bb) (maxL := n) (ret := ret) (hh := hh) hy rfl ?_
  intro p e s m args below meth c s₁ B hml hv
  obtain ⟨rfl, hsz, hP, hE, hD0, hEx⟩ := hv
  have hts := atoms_spec (ws := kWW y bb n ret hh) B.pre
  have hown : s.vm.findClass y.cls = some m.cls := findClass_of_methodNamed B.named
  subst hsz
  have hD := hD0.self (sz := s.heap.size)
  have hl := lv_entry av (n := n) (Nat.le_of_ble_eq_true hn)
  rw [lg_entry_eq]
  exact body p e _ s m _ below meth c (va_A w0 s.heap.size) ⟨⟨B.exec, B.bytes, hml, hown, fun w hw => hts w (List.mem_cons_of_mem _ hw)⟩, hE, fun q h => Or.inr h, rfl, rfl⟩ hEx (vx_table (x := y) B (hts _ List.mem_cons_self)) rfl rfl B.returns B.notSynchronized _ _ _ hP hD va_S.rf hl
def kSw (y : MethodName) (b : ByteArray) (n : Nat) (r : Option FieldType) (hh : List (Nat × Nat × Nat × Nat)) (np : Nat) : Prop :=
  Cond.codeWith y b n r hh ∈ wsL_law0 ∧ Cond.initialized y.cls ∈ wsL_law0 ∧ Cond.static y ∈ wsL_law0 ∧ (y.cls ≠ "java/lang/invoke/MethodHandle" ∧ y.cls ≠ "java/lang/invoke/VarHandle") ∧ (parseMethodDescriptor y.desc).map (fun d => d.parameters.length) = some np
theorem kWW_good {y : MethodName} {b : ByteArray} {n : Nat} {r : Option FieldType} {hh : List (Nat × Nat × Nat × Nat)} (h : Cond.codeWith y b n r hh ∈ wsL_law0) : GoodIn wsL_law0 (kWW y b n r hh) := fun w hw => by
  rcases List.mem_cons.mp hw with e | hw
  · subst e; exact ⟨h, good_of_word (kW_mem h)⟩
  · exact ⟨hw, good_of_word (kW_mem hw)⟩
section KRX
variable {p : Program} {l : Launch} {e : Env} {R : Room} {s : State} {m : MethodId} {args : Array Value} {below : List Frame} {meth : Method} {c : Code} {cc : ByteArray} {nL : Nat} {own : String} {D : va_G} {ty : List (ClassId × FieldType)} {A : Nat → Prop} {Q : State → Prop} {cells slots fr lo : Nat}
variable {ws : va_W} {lv : List (Nat × Value)} {st : List Value} {pc pc' : Nat}
theorem k_wid {c1 s1 : Nat} (h1 : cells ≤ c1) (h2 : slots ≤ s1) (g : kG p l e R s m args below meth c D A nL Q c1 s1 ws lv st pc) : kG p l e R s m args below meth c D A nL Q cells slots ws lv st pc := by
  intro H locs ls hP hD hS hl; exact W.widen h1 h2 (g H locs ls hP hD hS hl)
theorem k_astore_n (X : kCx p R m c cc nL s args own D ty A fr lo) {k : Fin 4} {i : Nat} {x : Nat} {lv' : List (Nat × Value)} (d : decode cc pc = .ok (.astore_n k, 1)) (hi : (k : Nat) = i) (hn : Nat.ble (i + 1) nL = true) (h : (i, Value.ref x) :: lv.filter (fun q => !(q.1 == i) && !(q.1 + 1 == i && q.2.category == 2)) = lv') (hp : pc + 1 = pc') (g : kG p l e R s m args below meth c D A nL Q cells slots ws lv' st pc') : kG p l e R s m args below meth c D A nL Q cells slots ws lv (.ref x :: st) pc := by
  subst hp; intro H locs ls hP hD hS hl; exact lv_astore_n X.1.1 X.1.2.1 d hi hl (Nat.le_of_ble_eq_true hn) h (fun ls' hl' => g H locs ls' hP hD hS hl')
theorem k_last (X : kCx p R m c cc nL s args own D ty A fr lo) (q0 t0 : Nat) {a : Nat} {cA : ClassId} {n : Nat} {f : Nat → Int64} {i : Int32} {x : Int64} {ws' : va_W} (ha : ws[q0]? = some (a, .inl (cA, n, .inr (.inl f)))) (ht : ty[t0]? = some (cA, .long)) (hin : vp_in i n) (hw : ws.set q0 (a, .inl (cA, n, .inr (.inl (vp_updL f i.toNatClampNeg x)))) = ws') (d : decode cc pc = .ok (.lastore, 1)) (hp : pc + 1 = pc') (g : kG p l e R s m args below meth c D A nL Q cells slots ws' lv st pc') : kG p l e R s m args below meth c D A nL Q cells slots ws lv (.long x :: .int i :: .ref a :: st) pc := by
  subst hp; subst hw; intro H locs ls hP hD hS hl; exact va_last X.1.1 X.1.2.1 X.2.1.1 hP hD hS q0 t0 ha ht hin d (fun H' locs' hP' hD' hS' => g H' locs' ls hP' hD' hS' hl)
theorem k_lald (X : kCx p R m c cc nL s args own D ty A fr lo) (q0 t0 : Nat) {a : Nat} {cA : ClassId} {n : Nat} {f : Nat → Int64} {i : Int32} (ha : ws[q0]? = some (a, .inl (cA, n, .inr (.inl f)))) (ht : ty[t0]? = some (cA, .long)) (hin : vp_in i n) (d : decode cc pc = .ok (.laload, 1)) (hp : pc + 1 = pc') (g : kG p l e R s m args below meth c D A nL Q cells slots ws lv (.long (f i.toNatClampNeg) :: st) pc') : kG p l e R s m args below meth c D A nL Q cells slots ws lv (.int i :: .ref a :: st) pc := by
  subst hp; intro H locs ls hP hD hS hl; exact va_lald X.1.1 X.1.2.1 X.2.1.1 hP q0 t0 ha ht hin d (g H locs ls hP hD hS hl)
theorem k_newj (X : kCx p R m c cc nL s args own D ty A fr lo) (t0 : Nat) {kI : ClassId} {n : Int32} {N : Nat} (ht : ty[t0]? = some (kI, .long)) (hn : n = nI N) (hN : Nat.ble N 100000 = true) (hcells : cells + 1 ≤ R.cells) (hslots : slots + N ≤ R.slots) (d : decode cc pc = .ok (.newarray .long, 2)) (hp : pc + 2 = pc') (g : ∀ q : Nat, kG p l e R s m args below meth c D A nL Q (cells + 1) (slots + N) (ws ++ [(q, .inl (kI, N, .inr (.inl (fun _ => 0))))]) lv (.ref q :: st) pc') : kG p l e R s m args below meth c D A nL Q cells slots ws lv (.int n :: st) pc := by
  subst hp; intro H locs ls hP hD hS hl
  have hN' := Nat.le_of_ble_eq_true hN
  refine va_newa (atype := .long) X.1.1 X.1.2.1 (X.1.2.2.2.2 _ q1_6) (ty := .long) rfl X.2.1.1 hP hD hS X.2.2.1 (N' := N) (a0 := (N, .inr (.inl (fun _ => 0)))) (fun cA => rfl) (by rw [hn]; exact nI_pos (by omega)) (by rw [hn]; exact nI_clamp (by omega)) (by show N * 8 ≤ _; omega) hcells hslots d (fun q cA H1 hK hP1 hD1 hS1 => ?_)
  have e1 := (X.2.1.1.2 _ _ ht).2
  have e2 := (hK.2 ty.length (cA, .long) (by rw [List.getElem?_append_right (Nat.le_refl _), Nat.sub_self]; rfl)).2
  have e3 : some cA = some kI := (show s.vm.findClass _ = some cA from e2).symm.trans (show s.vm.findClass _ = some kI from e1)
  cases e3
  exact g q H1 locs ls hP1 hD1 hS1 hl
/-- a call that throws, and the throw is caught here -/
theorem k_cX (X : kCx p R m c cc nL s args own D ty A fr lo) (hEx : kEx A s s.heap) {y : MethodName} {bytes : ByteArray} {maxL np : Nat} {ret : Option FieldType} {fr1 lo1 index : Nat} {b : Nat} {st0 : List Value} (As : List Value) (W9 : Nat) (hM : kMX l y bytes maxL ret fr1 lo1 (.ref b :: As)) (hv : kVi y bytes maxL ret np) (hl : Cond.methodLink own index y ∈ wsL_law0) (d : decode cc pc = .ok (.invokevirtual index, 3)) {T9 : u_T} {N9 ci q9 : Nat} {fs9 : List Value} (hcl : vwCl[ci]? = some (y.cls, T9, N9)) (he : ws[q9]? = some (b, .inr (ci, fs9))) (hst : st0 = As.reverse ++ .ref b :: st) (hnp : As.length = np) (hW : Nat.ble (st.map fun v => v.category).sum W9 = true) (hfr : Nat.ble (fr1 + 1) fr = true) (hlo : Nat.ble (W9 + (maxL + 11) + lo1) lo = true) (hf : cells + 1 ≤ R.cells ∧ slots + 6 ≤ R.slots)
    (x : ExceptionTableEntry) (hsplit : c.exceptionTable.toList = [x]) (hxc : covers x pc = true) (h0 : x.catchType ≠ 0) (hlink : Cond.classLink own x.catchType "java/lang/IndexOutOfBoundsException" ∈ wsL_law0) (hp : x.handlerPc = pc')
    (g : ∀ q : Nat, kG p l e R s m args below meth c D A nL Q (cells + 1) (slots + 6) ws lv [.ref q] pc') : kG p l e R s m args below meth c D A nL Q cells slots ws lv st0 pc := by
  subst hp
  obtain ⟨⟨hx, hb, hml, hown, hts⟩, hE, hA, hRf, hRl⟩ := X
  intro H locs ls hP hD hS hl9 T hT X0
  have hsub : ∀ q : Nat, H.size ≤ q → A q := fun q h => hA q (Nat.le_trans hS.1 h)
  have hK : vx_Back l R p e below s args y 3 W9 (PreOf R 1 6 (kPx (.ref b :: As) H.size)) (PostOf (fun _ _ _ _ => False) 1 6 (fun q => H.size ≤ q)) (vx_Post (kXQ H.size) 1 6 (fun q => H.size ≤ q)) :=
    vx_back (bytes := bytes) (maxL := maxL) (ret := ret) (hM H.size) (kPx.blind _ _) rfl rfl (by rw [hRf]; exact Nat.le_of_ble_eq_true hfr) (by rw [hRl]; exact Nat.le_of_ble_eq_true hlo) (pay_in hts (kW_good (y0 := y) (b0 := bytes) (n0 := 0) (r0 := none) hv.1)) List.mem_cons_self (fun a' U hW => word_at hW (Or.inl (by first | rfl | simp [Cond.onTables, Cond.keeps, Cond.steady])) (hts _ hv.2.1))
  have hpre : ∀ U : State, U.heap = H → s.WarmedH U.vm → kPx (.ref b :: As) H.size (Value.ref b :: As).toArray U := fun U hU hW => ⟨rfl, by rw [hU], by rw [hU]; exact hEx.to hS.2.1 hsub hW⟩
  obtain ⟨cellB, hcB, hoB, hclB⟩ := va_recv hE.1 hP hcl he
  rcases vx_callV X0 hx (C := y.cls) (bytes := bytes) (maxL := maxL) (ret := ret) hown (hts _ hl) (hts _ hv.2.2.1) (hts _ hv.2.2.2.1) (hts _ hv.1) hv.2.2.2.2.1 hK (by rw [hT]; exact hcB) hoB hclB (g := F0 m pc ls st0) rfl (hl9.1.trans hml.symm) (argsL := As) (rest := st) (fun sig h => by
      have h2 := hv.2.2.2.2.2
      rw [h] at h2
      exact hnp.trans (Option.some.inj h2).symm) hst (lv_roomW (Nat.le_of_ble_eq_true hW)) (by rw [hb]; exact d)
    (fun vm₁ hW₁ => ⟨hf.1, hf.2, hpre (T.setVm vm₁) hT hW₁⟩) with ⟨v, vm₁, ⟨U', l2, c2, s2⟩, hW₁, X', ⟨g', mk, t, L, e1, e2, hq, h1, hL, h2, h3⟩, st9⟩ | ⟨q, vm₁, ⟨U', l2, c2, s2⟩, hW₁, X', ⟨g', mk, t, L, E, ce, e1, e2, hq, hce, hcv, hclE, h1, hL, h2, h3⟩, st9⟩
  · exact hq.elim
  · dsimp only [Pt.U, Pt.locs, Pt.cells, Pt.slots] at X' e1 e2 h1 h2 h3 st9 hclE
    subst h1; subst h2; subst h3
    obtain ⟨rfl, hz, hk⟩ := hq
    have hz' : H.size ≤ t.heap.size := by have h : (T.setVm vm₁).heap.size ≤ t.heap.size := hz; rw [show (T.setVm vm₁).heap = H from hT] at h; exact h
    have hk' : ∀ q : Nat, q < H.size → t.heap[q]? = H[q]? := fun q h => by
      have h9 : t.heap[q]? = (T.setVm vm₁).heap[q]? := hk q (by show q < (T.setVm vm₁).heap.size; rw [show (T.setVm vm₁).heap = H from hT]; exact h) (Nat.not_le.mpr h)
      rw [show (T.setVm vm₁).heap = H from hT] at h9; exact h9
    have hce' : U'.heap[q]? = some ce := by rw [e1]; exact hce
    have kk := kx_catch (pc := pc) (ls := ls) (rest := st) (name := "java/lang/IndexOutOfBoundsException") hown x hsplit hxc h0 (hts _ hlink) (kx_word (a := #[]) kXm (State.WarmedH.refl s) (hEx.2.2.2.2.2.2 _ kXm)) hce' hcv (vx_cls hW₁ hclE)
      (g q U'.heap (locs ++ L) ls (hP.kept (fun k z hz9 => by rw [e1]; exact hk' z.1 ((hP k z hz9).lt))) hD ⟨Nat.le_trans hS.1 (by rw [e1]; exact hz'), fun z z1 z2 => by
        rw [e1, hk' z (Nat.lt_of_lt_of_le z1 hS.1)]; exact hS.2.1 z z1 z2, fun z hz9 => by
        rcases List.mem_append.mp hz9 with h | h
        · exact hS.2.2 z h
        · exact hsub _ (hL z h)⟩ hl9)
    obtain ⟨t2, a1, b1⟩ := kk U' rfl X'
    exact ⟨t2, st9.trans a1, b1⟩
theorem k_callSW (X : kCx p R m c cc nL s args own D ty A fr lo) (hEx : kEx A s s.heap) {y : MethodName} {bytes : ByteArray} {maxL np : Nat} {ret : Option FieldType} {hh : List (Nat × Nat × Nat × Nat)} {fr1 lo1 W9 index mc ms : Nat} {As : List Value} {wc wr w1 ws' : va_W} {rv : Option Value} {st0 : List Value} (hM : kMW l y bytes maxL ret hh fr1 lo1 mc ms D ty As wc rv w1) (hv : kSw y bytes maxL ret hh np) (hl : Cond.methodLink own index y ∈ wsL_law0) (hnp : As.length = np) (hst : st0 = As.reverse ++ st) (hW : Nat.ble (st.map fun v => v.category).sum W9 = true) (hfr : Nat.ble (fr1 + 1) fr = true) (hlo : Nat.ble (W9 + (maxL + 11) + lo1) lo = true) (hf : cells + mc ≤ R.cells ∧ slots + ms ≤ R.slots) (d : decode cc pc = .ok (.invokestatic index, 3)) (isC isR pm : List Nat) (hC : isC.map (fun i => ws[i]?) = wc.map some) (hR : isR.map (fun i => ws[i]?) = wr.map some) (hn : va_nd isR = true) (hdis : isR.all (fun i => !(isC.contains i)) = true) (hpn : va_nd pm = true) (hpm : pm.map (fun i => (wr ++ w1)[i]?) = ws'.map some) (hin9 : va_nd isC = true) (g : kG p l e R s m args below meth c D A nL Q (cells + mc) (slots + ms) ws' lv (rv.toList ++ st) (pc + 3)) : kG p l e R s m args below meth c D A nL Q cells slots ws lv st0 pc := by
  obtain ⟨⟨hx, hb, hml, hown, hts⟩, hE, hA, hRf, hRl⟩ := X
  refine kCont (a := As.toArray) (wc := wc) (wr := wr) (w1 := w1) (st := st) hA isC isR pm hC hR hn hdis hpn hpm (fun H locs ls hP hD hS hl9 => ?_) g
  have hPc := hP.sub isC (kPick hC)
  have hDc : va_D A wc := hD.sub isC hin9 hC
  have hK : Back l R p e below s args y 3 W9 (PreOf R mc ms (kPw As D ty wc H.size)) (PostOf (kQ D rv w1 (va_A wc H.size)) mc ms (va_A wc H.size)) :=
    va_backW (hh := hh) (bytes := bytes) (maxL := maxL) (ret := ret) (hM H.size) (kPw.blind _ _ _ _ _) rfl rfl (by rw [hRf]; exact Nat.le_of_ble_eq_true hfr) (by rw [hRl]; exact Nat.le_of_ble_eq_true hlo) (pay_in hts (kWW_good hv.1)) List.mem_cons_self (fun a' U hW => word_at hW (Or.inl (by first | rfl | simp [Cond.onTables, Cond.keeps, Cond.steady])) (hts _ hv.2.1))
  have hpre : ∀ U : State, U.heap = H → s.WarmedH U.vm → kPw As D ty wc H.size As.toArray U := fun U hU hW => ⟨rfl, by rw [hU], by rw [hU]; exact hPc, ⟨va_K.moved hW.alike hE.1, hE.2.1.warm hW, by rw [hU]; exact hE.2.2.to hS.2.1 (va_free hD hS hA isC hC) hW.alike⟩, hDc.weaken (fun _ _ _ _ => trivial), by rw [hU]; exact hEx.to hS.2.1 (va_free hD hS hA isC hC) hW⟩
  intro T hT X0
  obtain ⟨v, vm₁, ⟨U', l2, c2, s2⟩, hW₁, X', ⟨g', mk, t, L, e1, e2, hq, h1, hL, h2, h3⟩, st⟩ := kx_callSW X0 hx (hh := hh) (bytes := bytes) (maxL := maxL) (ret := ret) hown (hts _ hl) (hts _ hv.2.2.1) (hts _ hv.2.1) (hts _ hv.1) hv.2.2.2.1 hK rfl (hl9.1.trans hml.symm) (argsL := As) (rest := st) (fun sig h => by
      have h2 := hv.2.2.2.2
      rw [h] at h2
      exact hnp.trans (Option.some.inj h2).symm) hst (lv_roomW (Nat.le_of_ble_eq_true hW)) (by rw [hb]; exact d)
    (fun vm₁ hW₁ => ⟨hf.1, hf.2, hpre (T.setVm vm₁) hT hW₁⟩)
  dsimp only [Pt.U, Pt.locs, Pt.cells, Pt.slots] at X' e1 e2 h1 h2 h3 st
  subst h1; subst h2; subst h3
  exact ⟨v, (T.setVm vm₁).calling g' mk As.toArray, t, U', L, hT, X', hL, e1, e2, hq, st⟩
/-- an array's contents beyond its length don't matter -/
theorem k_arr (q0 : Nat) {a : Nat} {cA : ClassId} {n : Nat} {f h : Nat → Int32} {ws' : va_W} (ha : ws[q0]? = some (a, .inl (cA, n, .inl f))) (hf : ∀ k, k < n → f k = h k) (hw : ws.set q0 (a, .inl (cA, n, .inl h)) = ws') (g : kG p l e R s m args below meth c D A nL Q cells slots ws' lv st pc) : kG p l e R s m args below meth c D A nL Q cells slots ws lv st pc := by
  subst hw
  intro H locs ls hP hD hS hl
  refine g H locs ls (hP.set hD ha ?_ (fun q _ => rfl)) (hD.set ha) hS hl
  have h1 := hP q0 _ ha
  show H[a]? = some (vp_cell _ _)
  have h2 : H[a]? = some (vp_cell cA (n, .inl f)) := h1
  rw [h2]
  congr 1
  show arrV cA n (fun j => .int (f j)) = arrV cA n (fun j => .int (h j))
  unfold arrV
  congr 1
  refine Array.ext_getElem? (fun i => ?_)
  simp only [Array.getElem?_ofFn]
  by_cases hi : i < n
  · rw [dif_pos hi, dif_pos hi, hf i hi]
  · rw [dif_neg hi, dif_neg hi]
end KRX
