/-! ===== the walking layer: new cells, and contracts that leave new cells ===== -/
def kQe (D : va_G) (r : Option Value) (Ws : va_W → Prop) (A : Nat → Prop) : Array Value → State → Outcome → State → Prop := fun _ st oc t =>
  oc = .returned r ∧ ∃ w1 : va_W, Ws w1 ∧ va_P D vwCl w1 t.heap ∧ va_D A w1 ∧ va_F A st t
def kMe (l : Launch) (y : MethodName) (b : ByteArray) (n : Nat) (ret : Option FieldType) (fr lo : Nat) (mc ms : Nat) (D : va_G) (ty : List (ClassId × FieldType)) (av : List Value) (w0 : va_W) (r : Option Value) (Ws : va_W → Prop) : Prop :=
  ∀ sz : Nat, Met l y (kW y b n ret) ({ frames := fr, cells := mc, slots := ms, locals := lo }) (kPc av D ty w0 sz) (kQe D r Ws (va_A w0 sz)) mc ms (va_A w0 sz)
theorem kMe.of {l : Launch} {y : MethodName} {bb : ByteArray} {n : Nat} {ret : Option FieldType} {fr lo mc ms : Nat} {D : va_G} {ty : List (ClassId × FieldType)} {av : List Value} {w0 : va_W} {r : Option Value} {Ws : va_W → Prop} (hy : plainName y.cls = true) (hn : Nat.ble (lg_sl av).length n = true)
    (body : ∀ (p : Program) (e : Env) (R : Room) (s : State) (m : MethodId) (args : Array Value) (below : List Frame) (meth : Method) (c : Code) (A : Nat → Prop), kCx p R m c bb n s args y.cls D ty A fr lo → R.cells = mc → R.slots = ms → meth.sig.returnType = ret → meth.locks = false → meth.name = y.name →
      kG p l e R s m args below meth c D A n (MQ below (kQe D r Ws A) args s mc ms A) 0 0 w0 (lv_args 0 av) [] 0) : kMe l y bb n ret fr lo mc ms D ty av w0 r Ws := by
  intro sz
  refine Met.ofW (cc := bb) (maxL := n) (ret := ret) hy rfl ?_
  intro p e s m args below meth c s₁ B hml hv
  obtain ⟨rfl, hsz, hP, hE, hD0⟩ := hv
  have hts := atoms_spec (ws := kW y bb n ret) B.pre
  have hown : s.vm.findClass y.cls = some m.cls := findClass_of_methodNamed B.named
  subst hsz
  have hD := hD0.self (sz := s.heap.size)
  have hl := lv_entry av (n := n) (Nat.le_of_ble_eq_true hn)
  rw [lg_entry_eq]
  exact body p e _ s m _ below meth c (va_A w0 s.heap.size) ⟨⟨B.exec, B.bytes, hml, hown, fun w hw => hts w (List.mem_cons_of_mem _ hw)⟩, hE, fun q h => Or.inr h, rfl, rfl⟩ rfl rfl B.returns B.notSynchronized (name_of_methodNamed B.named B.method).1 _ _ _ hP hD va_S.rf hl
def kIi (y : MethodName) (b : ByteArray) (n np : Nat) : Prop :=
  Cond.code y b n none ∈ wsL_law0 ∧ Cond.initialized y.cls ∈ wsL_law0 ∧ Cond.instanceMethod y ∈ wsL_law0 ∧ (y.cls ≠ "java/lang/invoke/MethodHandle" ∧ y.cls ≠ "java/lang/invoke/VarHandle") ∧ y.name = "<init>" ∧ (parseMethodDescriptor y.desc).map (fun d => d.parameters.length) = some np
section KN
variable {p : Program} {l : Launch} {e : Env} {R : Room} {s : State} {m : MethodId} {args : Array Value} {below : List Frame} {meth : Method} {c : Code} {cc : ByteArray} {nL : Nat} {own : String} {D : va_G} {ty : List (ClassId × FieldType)} {A : Nat → Prop} {Q : State → Prop} {cells slots fr lo : Nat}
variable {ws : va_W} {lv : List (Nat × Value)} {st : List Value} {pc pc' : Nat}
theorem k_objInit (X : kCx p R m c cc nL s args own D ty A fr lo) {a : Nat} {index : Nat} (hl : Cond.methodLink own index objectInit ∈ wsL_law0) (hfr : Nat.ble 1 fr = true) (hlo : Nat.ble ((st.map fun v => v.category).sum + 12) lo = true) (d : decode cc pc = .ok (.invokespecial index, 3)) (hp : pc + 3 = pc') (g : kG p l e R s m args below meth c D A nL Q cells slots ws lv st pc') : kG p l e R s m args below meth c D A nL Q cells slots ws lv (.ref a :: st) pc := by
  subst hp; intro H locs ls hP hD hS h1
  refine W.objInit X.1.1 X.1.2.1 X.1.2.2.2.1 (X.1.2.2.2.2 _ hl) (X.1.2.2.2.2 _ q1_12) (X.1.2.2.2.2 _ q1_13) rfl (by rw [X.1.2.2.1]; exact h1.1) rfl d (by rw [X.2.2.2.1]; exact Nat.le_of_ble_eq_true hfr) (by rw [X.2.2.2.2]; have := Nat.le_of_ble_eq_true hlo; show 2 * 0 + _ + 12 ≤ lo; omega) ?_
  exact W.eq (g2 := F0 m (pc + 3) ls st) rfl (g H locs ls hP hD hS h1)
theorem k_putF (X : kCx p R m c cc nL s args own D ty A fr lo) {ref C : String} {T : u_T} {N ci index : Nat} (hin : ∀ w ∈ u_ws C T N, w ∈ wsL_law0) (ty0 : Nat → FieldType) (hty : ∀ k, k < N → parseFieldDescriptor (T k).2.2.1 = some (ty0 k)) (hnm : ∀ a, a < N → ∀ b, b < N → a ≠ b → (T a).2.1 ≠ (T b).2.1) {a : Nat} {fs : List Value} {v : Value} {ws' : va_W} (q0 k : Nat) (hlink : Cond.fieldLink own index ref (T k).2.1 (T k).2.2.1 ∈ wsL_law0) (hr : ref = (T k).1) (he : ws[q0]? = some (a, .inr (ci, fs))) (hc : vwCl[ci]? = some (C, T, N)) (hk : Nat.ble (k + 1) N = true) (hfin : (T k).2.2.2 = true) (hin2 : meth.name = "<init>") (hdecl : (T k).1 = own) (hn : narrow (ty0 k) v = v) (hfit : fits (ty0 k) v = true) (hl : Nat.ble (k + 1) fs.length = true) (hw : ws.set q0 (a, .inr (ci, fs.set k v)) = ws') (d : decode cc pc = .ok (.putfield index, 3)) (hp : pc + 3 = pc') (g : kG p l e R s m args below meth c D A nL Q cells slots ws' lv st pc') : kG p l e R s m args below meth c D A nL Q cells slots ws lv (v :: .ref a :: st) pc := by
  subst hp; subst hr; subst hw; intro H locs ls hP hD hS h1
  exact va_putF X.1.1 X.1.2.1 X.1.2.2.2.2 hin ty0 hty hnm X.1.2.2.2.1 X.2.1.1 hP hD hS q0 he hc k (Nat.le_of_ble_eq_true hk) (X.1.2.2.2.2 _ hlink) (fun _ h => h) hfin hin2 hdecl (hty k (Nat.le_of_ble_eq_true hk)) hn hfit (Nat.le_of_ble_eq_true hl) d (fun H' locs' hP' hD' hS' => g H' locs' ls hP' hD' hS' h1)
theorem k_new (X : kCx p R m c cc nL s args own D ty A fr lo) {C : String} {T : u_T} {N ci index : Nat} (hin : ∀ w ∈ u_ws C T N, w ∈ wsL_law0) (ty0 : Nat → FieldType) (hty : ∀ k, k < N → parseFieldDescriptor (T k).2.2.1 = some (ty0 k)) (h1 : Cond.classLink own index C ∈ wsL_law0) (h2 : Cond.instantiable C N ∈ wsL_law0) (h3 : Cond.initialized C ∈ wsL_law0) (hc : vwCl[ci]? = some (C, T, N)) (fs : List Value) (hfs : ∀ j, j < N → defaultValue (ty0 j) = vp_V fs j) (hcells : cells + 1 ≤ R.cells) (hslots : slots + N ≤ R.slots) (d : decode cc pc = .ok (.new index, 3)) (hp : pc + 3 = pc') (g : ∀ q : Nat, kG p l e R s m args below meth c D A nL Q (cells + 1) (slots + N) (ws ++ [(q, .inr (ci, fs))]) lv (.ref q :: st) pc') : kG p l e R s m args below meth c D A nL Q cells slots ws lv st pc := by
  subst hp; intro H locs ls hP hD hS hl
  exact va_new X.1.1 X.1.2.1 X.1.2.2.2.2 hin ty0 hty X.1.2.2.2.1 (X.1.2.2.2.2 _ h1) (X.1.2.2.2.2 _ h2) (X.1.2.2.2.2 _ h3) X.2.1.1 hP hD hS X.2.2.1 hc hfs hcells hslots d (fun q H1 hP1 hD1 hS1 => g q H1 locs ls hP1 hD1 hS1 hl)
theorem k_newi (X : kCx p R m c cc nL s args own D ty A fr lo) (t0 : Nat) {kI : ClassId} {n : Int32} {N : Nat} (ht : ty[t0]? = some (kI, .int)) (hn : n = nI N) (hN : Nat.ble N 100000 = true) (hcells : cells + 1 ≤ R.cells) (hslots : slots + N ≤ R.slots) (d : decode cc pc = .ok (.newarray .int, 2)) (hp : pc + 2 = pc') (g : ∀ q : Nat, kG p l e R s m args below meth c D A nL Q (cells + 1) (slots + N) (ws ++ [(q, .inl (kI, N, .inl (fun _ => 0)))]) lv (.ref q :: st) pc') : kG p l e R s m args below meth c D A nL Q cells slots ws lv (.int n :: st) pc := by
  subst hp; intro H locs ls hP hD hS hl
  have hN' := Nat.le_of_ble_eq_true hN
  refine va_newa (atype := .int) X.1.1 X.1.2.1 (X.1.2.2.2.2 _ q2_18) (ty := .int) rfl X.2.1.1 hP hD hS X.2.2.1 (N' := N) (a0 := (N, .inl (fun _ => 0))) (fun cA => rfl) (by rw [hn]; exact nI_pos (by omega)) (by rw [hn]; exact nI_clamp (by omega)) (by show N * 4 ≤ _; omega) hcells hslots d (fun q cA H1 hK hP1 hD1 hS1 => ?_)
  have e1 := (X.2.1.1.2 _ _ ht).2
  have e2 := (hK.2 ty.length (cA, .int) (by rw [List.getElem?_append_right (Nat.le_refl _), Nat.sub_self]; rfl)).2
  have e3 : some cA = some kI := (show s.vm.findClass _ = some cA from e2).symm.trans (show s.vm.findClass _ = some kI from e1)
  cases e3
  exact g q H1 locs ls hP1 hD1 hS1 hl
theorem k_newz (X : kCx p R m c cc nL s args own D ty A fr lo) (t0 : Nat) {kI : ClassId} {n : Int32} {N : Nat} (ht : ty[t0]? = some (kI, .boolean)) (hn : n = nI N) (hN : Nat.ble N 100000 = true) (hcells : cells + 1 ≤ R.cells) (hslots : slots + N ≤ R.slots) (d : decode cc pc = .ok (.newarray .boolean, 2)) (hp : pc + 2 = pc') (g : ∀ q : Nat, kG p l e R s m args below meth c D A nL Q (cells + 1) (slots + N) (ws ++ [(q, .inl (kI, N, .inl (fun _ => 0)))]) lv (.ref q :: st) pc') : kG p l e R s m args below meth c D A nL Q cells slots ws lv (.int n :: st) pc := by
  subst hp; intro H locs ls hP hD hS hl
  have hN' := Nat.le_of_ble_eq_true hN
  refine va_newa (atype := .boolean) X.1.1 X.1.2.1 (X.1.2.2.2.2 _ q5_21) (ty := .boolean) rfl X.2.1.1 hP hD hS X.2.2.1 (N' := N) (a0 := (N, .inl (fun _ => 0))) (fun cA => rfl) (by rw [hn]; exact nI_pos (by omega)) (by rw [hn]; exact nI_clamp (by omega)) (by show N * 1 ≤ _; omega) hcells hslots d (fun q cA H1 hK hP1 hD1 hS1 => ?_)
  have e1 := (X.2.1.1.2 _ _ ht).2
  have e2 := (hK.2 ty.length (cA, .boolean) (by rw [List.getElem?_append_right (Nat.le_refl _), Nat.sub_self]; rfl)).2
  have e3 : some cA = some kI := (show s.vm.findClass _ = some cA from e2).symm.trans (show s.vm.findClass _ = some kI from e1)
  cases e3
  exact g q H1 locs ls hP1 hD1 hS1 hl
theorem kContE {wc wr : va_W} {Ws : va_W → Prop} {rv : Option Value} {st0 : List Value} {a : Array Value} {mc ms : Nat} (hA : ∀ q : Nat, s.heap.size ≤ q → A q) (isC isR : List Nat) (hC : isC.map (fun i => ws[i]?) = wc.map some) (hR : isR.map (fun i => ws[i]?) = wr.map some) (hn : va_nd isR = true) (hdis : isR.all (fun i => !(isC.contains i)) = true)
    (hr : ∀ (H : Heap) (locs : List Loc) (ls : Array Slot), va_P D vwCl ws H → va_D A ws → va_S A s.heap H locs → lv_has ls nL lv → va_Run p l e R s m args below meth c H locs cells slots mc ms (F0 m pc ls st0) st (kQe D rv Ws (va_A wc H.size) a) (va_A wc H.size))
    (g : ∀ w1, Ws w1 → ∃ (pm : List Nat) (ws' : va_W), va_nd pm = true ∧ pm.map (fun i => (wr ++ w1)[i]?) = ws'.map some ∧ kG p l e R s m args below meth c D A nL Q (cells + mc) (slots + ms) ws' lv (rv.toList ++ st) (pc + 3)) : kG p l e R s m args below meth c D A nL Q cells slots ws lv st0 pc := by
  intro H locs ls hP hD hS hl T hT X
  obtain ⟨v, st₀, t, T', L, h0, X', hL, e1, e2, ⟨hv, w1, hw1, hP1, hD1, hz, hk⟩, st⟩ := hr H locs ls hP hD hS hl T hT X
  cases hv
  rw [h0] at hz hk
  have hf := va_free hD hS hA isC hC
  have hk' : ∀ q : Nat, q < H.size → ¬ va_A wc H.size q → t.heap[q]? = H[q]? := fun q h1 h2 => hk q h1 h2
  obtain ⟨pm, ws', hpn, hpm, g⟩ := g w1 hw1
  obtain ⟨hP', hD'⟩ := kBack hP hD isC isR pm hC hR hn hdis hk' hf hP1 hD1 hpn hpm
  obtain ⟨t2, a1, b1⟩ := g t.heap (locs ++ L) ls hP' hD' ⟨Nat.le_trans hS.1 hz, fun q h1 h2 => by
      rw [hk q (Nat.lt_of_lt_of_le h1 hS.1) (fun z => h2 (hf q z))]; exact hS.2.1 q h1 h2, fun q hq => by
      rcases List.mem_append.mp hq with h | h
      · exact hS.2.2 q h
      · exact hf _ (hL q h)⟩ hl T' e1 X'
  exact ⟨t2, st t2 a1, b1⟩
theorem k_cI (X : kCx p R m c cc nL s args own D ty A fr lo) {y : MethodName} {bytes : ByteArray} {maxL np : Nat} {fr1 lo1 index mc ms : Nat} {b : Nat} {wc wr : va_W} {Ws : va_W → Prop} {st0 : List Value} (As : List Value) (W9 : Nat) (isC isR : List Nat) (hM : kMe l y bytes maxL none fr1 lo1 mc ms D ty (.ref b :: As) wc none Ws) (hv : kIi y bytes maxL np) (hl : Cond.methodLink own index y ∈ wsL_law0) (d : decode cc pc = .ok (.invokespecial index, 3)) (hst : st0 = As.reverse ++ .ref b :: st) (hnp : As.length = np) (hW : Nat.ble (st.map fun v => v.category).sum W9 = true) (hfr : Nat.ble (fr1 + 1) fr = true) (hlo : Nat.ble (W9 + (maxL + 11) + lo1) lo = true) (hC : isC.map (fun i => ws[i]?) = wc.map some) (hR : isR.map (fun i => ws[i]?) = wr.map some) (hn : va_nd isR = true) (hdis : isR.all (fun i => !(isC.contains i)) = true) (hin9 : va_nd isC = true) (hf : cells + mc ≤ R.cells ∧ slots + ms ≤ R.slots)
    (g : ∀ w1, Ws w1 → ∃ (pm : List Nat) (ws' : va_W), va_nd pm = true ∧ pm.map (fun i => (wr ++ w1)[i]?) = ws'.map some ∧ kG p l e R s m args below meth c D A nL Q (cells + mc) (slots + ms) ws' lv st (pc + 3)) : kG p l e R s m args below meth c D A nL Q cells slots ws lv st0 pc := by
  obtain ⟨⟨hx, hb, hml, hown, hts⟩, hE, hA, hRf, hRl⟩ := X
  refine kContE (a := (Value.ref b :: As).toArray) (wc := wc) (wr := wr) (Ws := Ws) (rv := none) (st := st) hA isC isR hC hR hn hdis (fun H locs ls hP hD hS hl9 => ?_) g
  have hPc := hP.sub isC (kPick hC)
  have hDc : va_D A wc := hD.sub isC hin9 hC
  have hK : Back l R p e below s args y 3 W9 (PreOf R mc ms (kPc (.ref b :: As) D ty wc H.size)) (PostOf (kQe D none Ws (va_A wc H.size)) mc ms (va_A wc H.size)) :=
    back_of (bytes := bytes) (maxL := maxL) (ret := none) (hM H.size) (kPc.blind _ _ _ _ _) rfl rfl (by rw [hRf]; exact Nat.le_of_ble_eq_true hfr) (by rw [hRl]; exact Nat.le_of_ble_eq_true hlo) (pay_in hts (kW_good (y0 := y) (b0 := bytes) (n0 := 0) (r0 := none) hv.1)) List.mem_cons_self (fun a' U hW => word_at hW (Or.inl (by first | rfl | simp [Cond.onTables, Cond.keeps, Cond.steady])) (hts _ hv.2.1))
  have hpre : ∀ U : State, U.heap = H → s.WarmedH U.vm → kPc (.ref b :: As) D ty wc H.size (Value.ref b :: As).toArray U := fun U hU hW => ⟨rfl, by rw [hU], by rw [hU]; exact hPc, ⟨va_K.moved hW.alike hE.1, hE.2.1.warm hW, by rw [hU]; exact hE.2.2.to hS.2.1 (va_free hD hS hA isC hC) hW.alike⟩, hDc.weaken (fun _ _ _ _ => trivial)⟩
  intro T hT X0
  obtain ⟨v, vm₁, ⟨U', l2, c2, s2⟩, hW₁, X', ⟨g', mk, t, L, e1, e2, hq, h1, hL, h2, h3⟩, st⟩ := callI X0 hx (bytes := bytes) (maxL := maxL) hown hv.2.2.2.2.1 (hts _ hl) (hts _ hv.2.2.1) (hts _ hv.1) hv.2.2.2.1 hK rfl (hl9.1.trans hml.symm) (a := b) (argsL := As) (rest := st) (fun sig h => by
      have h2 := hv.2.2.2.2.2
      rw [h] at h2
      exact hnp.trans (Option.some.inj h2).symm) hst (lv_roomW (Nat.le_of_ble_eq_true hW)) (by rw [hb]; exact d)
    (fun vm₁ hW₁ => ⟨hf.1, hf.2, hpre (T.setVm vm₁) hT hW₁⟩)
  dsimp only [Pt.U, Pt.locs, Pt.cells, Pt.slots] at X' e1 e2 h1 h2 h3 st
  subst h1; subst h2; subst h3
  exact ⟨v, (T.setVm vm₁).calling g' mk (Value.ref b :: As).toArray, t, U', L, hT, X', hL, e1, e2, hq, st⟩
theorem k_cIN (X : kCx p R m c cc nL s args own D ty A fr lo) {y : MethodName} {bytes : ByteArray} {maxL np : Nat} {fr1 lo1 index mc ms : Nat} {b : Nat} {wc wr : va_W} {Ws : va_W → Prop} {st0 : List Value} {host : String} (As : List Value) (W9 : Nat) (isC isR : List Nat) (hM : kMe l y bytes maxL none fr1 lo1 mc ms D ty (.ref b :: As) wc none Ws) (hv : kIi y bytes maxL np) (hl : va_Nw (.methodLinkNest own index y host) s) (d : decode cc pc = .ok (.invokespecial index, 3)) (hst : st0 = As.reverse ++ .ref b :: st) (hnp : As.length = np) (hW : Nat.ble (st.map fun v => v.category).sum W9 = true) (hfr : Nat.ble (fr1 + 1) fr = true) (hlo : Nat.ble (W9 + (maxL + 11) + lo1) lo = true) (hC : isC.map (fun i => ws[i]?) = wc.map some) (hR : isR.map (fun i => ws[i]?) = wr.map some) (hn : va_nd isR = true) (hdis : isR.all (fun i => !(isC.contains i)) = true) (hin9 : va_nd isC = true) (hf : cells + mc ≤ R.cells ∧ slots + ms ≤ R.slots)
    (g : ∀ w1, Ws w1 → ∃ (pm : List Nat) (ws' : va_W), va_nd pm = true ∧ pm.map (fun i => (wr ++ w1)[i]?) = ws'.map some ∧ kG p l e R s m args below meth c D A nL Q (cells + mc) (slots + ms) ws' lv st (pc + 3)) : kG p l e R s m args below meth c D A nL Q cells slots ws lv st0 pc := by
  obtain ⟨⟨hx, hb, hml, hown, hts⟩, hE, hA, hRf, hRl⟩ := X
  refine kContE (a := (Value.ref b :: As).toArray) (wc := wc) (wr := wr) (Ws := Ws) (rv := none) (st := st) hA isC isR hC hR hn hdis (fun H locs ls hP hD hS hl9 => ?_) g
  have hPc := hP.sub isC (kPick hC)
  have hDc : va_D A wc := hD.sub isC hin9 hC
  have hK : Back l R p e below s args y 3 W9 (PreOf R mc ms (kPc (.ref b :: As) D ty wc H.size)) (PostOf (kQe D none Ws (va_A wc H.size)) mc ms (va_A wc H.size)) :=
    back_of (bytes := bytes) (maxL := maxL) (ret := none) (hM H.size) (kPc.blind _ _ _ _ _) rfl rfl (by rw [hRf]; exact Nat.le_of_ble_eq_true hfr) (by rw [hRl]; exact Nat.le_of_ble_eq_true hlo) (pay_in hts (kW_good (y0 := y) (b0 := bytes) (n0 := 0) (r0 := none) hv.1)) List.mem_cons_self (fun a' U hW => word_at hW (Or.inl (by first | rfl | simp [Cond.onTables, Cond.keeps, Cond.steady])) (hts _ hv.2.1))
  have hpre : ∀ U : State, U.heap = H → s.WarmedH U.vm → kPc (.ref b :: As) D ty wc H.size (Value.ref b :: As).toArray U := fun U hU hW => ⟨rfl, by rw [hU], by rw [hU]; exact hPc, ⟨va_K.moved hW.alike hE.1, hE.2.1.warm hW, by rw [hU]; exact hE.2.2.to hS.2.1 (va_free hD hS hA isC hC) hW.alike⟩, hDc.weaken (fun _ _ _ _ => trivial)⟩
  intro T hT X0
  obtain ⟨v, vm₁, ⟨U', l2, c2, s2⟩, hW₁, X', ⟨g', mk, t, L, e1, e2, hq, h1, hL, h2, h3⟩, st⟩ := va_callIN X0 hx (bytes := bytes) (maxL := maxL) hown hv.2.2.2.2.1 (va_Nw.use rfl hl) (hts _ hv.2.2.1) (hts _ hv.1) hv.2.2.2.1 hK rfl (hl9.1.trans hml.symm) (a := b) (argsL := As) (rest := st) (fun sig h => by
      have h2 := hv.2.2.2.2.2
      rw [h] at h2
      exact hnp.trans (Option.some.inj h2).symm) hst (lv_roomW (Nat.le_of_ble_eq_true hW)) (by rw [hb]; exact d)
    (fun vm₁ hW₁ => ⟨hf.1, hf.2, hpre (T.setVm vm₁) hT hW₁⟩)
  dsimp only [Pt.U, Pt.locs, Pt.cells, Pt.slots] at X' e1 e2 h1 h2 h3 st
  subst h1; subst h2; subst h3
  exact ⟨v, (T.setVm vm₁).calling g' mk (Value.ref b :: As).toArray, t, U', L, hT, X', hL, e1, e2, hq, st⟩
theorem k_vretE (X : kCx p R m c cc nL s args own D ty A fr lo) {Ws : va_W → Prop} {mc ms : Nat} (hr : meth.sig.returnType = none) (hlk : meth.locks = false) (hw : Ws ws) (h1 : cells = mc) (h2 : slots = ms) (d : decode cc pc = .ok (.return_, 1)) : kG p l e R s m args below meth c D A nL (MQ below (kQe D none Ws A) args s mc ms A) cells slots ws lv [] pc := by
  subst h1; subst h2; intro H locs ls hP hD hS hl
  exact W.vret X.1.1 X.1.2.1 hr (fun t ht hW => ⟨rfl, ws, hw, by rw [ht]; exact hP, hD, hS.F ht⟩) hS.2.2 d hlk
end KN
