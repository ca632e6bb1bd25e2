/-! further rules of the walking layer -/
def kmin (x y : Int64) : Int64 := if y < x then y else x
def kmax (x y : Int64) : Int64 := if y < x then x else y
theorem kFz {x : Int32} (h : narrow .boolean (.int x) = .int x) : fits .boolean (.int x) = true := by rw [← h]; exact fits_narrow_boolean x
/-- how often a counting loop runs -/
def cnt (a b : Int32) : Nat := (b.toInt - a.toInt).toNat
section KR2
variable {p : Program} {l : Launch} {e : Env} {R : Room} {s : State} {m : MethodId} {args : Array Value} {below : List Frame} {meth : Method} {c : Code} {cc : ByteArray} {nL : Nat} {own : String} {D : va_G} {ty : List (ClassId × FieldType)} {A : Nat → Prop} {Q : State → Prop} {cells slots fr lo : Nat}
variable {ws : va_W} {lv : List (Nat × Value)} {st : List Value} {pc pc' : Nat}
theorem k_mid2 (ws' : va_W) (lv' : List (Nat × Value)) (st' : List Value) (pcJ : Nat) (k : kG p l e R s m args below meth c D A nL Q cells slots ws' lv' st' pcJ → kG p l e R s m args below meth c D A nL Q cells slots ws lv st pc) (hJ : kG p l e R s m args below meth c D A nL Q cells slots ws' lv' st' pcJ) : kG p l e R s m args below meth c D A nL Q cells slots ws lv st pc := k hJ
theorem k_sub {lv' : List (Nat × Value)} (ks : List Nat) (h : lv_pick lv ks = lv') (g : kG p l e R s m args below meth c D A nL Q cells slots ws lv' st pc) : kG p l e R s m args below meth c D A nL Q cells slots ws lv st pc := by
  intro H locs ls hP hD hS hl; exact g H locs ls hP hD hS (lv_sub hl ks h)
theorem k_foldi {x v : Int32} (h : x = v) (g : kG p l e R s m args below meth c D A nL Q cells slots ws lv (.int v :: st) pc) : kG p l e R s m args below meth c D A nL Q cells slots ws lv (.int x :: st) pc := by subst h; exact g
theorem k_foldl {x v : Int64} (h : x = v) (g : kG p l e R s m args below meth c D A nL Q cells slots ws lv (.long v :: st) pc) : kG p l e R s m args below meth c D A nL Q cells slots ws lv (.long x :: st) pc := by subst h; exact g
theorem k_loop {σ : Type} (K : Nat → σ → Prop) (L : Nat → σ → σ) (bd : σ → σ) (T : σ → Prop) (Wf : σ → va_W) (lf : σ → List (Nat × Value)) (hd : Nat) (hL0 : ∀ s9, L 0 s9 = s9) (hL1 : ∀ n s9, L (n + 1) s9 = L n (bd s9)) (hK : ∀ n s9, K (n + 1) s9 → T s9 ∧ K n (bd s9))
    (body : ∀ s9, T s9 → kG p l e R s m args below meth c D A nL Q cells slots (Wf (bd s9)) (lf (bd s9)) [] hd → kG p l e R s m args below meth c D A nL Q cells slots (Wf s9) (lf s9) [] hd) :
    ∀ (n : Nat) (s0 : σ), K n s0 → kG p l e R s m args below meth c D A nL Q cells slots (Wf (L n s0)) (lf (L n s0)) [] hd → kG p l e R s m args below meth c D A nL Q cells slots (Wf s0) (lf s0) [] hd := by
  intro n
  induction n with
  | zero => intro s0 _ g; rw [hL0] at g; exact g
  | succ n ih =>
    intro s0 k0 g
    rw [hL1] at g
    exact body s0 (hK n s0 k0).1 (ih (bd s0) (hK n s0 k0).2 g)
theorem k_zast (X : kCx p R m c cc nL s args own D ty A fr lo) (q0 t0 : Nat) {a : Nat} {cA : ClassId} {n : Nat} {f : Nat → Int32} {i x : Int32} {ws' : va_W} (ha : ws[q0]? = some (a, .inl (cA, n, .inl f))) (ht : ty[t0]? = some (cA, .boolean)) (hin : vp_in i n) (hw : ws.set q0 (a, .inl (cA, n, .inl (upd f i.toNatClampNeg (vp_nar .boolean x)))) = ws') (d : decode cc pc = .ok (.bastore, 1)) (hp : pc + 1 = pc') (g : kG p l e R s m args below meth c D A nL Q cells slots ws' lv st pc') : kG p l e R s m args below meth c D A nL Q cells slots ws lv (.int x :: .int i :: .ref a :: st) pc := by
  subst hp; subst hw; intro H locs ls hP hD hS hl; exact va_zast X.1.1 X.1.2.1 X.2.1.1 hP hD hS q0 t0 ha ht hin d (fun H' locs' hP' hD' hS' => g H' locs' ls hP' hD' hS' hl)
theorem k_mmin (X : kCx p R m c cc nL s args own D ty A fr lo) {index : Nat} {x y : Int64} (h1 : Cond.methodLink own index Lib.MathLoose.min_long.x ∈ wsL_law0) (h2 : Cond.static Lib.MathLoose.min_long.x ∈ wsL_law0) (h3 : Cond.initialized "java/lang/Math" ∈ wsL_law0) (h4 : Cond.code Lib.MathLoose.min_long.x Lib.MathLoose.min_long.code 4 (some .long) ∈ wsL_law0) (d : decode cc pc = .ok (.invokestatic index, 3)) (hfr : Nat.ble 1 fr = true) (hlo : Nat.ble ((st.map fun v => v.category).sum + 15) lo = true) (hp : pc + 3 = pc') (g : kG p l e R s m args below meth c D A nL Q 0 0 ws lv (.long (kmin x y) :: st) pc') : kG p l e R s m args below meth c D A nL Q 0 0 ws lv (.long y :: .long x :: st) pc := by
  subst hp; intro H locs ls hP hD hS hl; exact va_mmin_long X.1.1 X.1.2.1 (X.1.2.2.1.trans hl.1.symm) X.1.2.2.2.1 (X.1.2.2.2.2 _ h1) (X.1.2.2.2.2 _ h2) (X.1.2.2.2.2 _ h3) (X.1.2.2.2.2 _ h4) (by rw [X.2.2.2.1]; exact Nat.le_of_ble_eq_true hfr) (by rw [X.2.2.2.2]; exact Nat.le_of_ble_eq_true hlo) (Nat.zero_le _) (Nat.zero_le _) d (g H locs ls hP hD hS hl)
theorem k_mmax (X : kCx p R m c cc nL s args own D ty A fr lo) {index : Nat} {x y : Int64} (h1 : Cond.methodLink own index Lib.MathLoose.max_long.x ∈ wsL_law0) (h2 : Cond.static Lib.MathLoose.max_long.x ∈ wsL_law0) (h3 : Cond.initialized "java/lang/Math" ∈ wsL_law0) (h4 : Cond.code Lib.MathLoose.max_long.x Lib.MathLoose.max_long.code 4 (some .long) ∈ wsL_law0) (d : decode cc pc = .ok (.invokestatic index, 3)) (hfr : Nat.ble 1 fr = true) (hlo : Nat.ble ((st.map fun v => v.category).sum + 15) lo = true) (hp : pc + 3 = pc') (g : kG p l e R s m args below meth c D A nL Q 0 0 ws lv (.long (kmax x y) :: st) pc') : kG p l e R s m args below meth c D A nL Q 0 0 ws lv (.long y :: .long x :: st) pc := by
  subst hp; intro H locs ls hP hD hS hl; exact va_mmax_long X.1.1 X.1.2.1 (X.1.2.2.1.trans hl.1.symm) X.1.2.2.2.1 (X.1.2.2.2.2 _ h1) (X.1.2.2.2.2 _ h2) (X.1.2.2.2.2 _ h3) (X.1.2.2.2.2 _ h4) (by rw [X.2.2.2.1]; exact Nat.le_of_ble_eq_true hfr) (by rw [X.2.2.2.2]; exact Nat.le_of_ble_eq_true hlo) (Nat.zero_le _) (Nat.zero_le _) d (g H locs ls hP hD hS hl)
theorem k_kinds (X : kCx p R m c cc nL s args RX1 D ty A fr lo) {index : Nat} (hl : Cond.fieldLink RX1 index "StripMachine$Decoder" "KINDS" "[I" ∈ wsL_law0) (d : decode cc pc = .ok (.getstatic index, 3)) (hp : pc + 3 = pc') (g : ∀ t : Nat, va_T .int t 128 (fun j => .int (kKinds j)) A s s.heap → kG p l e R s m args below meth c D A nL Q cells slots ws lv (.ref t :: st) pc') : kG p l e R s m args below meth c D A nL Q cells slots ws lv st pc := by
  subst hp; intro H locs ls hP hD hS h1
  obtain ⟨t, hZ, hT⟩ := X.2.1.2.2
  exact va_gets X.1.1 X.1.2.1 hZ hS X.1.2.2.2.1 (X.1.2.2.2.2 _ hl) (fun _ h => h) d (g t hT H locs ls hP hD hS h1)
theorem k_klen (X : kCx p R m c cc nL s args own D ty A fr lo) {t : Nat} {f : Nat → Value} (hT : va_T .int t 128 f A s s.heap) (d : decode cc pc = .ok (.arraylength, 1)) (hp : pc + 1 = pc') (g : kG p l e R s m args below meth c D A nL Q cells slots ws lv (.int 128 :: st) pc') : kG p l e R s m args below meth c D A nL Q cells slots ws lv (.ref t :: st) pc := by
  subst hp; intro H locs ls hP hD hS h1
  exact va_tlen X.1.1 X.1.2.1 hT hS (by decide) d (g H locs ls hP hD hS h1)
theorem k_kald (X : kCx p R m c cc nL s args own D ty A fr lo) {t : Nat} {i : Int32} (hT : va_T .int t 128 (fun j => .int (kKinds j)) A s s.heap) (hin : vp_in i 128) (d : decode cc pc = .ok (.iaload, 1)) (hp : pc + 1 = pc') (g : kG p l e R s m args below meth c D A nL Q cells slots ws lv (.int (kKinds i.toNatClampNeg) :: st) pc') : kG p l e R s m args below meth c D A nL Q cells slots ws lv (.int i :: .ref t :: st) pc := by
  subst hp; intro H locs ls hP hD hS h1
  exact va_ti X.1.1 X.1.2.1 hT hS hin rfl d (g H locs ls hP hD hS h1)
end KR2
def fX1_entryOf (u0 : Int32) : Int32 := (if u0 < (0 : Int32) then (0 : Int32) else (if (128 : Int32) ≤ u0 then (0 : Int32) else (kKinds u0.toNatClampNeg)))
theorem kX1_entryOf (l : Launch) (D : va_G) (kI kZ : ClassId) (u0 : Int32) : kM l yX1_entryOf cX1_entryOf 1 (some .int) 0 0 0 0 D [(kI, .int), (kZ, .boolean)] [.int u0] [] (some (.int (fX1_entryOf u0))) [] := by
  refine kM.of (by decide) rfl ?_
  intro p e R s m args below meth c A X _ _ hRt hLk
  refine k_sub [0] (lv' := [(0, .int u0)]) rfl ?_
  refine k_iload_n X dX1_entryOf_0 rfl 0 rfl rfl ?_
  refine k_if_lt (tgt := 20) X dX1_entryOf_1 (by decide) rfl (fun c1 => ?_) (fun c1 => ?_)
  · refine k_iconst (v := 0) X dX1_entryOf_20 (by decide) rfl ?_
    have e1 : fX1_entryOf u0 = (0 : Int32) := by rw [fX1_entryOf, if_pos c1]
    exact k_iret9 X hRt hLk e1.symm rfl dX1_entryOf_21
  refine k_iload_n X dX1_entryOf_4 rfl 0 rfl rfl ?_
  refine k_kinds X q16_19 dX1_entryOf_5 rfl (fun t hT => ?_)
  refine k_klen X hT dX1_entryOf_8 rfl ?_
  refine k_icmp_ge (tgt := 20) X dX1_entryOf_9 (by decide) rfl (fun c2 => ?_) (fun c2 => ?_)
  · refine k_iconst (v := 0) X dX1_entryOf_20 (by decide) rfl ?_
    have e1 : fX1_entryOf u0 = (0 : Int32) := by rw [fX1_entryOf, if_neg c1, if_pos c2]
    exact k_iret9 X hRt hLk e1.symm rfl dX1_entryOf_21
  refine k_kinds X q16_19 dX1_entryOf_12 rfl (fun t2 hT2 => ?_)
  refine k_iload_n X dX1_entryOf_15 rfl 0 rfl rfl ?_
  refine k_kald X hT2 (by
    obtain ⟨j, hj, rfl⟩ := nI_of c1
    rcases pk_ix (nI j) (n := 128) (by decide) with h | h | ⟨k, hk, e⟩
    · exact absurd h c1
    · exact absurd h c2
    · rw [e]; exact vp_in_nI hk (by decide)) dX1_entryOf_16 rfl ?_
  refine k_goto (tgt := 21) X dX1_entryOf_17 (by decide) ?_
  have e1 : fX1_entryOf u0 = kKinds u0.toNatClampNeg := by rw [fX1_entryOf, if_neg c1, if_neg c2]
  exact k_iret9 X hRt hLk e1.symm rfl dX1_entryOf_21
theorem vX1_entryOf : kSt yX1_entryOf cX1_entryOf 1 (some .int) 1 := ⟨q16_18, q16_9, q16_17, by decide, by decide +kernel⟩
theorem k_midR {p : Program} {l : Launch} {e : Env} {R : Room} {s : State} {m : MethodId} {args : Array Value} {below : List Frame} {meth : Method} {c : Code} {nL : Nat} {D : va_G} {A : Nat → Prop} {ws : va_W} {lv : List (Nat × Value)} {st : List Value} {pc : Nat} {r : Option Value} {w1 : va_W} (r' : Option Value) (w1' ws' : va_W) (lv' : List (Nat × Value)) (st' : List Value) (pcJ : Nat) (k : kG p l e R s m args below meth c D A nL (MQ below (kQ D r' w1' A) args s 0 0 A) 0 0 ws' lv' st' pcJ → kG p l e R s m args below meth c D A nL (MQ below (kQ D r w1 A) args s 0 0 A) 0 0 ws lv st pc) (hJ : kG p l e R s m args below meth c D A nL (MQ below (kQ D r' w1' A) args s 0 0 A) 0 0 ws' lv' st' pcJ) : kG p l e R s m args below meth c D A nL (MQ below (kQ D r w1 A) args s 0 0 A) 0 0 ws lv st pc := k hJ
theorem kzi {c : Prop} [Decidable c] {a b : Int32} (ha : narrow .boolean (.int a) = .int a) (hb : narrow .boolean (.int b) = .int b) : narrow .boolean (.int (if c then a else b)) = .int (if c then a else b) := by
  by_cases h : c
  · rw [if_pos h]; exact ha
  · rw [if_neg h]; exact hb
/-- a number that the unifier doesn't look into -/
def kN (n : Nat) : Nat := if n = 0 then 0 else kN (n - 1) + 1
termination_by n
theorem kN_eq : ∀ n : Nat, kN n = n
  | 0 => by rw [kN]; rfl
  | n + 1 => by rw [kN, if_neg (Nat.succ_ne_zero n), Nat.add_sub_cancel, kN_eq n]
/-- n turns from the counter i on -/
def itr {σ : Type} (f : Nat → σ → σ) : Nat → Nat → σ → σ
  | 0, _, s => s
  | n + 1, i, s => itr f n (i + 1) (f i s)
theorem itr_rel {σ τ : Type} (R : Nat → σ → τ → Prop) (f : Nat → σ → σ) (g : Nat → τ → τ) : ∀ (n a : Nat) (s : σ) (t : τ), (∀ i s t, a ≤ i → i < a + n → R i s t → R (i + 1) (f i s) (g i t)) → R a s t → R (a + n) (itr f n a s) (itr g n a t)
  | 0, _, _, _, _, h => h
  | n + 1, a, s, t, hs, h => by
    have h2 := itr_rel R f g n (a + 1) (f a s) (g a t) (fun i s t h1 h2 => hs i s t (by omega) (by omega)) (hs a s t (Nat.le_refl a) (by omega) h)
    rw [show a + (n + 1) = a + 1 + n by omega]
    exact h2
theorem itr_inv {σ : Type} (I : Nat → σ → Prop) (f : Nat → σ → σ) : ∀ (n a : Nat) (s : σ), (∀ i s, a ≤ i → i < a + n → I i s → I (i + 1) (f i s)) → I a s → I (a + n) (itr f n a s)
  | 0, _, _, _, h => h
  | n + 1, a, s, hs, h => by
    have h2 := itr_inv I f n (a + 1) (f a s) (fun i s h1 h2 => hs i s (by omega) (by omega)) (hs a s (Nat.le_refl a) (by omega) h)
    rw [show a + (n + 1) = a + 1 + n by omega]
    exact h2
theorem cnt_nI {a b : Nat} (ha : a < 2 ^ 31) (hb : b < 2 ^ 31) : cnt (nI a) (nI b) = b - a := by
  unfold cnt; rw [nI_toInt ha, nI_toInt hb]; omega
