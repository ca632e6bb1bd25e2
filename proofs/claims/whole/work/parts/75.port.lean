/-! ===== loads and stores: outcomes in step ===== -/
def PO (L0 : Nat) (a1 l1 s1 t1 : Int32) (x1 w1 : Nat → Int32) (a2 l2 s2 t2 : Int32) (z2 m2 : Nat → Int32) : Prop := a1 = a2 ∧ l1 = l2 ∧ s1 = s2 ∧ t1 = t2 ∧ Sy x1 z2 ∧ SyM w1 m2 ∧ (∃ l s, l2 = nI l ∧ l ≤ L0 ∧ s2 = nI s ∧ s < 128) ∧ (a2 = 0 ∨ a2 = 1 ∨ a2 = 2)
theorem PO.same {vl st : Nat} (hst : st < 128) {x z w m : Nat → Int32} (h0 : Sy x z) (hM : SyM w m) (tr : Int32) {a : Int32} (ha : a = 0 ∨ a = 1) : PO vl a (nI vl) (nI st) tr x w a (nI vl) (nI st) tr z m :=
  ⟨rfl, rfl, rfl, rfl, h0, hM, ⟨vl, st, rfl, Nat.le_refl _, rfl, hst⟩, by rcases ha with h | h; exact Or.inl h; exact Or.inr (Or.inl h)⟩
/-- nothing to do -/
theorem tr_stop {bs str isS isM isX isF isB : Int32} {c : Int64} {mo sp df de dg : Int32} {dl : Int64} {xf xe : Int32} {xl : Int64} {mf me : Int32} {ml : Int64} {x w : Nat → Int32} {tt tr vl0 : Int32} {st to : Nat} (hst : st < 2 ^ 31) (h : to ≤ st) :
    fX7_transfer bs str (nI to) isS isM isX isF (nI st) c mo x sp w df de dl xf xe xl mf me ml = 0 ∧ fX7_transfer__r_length bs str (nI to) isS isM isX isF vl0 (nI st) c mo x sp w df de dl xf xe xl mf me ml = vl0 ∧ fX7_transfer__r_start bs str (nI to) isS isM isX isF (nI st) c mo x sp w df de dl xf xe xl mf me ml = nI st ∧ fX7_transfer__o_trapAddress bs str (nI to) isS isM isX isF tr (nI st) c mo x sp w df de dl xf xe xl mf me ml = tr ∧ fX7_transfer__xV bs str (nI to) isS isM isX isF isB (nI st) c tt mo x sp w df de dg dl xf xe xl mf me ml = x ∧ fX7_transfer__xW bs str (nI to) isS isM isX isF (nI st) c mo x sp w df de dl xf xe xl mf me ml = w := by
  have q : ¬ nI st < nI to := nI_nlt h hst
  unfold fX7_transfer fX7_transfer__r_length fX7_transfer__r_start fX7_transfer__o_trapAddress fX7_transfer__xV fX7_transfer__xW
  simp only [if_neg q]
  exact ⟨trivial, trivial, trivial, trivial, trivial, trivial⟩
theorem wk_stop {c : Int64} {vt vd vs1 vs2 un : Int32} {zX z m zS : Nat → Int32} {u1 u2 u4 u5 u6 u7 tr vl0 : Int32} {st to : Nat} (hst : st < 2 ^ 31) (h : to ≤ st) :
    fX11_walks c vt (nI st) vd vs1 vs2 un zX z z m zS u1 u2 (nI to) u4 u5 u6 u7 = 0 ∧ fX11_walks__m_vl c vl0 vt (nI st) vd vs1 vs2 un zX z z m zS u1 u2 (nI to) u4 u5 u6 u7 = vl0 ∧ fX11_walks__m_vstart c vt (nI st) vd vs1 vs2 un zX z z m zS u1 u2 (nI to) u4 u5 u6 u7 = nI st ∧ fX11_walks__m_trapAddress c vt (nI st) tr vd vs1 vs2 un zX z z m zS u1 u2 (nI to) u4 u5 u6 u7 = tr ∧ fX11_walks__zV c vt (nI st) vd vs1 vs2 un zX z z m zS u1 u2 (nI to) u4 u5 u7 = z ∧ fX11_walks__zM c vt (nI st) vd vs1 vs2 un zX z z m zS u1 u2 (nI to) u4 u5 u7 = m := by
  have hn : ¬ tw vs1 vs2 un zX z zS u2 (nI to) u4 u5 u7 (nI st, z, m) := tw_end (nI_le h hst)
  have e1 : run (tw vs1 vs2 un zX z zS u2 (nI to) u4 u5 u7) (bw c vt vd vs1 vs2 un zX z zS u1 u2 (nI to) u4 u5 u7) 600 (nI st, z, m) = (nI st, z, m) := if_neg hn
  have q : nI to ≤ nI st := nI_le h hst
  unfold fX11_walks fX11_walks__m_vl fX11_walks__m_vstart fX11_walks__m_trapAddress fX11_walks__zV fX11_walks__zM
  simp only [Lw_eq, e1, if_pos q]
  exact ⟨trivial, trivial, trivial, trivial, trivial, trivial⟩
/-- loads and stores of vl elements -/
theorem port_walk {W st vl d s1 s2 g e8 : Nat} {x z w m zX zS : Nat → Int32} (hW : okB W) (hg8 : g ≤ 8) (hreg : fX11_registers (nI e8) = nI g) (hdg : d + g ≤ 32) (hvl : vl * W ≤ g * 128) (hv128 : vl ≤ 128) (hst : st < 128) (h0 : Sy x z) (hM : SyM w m) {bs str isS isM isX isF : Int32} {c : Int64} {sp xf xe : Int32} {xl : Int64} {vt un u1 u4 u6 u7 : Int32}
    (hS : isS = 0 ↔ ¬ u1 = 0) (hmu : isM = 0 ↔ ¬ un = 0) (hP : SyP sp zS) (hF : isF = 0 ↔ u6 = 0)
    (hmask : ∀ i xx, st ≤ i → i < vl → Jv d W st z x isS i xx → ¬ isM = 0 → fX2_element (nI 0) (nI 1) (fX10_ones (nI 1)) xx (nI i) = if fX11_bit z (0 : Int32) (nI i) = 0 then 0 else 1)
    (haddr : ∀ i xx, st ≤ i → i < vl → Jv d W st z x isS i xx → fX7_addressOf bs str isX xx xf xe xl (nI i) = eX11_walks_80 (nI s1) (nI s2) zX z u4 u7 (nI i)) (tr : Int32) :
    PO vl (fX7_transfer bs str (nI vl) isS isM isX isF (nI st) c (fX11_isMaskOpen vt) x sp w (nI d) (nI W) (fX10_ones (nI W)) xf xe xl (nI 0) (nI 1) (fX10_ones (nI 1)))
      (fX7_transfer__r_length bs str (nI vl) isS isM isX isF (nI vl) (nI st) c (fX11_isMaskOpen vt) x sp w (nI d) (nI W) (fX10_ones (nI W)) xf xe xl (nI 0) (nI 1) (fX10_ones (nI 1)))
      (fX7_transfer__r_start bs str (nI vl) isS isM isX isF (nI st) c (fX11_isMaskOpen vt) x sp w (nI d) (nI W) (fX10_ones (nI W)) xf xe xl (nI 0) (nI 1) (fX10_ones (nI 1)))
      (fX7_transfer__o_trapAddress bs str (nI vl) isS isM isX isF tr (nI st) c (fX11_isMaskOpen vt) x sp w (nI d) (nI W) (fX10_ones (nI W)) xf xe xl (nI 0) (nI 1) (fX10_ones (nI 1)))
      (fX7_transfer__xV bs str (nI vl) isS isM isX isF 0 (nI st) c (fX11_isTailOpen vt) (fX11_isMaskOpen vt) x sp w (nI d) (nI W) (nI g) (fX10_ones (nI W)) xf xe xl (nI 0) (nI 1) (fX10_ones (nI 1)))
      (fX7_transfer__xW bs str (nI vl) isS isM isX isF (nI st) c (fX11_isMaskOpen vt) x sp w (nI d) (nI W) (fX10_ones (nI W)) xf xe xl (nI 0) (nI 1) (fX10_ones (nI 1)))
      (if fX11_goes (nI vl) (nI st) = 0 then 0 else fX11_walks c vt (nI st) (nI d) (nI s1) (nI s2) un zX z z m zS u1 (nI W) (nI vl) u4 0 u6 u7)
      (if fX11_goes (nI vl) (nI st) = 0 then nI vl else fX11_walks__m_vl c (nI vl) vt (nI st) (nI d) (nI s1) (nI s2) un zX z z m zS u1 (nI W) (nI vl) u4 0 u6 u7)
      (if fX11_goes (nI vl) (nI st) = 0 then nI st else fX11_walks__m_vstart c vt (nI st) (nI d) (nI s1) (nI s2) un zX z z m zS u1 (nI W) (nI vl) u4 0 u6 u7)
      (if fX11_goes (nI vl) (nI st) = 0 then tr else fX11_walks__m_trapAddress c vt (nI st) tr (nI d) (nI s1) (nI s2) un zX z z m zS u1 (nI W) (nI vl) u4 0 u6 u7)
      (if fX11_goes (nI vl) (nI st) = 0 then z else (if u1 = 0 then fX11_walks__zV c vt (nI st) (nI d) (nI s1) (nI s2) un zX z z m zS u1 (nI W) (nI vl) u4 0 u7 else (if fX11_walks c vt (nI st) (nI d) (nI s1) (nI s2) un zX z z m zS u1 (nI W) (nI vl) u4 0 u6 u7 = 0 then fX11_tail__zV c vt (fX11_walks__zV c vt (nI st) (nI d) (nI s1) (nI s2) un zX z z m zS u1 (nI W) (nI vl) u4 0 u7) (nI d) (nI W) (nI e8) (fX11_walks__m_vl c (nI vl) vt (nI st) (nI d) (nI s1) (nI s2) un zX z z m zS u1 (nI W) (nI vl) u4 0 u6 u7) else fX11_walks__zV c vt (nI st) (nI d) (nI s1) (nI s2) un zX z z m zS u1 (nI W) (nI vl) u4 0 u7)))
      (if fX11_goes (nI vl) (nI st) = 0 then m else fX11_walks__zM c vt (nI st) (nI d) (nI s1) (nI s2) un zX z z m zS u1 (nI W) (nI vl) u4 0 u7) := by
  have hle := hW.le
  rcases Nat.lt_or_ge st vl with q | q
  · have hg : ¬ fX11_goes (nI vl) (nI st) = 0 := fun w => absurd ((goes_eq (vl := vl) (st := st) (by omega) (by omega)).mp w) (by omega)
    simp only [if_neg hg]
    obtain ⟨e, x2, w2, z2, m2, a1, a2, a3, a4, a5, a6, a7⟩ := walk_sync (W := W) (st := st) (to := vl) (d := d) (s1 := s1) (s2 := s2) (u5 := 0) (c := c) (vt := vt) (u1 := u1) hW (by omega) h0 hM (by omega) hv128 rfl hS hmu (fun w => absurd rfl w) hP hmask haddr
    obtain ⟨b1, b2, b3, b4, b5, b6, b7, b8, b9, b10, b11⟩ := tr_end (g := g) q hv128 a2 isF 0 (fX11_isTailOpen vt) tr 0 (nI vl) hF a3 a4 a7
    have key : ∀ (R : Int32), (R = 0 ∨ R = 2) → (R = 0 → fX11_walks__m_vl c (nI vl) vt (nI st) (nI d) (nI s1) (nI s2) un zX z z m zS u1 (nI W) (nI vl) u4 0 u6 u7 = nI e) → Sy (if R = 0 then (if isS = 0 then fX2_leaveTail__xV (nI d) (nI W) (nI g) (fX10_ones (nI W)) c x2 (fX11_isTailOpen vt) (nI e) 0 else x2) else x2) (if u1 = 0 then z2 else (if R = 0 then fX11_tail__zV c vt z2 (nI d) (nI W) (nI e8) (fX11_walks__m_vl c (nI vl) vt (nI st) (nI d) (nI s1) (nI s2) un zX z z m zS u1 (nI W) (nI vl) u4 0 u6 u7) else z2)) := by
      intro R hR hL
      by_cases qS : isS = 0
      · have qu := hS.mp qS
        rw [if_neg qu, if_pos qS]
        rcases hR with rfl | rfl
        · rw [if_pos rfl, if_pos rfl, hL rfl]
          exact a5.tail (r := d) (e := W) (g := g) (e8 := e8) (k := e) hW hg8 hreg hdg (by omega) c rfl
        · rw [if_neg (by decide), if_neg (by decide)]; exact a5
      · have qu : u1 = 0 := Classical.byContradiction (fun w => qS (hS.mpr w))
        rw [if_pos qu, if_neg qS, ite_self]; exact a5
    have hLe : fX11_walks c vt (nI st) (nI d) (nI s1) (nI s2) un zX z z m zS u1 (nI W) (nI vl) u4 0 u6 u7 = 0 → fX11_walks__m_vl c (nI vl) vt (nI st) (nI d) (nI s1) (nI s2) un zX z z m zS u1 (nI W) (nI vl) u4 0 u6 u7 = nI e := by
      intro hz
      rcases (b10 hz).1 with ⟨h1, h2⟩ | ⟨_, h2⟩
      · rw [h2, h1]
      · exact h2
    refine ⟨b1, b2, b3, b4, ?_, ?_, ?_, ?_⟩
    · rw [b8, b7]; exact key _ b9 hLe
    · rw [b5, b6]; exact a6
    · rcases b9 with h | h
      · exact ⟨e, st, hLe h, a2, (b10 h).2, hst⟩
      · obtain ⟨h1, h2, h3⟩ := b11 h
        exact ⟨vl, e, h2, Nat.le_refl _, h3, by omega⟩
    · rcases b9 with h | h
      · exact Or.inl h
      · exact Or.inr (Or.inr h)
  · have hg := (goes_eq (vl := vl) (st := st) (by omega) (by omega)).mpr q
    simp only [if_pos hg]
    obtain ⟨e1, e2, e3, e4, e5, e6⟩ := tr_stop (bs := bs) (str := str) (isS := isS) (isM := isM) (isX := isX) (isF := isF) (isB := 0) (c := c) (mo := fX11_isMaskOpen vt) (sp := sp) (df := nI d) (de := nI W) (dg := nI g) (dl := fX10_ones (nI W)) (xf := xf) (xe := xe) (xl := xl) (mf := nI 0) (me := nI 1) (ml := fX10_ones (nI 1)) (x := x) (w := w) (tt := fX11_isTailOpen vt) (tr := tr) (vl0 := nI vl) (st := st) (to := vl) (by omega) q
    rw [e1, e2, e3, e4, e5, e6]
    exact PO.same hst h0 hM tr (Or.inl rfl)
/-- whole registers -/
theorem port_whole {W st to vl d s1 s2 g : Nat} {x z w m zX zS : Nat → Int32} (hW : okB W) (hg8 : g ≤ 8) (hdg : d + g ≤ 32) (hto : to = g * 128 / W) (hst : st < 128) (h0 : Sy x z) (hM : SyM w m) {bs str isS isM isX : Int32} {c : Int64} {sp xf xe : Int32} {xl : Int64} {vt un u1 u4 mo tt : Int32}
    (hmo : mo = fX11_isMaskOpen vt) (hS : isS = 0 ↔ ¬ u1 = 0) (hmu : isM = 0 ↔ ¬ un = 0) (hM0 : isM = 0) (hP : SyP sp zS)
    (haddr : ∀ i xx, fX7_addressOf bs str isX xx xf xe xl (nI i) = eX11_walks_80 (nI s1) (nI s2) zX z u4 0 (nI i)) (tr : Int32) :
    PO vl (fX7_transfer bs str (nI to) isS isM isX 0 (nI st) c mo x sp w (nI d) (nI W) (fX10_ones (nI W)) xf xe xl (nI 0) (nI 1) (fX10_ones (nI 1)))
      (fX7_transfer__r_length bs str (nI to) isS isM isX 0 (nI vl) (nI st) c mo x sp w (nI d) (nI W) (fX10_ones (nI W)) xf xe xl (nI 0) (nI 1) (fX10_ones (nI 1)))
      (fX7_transfer__r_start bs str (nI to) isS isM isX 0 (nI st) c mo x sp w (nI d) (nI W) (fX10_ones (nI W)) xf xe xl (nI 0) (nI 1) (fX10_ones (nI 1)))
      (fX7_transfer__o_trapAddress bs str (nI to) isS isM isX 0 tr (nI st) c mo x sp w (nI d) (nI W) (fX10_ones (nI W)) xf xe xl (nI 0) (nI 1) (fX10_ones (nI 1)))
      (fX7_transfer__xV bs str (nI to) isS isM isX 0 0 (nI st) c tt mo x sp w (nI d) (nI W) (nI g) (fX10_ones (nI W)) xf xe xl (nI 0) (nI 1) (fX10_ones (nI 1)))
      (fX7_transfer__xW bs str (nI to) isS isM isX 0 (nI st) c mo x sp w (nI d) (nI W) (fX10_ones (nI W)) xf xe xl (nI 0) (nI 1) (fX10_ones (nI 1)))
      (fX11_walks c vt (nI st) (nI d) (nI s1) (nI s2) un zX z z m zS u1 (nI W) (nI to) u4 1 0 0)
      (fX11_walks__m_vl c (nI vl) vt (nI st) (nI d) (nI s1) (nI s2) un zX z z m zS u1 (nI W) (nI to) u4 1 0 0)
      (fX11_walks__m_vstart c vt (nI st) (nI d) (nI s1) (nI s2) un zX z z m zS u1 (nI W) (nI to) u4 1 0 0)
      (fX11_walks__m_trapAddress c vt (nI st) tr (nI d) (nI s1) (nI s2) un zX z z m zS u1 (nI W) (nI to) u4 1 0 0)
      (fX11_walks__zV c vt (nI st) (nI d) (nI s1) (nI s2) un zX z z m zS u1 (nI W) (nI to) u4 1 0)
      (fX11_walks__zM c vt (nI st) (nI d) (nI s1) (nI s2) un zX z z m zS u1 (nI W) (nI to) u4 1 0) := by
  have hle := hW.le
  have hb : g * 128 / W * W ≤ g * 128 := Nat.div_mul_le_self _ _
  have hto2 : to ≤ 128 := by
    have h1 : g * 128 / W ≤ g * 128 / 8 := Nat.div_le_div_left hle.1 (by decide)
    omega
  rcases Nat.lt_or_ge st to with q | q
  · obtain ⟨e, x2, w2, z2, m2, a1, a2, a3, a4, a5, a6, a7⟩ := walk_sync (W := W) (st := st) (to := to) (d := d) (s1 := s1) (s2 := s2) (u5 := 1) (c := c) (vt := vt) (u1 := u1) (u4 := u4) (u7 := 0) hW (by rw [hto]; omega) h0 hM (by omega) hto2 hmo hS hmu (fun _ => hM0) hP (fun _ _ _ _ _ w => absurd hM0 w) (fun i xx _ _ _ => haddr i xx)
    obtain ⟨b1, b2, b3, b4, b5, b6, b7, b8, b9, b10, b11⟩ := tr_end (g := g) (u6 := 0) q hto2 a2 0 0 tt tr 0 (nI vl) Iff.rfl a3 a4 a7
    have hE : fX11_walks c vt (nI st) (nI d) (nI s1) (nI s2) un zX z z m zS u1 (nI W) (nI to) u4 1 0 0 = 0 → e = to := by
      intro hz
      rcases (b10 hz).1 with ⟨h1, h2⟩ | ⟨h1, _⟩
      · exact h1
      · exact absurd rfl h1
    refine ⟨b1, b2, b3, b4, ?_, ?_, ?_, ?_⟩
    · rw [b8, b7]
      rcases b9 with h | h
      · rw [if_pos h, hE h, hto, tail_end hW hg8, ite_self]; exact a5
      · rw [if_neg (by rw [h]; decide)]; exact a5
    · rw [b5, b6]; exact a6
    · rcases b9 with h | h
      · rcases (b10 h).1 with ⟨h1, h2⟩ | ⟨h1, _⟩
        · exact ⟨vl, st, h2, Nat.le_refl _, (b10 h).2, hst⟩
        · exact absurd rfl h1
      · obtain ⟨h1, h2, h3⟩ := b11 h
        exact ⟨vl, e, h2, Nat.le_refl _, h3, by omega⟩
    · rcases b9 with h | h
      · exact Or.inl h
      · exact Or.inr (Or.inr h)
  · obtain ⟨e1, e2, e3, e4, e5, e6⟩ := tr_stop (bs := bs) (str := str) (isS := isS) (isM := isM) (isX := isX) (isF := 0) (isB := 0) (c := c) (mo := mo) (sp := sp) (df := nI d) (de := nI W) (dg := nI g) (dl := fX10_ones (nI W)) (xf := xf) (xe := xe) (xl := xl) (mf := nI 0) (me := nI 1) (ml := fX10_ones (nI 1)) (x := x) (w := w) (tt := tt) (tr := tr) (vl0 := nI vl) (st := st) (to := to) (by omega) q
    obtain ⟨f1, f2, f3, f4, f5, f6⟩ := wk_stop (c := c) (vt := vt) (vd := nI d) (vs1 := nI s1) (vs2 := nI s2) (un := un) (zX := zX) (z := z) (m := m) (zS := zS) (u1 := u1) (u2 := nI W) (u4 := u4) (u5 := 1) (u6 := 0) (u7 := 0) (tr := tr) (vl0 := nI vl) (st := st) (to := to) (by omega) q
    rw [e1, e2, e3, e4, e5, e6, f1, f2, f3, f4, f5, f6]
    exact PO.same hst h0 hM tr (Or.inl rfl)
/-! ===== mask bytes ===== -/
theorem run_itr {σ : Type} (t : Int32 × σ → Prop) (b : Int32 × σ → Int32 × σ) (f : Nat → σ → σ) (b9 : Nat) (h1 : ∀ i s, i < b9 → t (nI i, s)) (h2 : ∀ s, ¬ t (nI b9, s)) (h3 : ∀ i s, i < b9 → b (nI i, s) = (nI (i + 1), f i s)) : ∀ (n a fu : Nat) (s : σ), a + n = b9 → n ≤ fu → run t b fu (nI a, s) = (nI b9, itr f n a s)
  | 0, a, fu, s, ha, _ => by
    have : a = b9 := by omega
    subst this
    cases fu with
    | zero => rfl
    | succ fu => exact if_neg (h2 s)
  | n + 1, a, fu, s, ha, hf => by
    obtain ⟨g, rfl⟩ : ∃ g, fu = g + 1 := ⟨fu - 1, by omega⟩
    have e : run t b (g + 1) (nI a, s) = run t b g (b (nI a, s)) := if_pos (h1 a s (by omega))
    rw [e, h3 a s (by omega)]
    exact run_itr t b f b9 h1 h2 h3 n (a + 1) g (f a s) (by omega) (by omega)
section MB
variable (c : Int64) (vl vt vst vd vs1 vs2 un : Int32) (zX zV zO zM zS : Nat → Int32) (u1 : Int32)
def tm (s : Int32 × (Nat → Int32)) : Prop := tX11_moves_187 c vl vt vst vd vs1 vs2 un zX zV zO zM zS u1 s.1 s.2
def om (s : Int32 × (Nat → Int32)) : Prop := oX11_moves_187 c vl vt vst vd vs1 vs2 un zX zV zO zM zS u1 s.1 s.2
noncomputable def bm (s : Int32 × (Nat → Int32)) : Int32 × (Nat → Int32) := ((bX11_moves_187_L7 c vl vt vst vd vs1 vs2 un zX zV zO zM zS u1 s.1 s.2), (bX11_moves_187_zV c vl vt vst vd vs1 vs2 un zX zV zO zM zS u1 s.1 s.2))
theorem Nm_eq : ∀ (f : Nat) (s : Int32 × (Nat → Int32)), NX11_moves_187 c vl vt vst vd vs1 vs2 un zX zV zO zM zS u1 f s = NR (tm c vl vt vst vd vs1 vs2 un zX zV zO zM zS u1) (bm c vl vt vst vd vs1 vs2 un zX zV zO zM zS u1) f s
  | 0, _ => rfl
  | f + 1, s => by
    rw [NX11_moves_187, NR, Nm_eq f]; rfl
theorem Lm_eq : ∀ (f : Nat) (s : Int32 × (Nat → Int32)), LX11_moves_187 c vl vt vst vd vs1 vs2 un zX zV zO zM zS u1 (NX11_moves_187 c vl vt vst vd vs1 vs2 un zX zV zO zM zS u1 f s) s = run (tm c vl vt vst vd vs1 vs2 un zX zV zO zM zS u1) (bm c vl vt vst vd vs1 vs2 un zX zV zO zM zS u1) f s
  | 0, _ => rfl
  | f + 1, s => by
    by_cases q : tm c vl vt vst vd vs1 vs2 un zX zV zO zM zS u1 s
    · have e1 : NX11_moves_187 c vl vt vst vd vs1 vs2 un zX zV zO zM zS u1 (f + 1) s = NX11_moves_187 c vl vt vst vd vs1 vs2 un zX zV zO zM zS u1 f (bm c vl vt vst vd vs1 vs2 un zX zV zO zM zS u1 s) + 1 := if_pos q
      have e2 : run (tm c vl vt vst vd vs1 vs2 un zX zV zO zM zS u1) (bm c vl vt vst vd vs1 vs2 un zX zV zO zM zS u1) (f + 1) s = run (tm c vl vt vst vd vs1 vs2 un zX zV zO zM zS u1) (bm c vl vt vst vd vs1 vs2 un zX zV zO zM zS u1) f (bm c vl vt vst vd vs1 vs2 un zX zV zO zM zS u1 s) := if_pos q
      rw [e1, e2, ← Lm_eq f]; rfl
    · have e1 : NX11_moves_187 c vl vt vst vd vs1 vs2 un zX zV zO zM zS u1 (f + 1) s = 0 := if_neg q
      have e2 : run (tm c vl vt vst vd vs1 vs2 un zX zV zO zM zS u1) (bm c vl vt vst vd vs1 vs2 un zX zV zO zM zS u1) (f + 1) s = s := if_neg q
      rw [e1, e2]; rfl
theorem Km_eq : ∀ (n : Nat) (s : Int32 × (Nat → Int32)), KX11_moves_187 c vl vt vst vd vs1 vs2 un zX zV zO zM zS u1 n s = KR (tm c vl vt vst vd vs1 vs2 un zX zV zO zM zS u1) (om c vl vt vst vd vs1 vs2 un zX zV zO zM zS u1) (bm c vl vt vst vd vs1 vs2 un zX zV zO zM zS u1) n s
  | 0, _ => rfl
  | n + 1, s => by rw [KX11_moves_187, KR, Km_eq n]; rfl
end MB
theorem port_mask {st vl d s1 s2 : Nat} {x z w m zX zS : Nat → Int32} (hd : d < 32) (hv128 : vl ≤ 128) (hst : st < 128) (h0 : Sy x z) (hM : SyM w m) {bs str isS isM isX : Int32} {c : Int64} {sp xf xe : Int32} {xl : Int64} {vt un u1 mo tt : Int32}
    (hmo : mo = fX11_isMaskOpen vt) (hS : isS = 0 ↔ ¬ u1 = 0) (hmu : isM = 0 ↔ ¬ un = 0) (hM0 : isM = 0) (hP : SyP sp zS)
    (haddr : ∀ i xx, fX7_addressOf bs str isX xx xf xe xl (nI i) = eX11_walks_80 (nI s1) (nI s2) zX z 1 0 (nI i)) (tr : Int32) :
    PO vl (fX7_transfer bs str ((nI vl + 7) / 8) isS isM isX 0 (nI st) c mo x sp w (nI d) (nI 8) (fX10_ones (nI 8)) xf xe xl (nI 0) (nI 1) (fX10_ones (nI 1)))
      (fX7_transfer__r_length bs str ((nI vl + 7) / 8) isS isM isX 0 (nI vl) (nI st) c mo x sp w (nI d) (nI 8) (fX10_ones (nI 8)) xf xe xl (nI 0) (nI 1) (fX10_ones (nI 1)))
      (fX7_transfer__r_start bs str ((nI vl + 7) / 8) isS isM isX 0 (nI st) c mo x sp w (nI d) (nI 8) (fX10_ones (nI 8)) xf xe xl (nI 0) (nI 1) (fX10_ones (nI 1)))
      (fX7_transfer__o_trapAddress bs str ((nI vl + 7) / 8) isS isM isX 0 tr (nI st) c mo x sp w (nI d) (nI 8) (fX10_ones (nI 8)) xf xe xl (nI 0) (nI 1) (fX10_ones (nI 1)))
      (fX7_transfer__xV bs str ((nI vl + 7) / 8) isS isM isX 0 1 (nI st) c tt mo x sp w (nI d) (nI 8) (nI 1) (fX10_ones (nI 8)) xf xe xl (nI 0) (nI 1) (fX10_ones (nI 1)))
      (fX7_transfer__xW bs str ((nI vl + 7) / 8) isS isM isX 0 (nI st) c mo x sp w (nI d) (nI 8) (fX10_ones (nI 8)) xf xe xl (nI 0) (nI 1) (fX10_ones (nI 1)))
      (if nI st < (nI vl + 7) / 8 then eX11_moves_181 c (nI vl) vt (nI st) (nI d) (nI s1) (nI s2) un zX z z m zS u1 else 0)
      (if nI st < (nI vl + 7) / 8 then fX11_walks__m_vl c (nI vl) vt (nI st) (nI d) (nI s1) (nI s2) un zX z z m zS u1 8 ((nI vl + 7) / 8) 1 1 0 0 else nI vl)
      (if nI st < (nI vl + 7) / 8 then fX11_walks__m_vstart c vt (nI st) (nI d) (nI s1) (nI s2) un zX z z m zS u1 8 ((nI vl + 7) / 8) 1 1 0 0 else nI st)
      (if nI st < (nI vl + 7) / 8 then fX11_walks__m_trapAddress c vt (nI st) tr (nI d) (nI s1) (nI s2) un zX z z m zS u1 8 ((nI vl + 7) / 8) 1 1 0 0 else tr)
      (if nI st < (nI vl + 7) / 8 then (LX11_moves_187 c (nI vl) vt (nI st) (nI d) (nI s1) (nI s2) un zX z z m zS u1 (NX11_moves_187 c (nI vl) vt (nI st) (nI d) (nI s1) (nI s2) un zX z z m zS u1 20 (((nI vl + 7) / 8), (fX11_walks__zV c vt (nI st) (nI d) (nI s1) (nI s2) un zX z z m zS u1 8 ((nI vl + 7) / 8) 1 1 0))) (((nI vl + 7) / 8), (fX11_walks__zV c vt (nI st) (nI d) (nI s1) (nI s2) un zX z z m zS u1 8 ((nI vl + 7) / 8) 1 1 0))).2 else z)
      (if nI st < (nI vl + 7) / 8 then fX11_walks__zM c vt (nI st) (nI d) (nI s1) (nI s2) un zX z z m zS u1 8 ((nI vl + 7) / 8) 1 1 0 else m) := by
  have hto : (nI vl + 7) / 8 = nI ((vl + 7) / 8) := by rw [show (7 : Int32) = nI 7 by decide, nI_add, nI8, pk_div (by omega) (by decide) (by decide)]
  have h8 : okB 8 := Or.inl rfl
  rw [hto]
  unfold eX11_moves_181
  rw [hto]
  rw [show (8 : Int32) = nI 8 from nI8]
  generalize hT : (vl + 7) / 8 = to at *
  have hto2 : to ≤ 16 := by omega
  rcases Nat.lt_or_ge st to with q | q
  · have q1 : nI st < nI to := nI_lt q (by omega)
    simp only [if_pos q1]
    obtain ⟨e, x2, w2, z2, m2, a1, a2, a3, a4, a5, a6, a7⟩ := walk_sync (W := 8) (st := st) (to := to) (d := d) (s1 := s1) (s2 := s2) (u5 := 1) (c := c) (vt := vt) (u1 := u1) (u4 := 1) (u7 := 0) h8 (by omega) h0 hM (by omega) (by omega) hmo hS hmu (fun _ => hM0) hP (fun _ _ _ _ _ w => absurd hM0 w) (fun i xx _ _ _ => haddr i xx)
    obtain ⟨b1, b2, b3, b4, b5, b6, b7, b8, b9, b10, b11⟩ := tr_end (g := 1) (u6 := 0) q (by omega) a2 0 1 tt tr 0 (nI vl) Iff.rfl a3 a4 a7
    have hE : fX11_walks c vt (nI st) (nI d) (nI s1) (nI s2) un zX z z m zS u1 (nI 8) (nI to) 1 1 0 0 = 0 → e = to := by
      intro hz
      rcases (b10 hz).1 with ⟨h1, h2⟩ | ⟨h1, _⟩
      · exact h1
      · exact absurd rfl h1
    refine ⟨b1, b2, b3, b4, ?_, ?_, ?_, ?_⟩
    · rw [b8, b7, Lm_eq]
      by_cases hw : fX11_walks c vt (nI st) (nI d) (nI s1) (nI s2) un zX z z m zS u1 (nI 8) (nI to) 1 1 0 0 = 0
      · rw [if_pos hw, hE hw]
        by_cases qS : isS = 0
        · have qu := hS.mp qS
          rw [if_pos qS]
          have he181 : eX11_moves_181 c (nI vl) vt (nI st) (nI d) (nI s1) (nI s2) un zX z z m zS u1 = 0 := by
            unfold eX11_moves_181
            rw [hto]; exact hw
          have h16 : ∀ i, i < 16 → ¬ (16 : Int32) ≤ nI i := fun i hi => by rw [show (16 : Int32) = nI 16 from nI16]; exact nI_ge hi (by decide)
          rw [run_itr (tm c (nI vl) vt (nI st) (nI d) (nI s1) (nI s2) un zX z z m zS u1) (bm c (nI vl) vt (nI st) (nI d) (nI s1) (nI s2) un zX z z m zS u1) (fun k s => fX11_open__zV c s (nI d) (nI 8) (nI k)) 16 (by
            intro i s hi
            unfold tm tX11_moves_187
            rw [if_neg (h16 i hi), if_neg qu, if_pos he181]; exact True.intro) (by
            intro s
            unfold tm tX11_moves_187
            rw [if_pos (show (16 : Int32) ≤ nI 16 by decide)]; exact id) (by
            intro i s hi
            unfold bm bX11_moves_187_L7 bX11_moves_187_zV
            simp only [if_neg (h16 i hi), if_neg qu, if_pos he181]
            rw [show (1 : Int32) = nI 1 by decide, nI_add]; rfl) (16 - to) to 20 z2 (by omega) (by omega)]
          unfold fX2_leaveTail__xV rX2_leaveTail_18__xV
          have hc := cap_nI (e := 8) (g := 1) (by decide) (by decide) (by decide)
          rw [if_neg (by decide), hc, cnt_nI (by omega) (by omega), itX2_leaveTail_26 (b9 := 1 * 128 / 8) _ _ _ _ _ hc (by decide) (1 * 128 / 8 - to) to x2 (by omega), show 1 * 128 / 8 - to = 16 - to by omega]
          exact itr_rel (fun _ x z => Sy x z) _ _ (16 - to) to x2 z2 (fun i x z h1 h2 h3 => h3.opn h8 (by omega) c) a5
        · have qu : u1 = 0 := Classical.byContradiction (fun w => qS (hS.mpr w))
          rw [if_neg qS]
          have hn : ¬ tm c (nI vl) vt (nI st) (nI d) (nI s1) (nI s2) un zX z z m zS u1 (nI to, z2) := by
            unfold tm tX11_moves_187
            rw [if_pos qu, ite_self]; exact id
          have e1 : run (tm c (nI vl) vt (nI st) (nI d) (nI s1) (nI s2) un zX z z m zS u1) (bm c (nI vl) vt (nI st) (nI d) (nI s1) (nI s2) un zX z z m zS u1) 20 (nI to, z2) = (nI to, z2) := if_neg hn
          rw [e1]; exact a5
      · rw [if_neg hw]
        have he181 : ¬ eX11_moves_181 c (nI vl) vt (nI st) (nI d) (nI s1) (nI s2) un zX z z m zS u1 = 0 := by
          unfold eX11_moves_181
          rw [hto]; exact hw
        have hn : ¬ tm c (nI vl) vt (nI st) (nI d) (nI s1) (nI s2) un zX z z m zS u1 (nI to, z2) := by
          unfold tm tX11_moves_187
          rw [if_neg he181, ite_self, ite_self]; exact id
        have e1 : run (tm c (nI vl) vt (nI st) (nI d) (nI s1) (nI s2) un zX z z m zS u1) (bm c (nI vl) vt (nI st) (nI d) (nI s1) (nI s2) un zX z z m zS u1) 20 (nI to, z2) = (nI to, z2) := if_neg hn
        rw [e1]; exact a5
    · rw [b5, b6]; exact a6
    · rcases b9 with h | h
      · rcases (b10 h).1 with ⟨h1, h2⟩ | ⟨h1, _⟩
        · exact ⟨vl, st, h2, Nat.le_refl _, (b10 h).2, hst⟩
        · exact absurd rfl h1
      · obtain ⟨h1, h2, h3⟩ := b11 h
        exact ⟨vl, e, h2, Nat.le_refl _, h3, by omega⟩
    · rcases b9 with h | h
      · exact Or.inl h
      · exact Or.inr (Or.inr h)
  · have q1 : ¬ nI st < nI to := nI_nlt q (by omega)
    simp only [if_neg q1]
    obtain ⟨e1, e2, e3, e4, e5, e6⟩ := tr_stop (bs := bs) (str := str) (isS := isS) (isM := isM) (isX := isX) (isF := 0) (isB := 1) (c := c) (mo := mo) (sp := sp) (df := nI d) (de := nI 8) (dg := nI 1) (dl := fX10_ones (nI 8)) (xf := xf) (xe := xe) (xl := xl) (mf := nI 0) (me := nI 1) (ml := fX10_ones (nI 1)) (x := x) (w := w) (tt := tt) (tr := tr) (vl0 := nI vl) (st := st) (to := to) (by omega) q
    rw [e1, e2, e3, e4, e5, e6]
    exact PO.same hst h0 hM tr (Or.inl rfl)
