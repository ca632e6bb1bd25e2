/-! ===== transfer and walks: whole runs in step ===== -/
theorem transfer_ok {W to st g : Nat} (hW : okB W) (hto : to ≤ 128) (hst : st < 128) (hg : g ≤ 8) (bs str isS isM isX isF : Int32) (c : Int64) (mo sp df : Int32) (x w : Nat → Int32) (dl : Int64) (xf xe : Int32) (xl : Int64) (mf me : Int32) (ml : Int64) : okX7_transfer bs str (nI to) isS isM isX isF (nI st) c mo x sp w df (nI W) (nI g) dl xf xe xl mf me ml := by
  have hle := hW.le
  unfold okX7_transfer eX7_transfer_119
  rw [L7_eq, K7_eq, N7_eq]
  by_cases qs : nI st < nI to
  · have qs2 : st < to := Classical.byContradiction (fun q => absurd qs (nI_nlt (by omega) (by omega)))
    obtain ⟨e, a1, a2, a3, a4, a5⟩ := run_rel (fun i s t => s.1 = nI i ∧ s = t) (t7 bs str (nI to) isM isX sp (nI W) xf xe xl mf me ml) (b7 bs str (nI to) isS isM isX c mo sp df (nI W) dl xf xe xl mf me ml) (t7 bs str (nI to) isM isX sp (nI W) xf xe xl mf me ml) (b7 bs str (nI to) isS isM isX c mo sp df (nI W) dl xf xe xl mf me ml) to (by
      intro i s t hi ⟨h1, h2⟩
      subst h2
      exact ⟨Iff.rfl, fun q => ⟨b7_next h1 q, rfl⟩⟩) (by
      intro s t ⟨h1, h2⟩
      subst h2
      exact ⟨t7_end (by rw [h1]; exact Int32.le_refl _), t7_end (by rw [h1]; exact Int32.le_refl _)⟩) (to - st) st 200 200 (nI st, x, w) (nI st, x, w) (by omega) (by omega) (by omega) ⟨rfl, rfl⟩
    have hK := run_K (fun i s => s.1 = nI i) (t7 bs str (nI to) isM isX sp (nI W) xf xe xl mf me ml) (o7 bs str (nI to) isS isM isX c mo sp df (nI W) dl xf xe xl mf me ml) (b7 bs str (nI to) isS isM isX c mo sp df (nI W) dl xf xe xl mf me ml) to (fun i s hi h q => ⟨o7_all _ _ _ _ _ _ _ _ _ _ hW _ _ _ _ _ _ _ s, b7_next h q⟩) (fun s h => t7_end (by rw [h]; exact Int32.le_refl _)) 200 st (nI st, x, w) (by omega) rfl
    have a6 := a3.1
    generalize run (t7 bs str (nI to) isM isX sp (nI W) xf xe xl mf me ml) (b7 bs str (nI to) isS isM isX c mo sp df (nI W) dl xf xe xl mf me ml) 200 (nI st, x, w) = G at *
    rw [a6]
    have ht1 : ∀ y, okX2_leaveTail df (nI W) (nI g) dl c y (nI to) := fun y => ok_leaveTail df (by omega) (by omega) hg (by omega) dl c y
    have ht2 : ∀ y, okX2_leaveTail df (nI W) (nI g) dl c y (nI e) := fun y => ok_leaveTail df (by omega) (by omega) hg (by omega) dl c y
    rw [← a6]
    rw [← a6] at ht2
    exact ⟨fun _ => hK, fun _ => a4, fun _ _ _ => ht1 _, fun _ _ _ _ => ok_el _ _ _, fun _ _ _ _ _ _ _ => ht2 _, fun _ _ _ _ _ => ok_el _ _ _, fun _ _ _ _ _ => ok_el _ _ _, fun _ _ _ _ => ok_move _ _ _ _ hW _ _ _, fun _ _ _ => ok_el _ _ _, fun _ _ _ _ _ _ => ok_lo _ _ _ _, fun _ _ _ _ _ => ok_el _ _ _, fun _ _ _ _ _ _ _ _ => ht2 _, fun _ _ _ _ _ _ => ok_el _ _ _, fun _ _ _ _ _ _ => ok_el _ _ _, fun _ _ _ _ _ => ok_move _ _ _ _ hW _ _ _⟩
  · exact ⟨fun w => absurd w qs, fun w => absurd w qs, fun w => absurd w qs, fun w => absurd w qs, fun w => absurd w qs, fun w => absurd w qs, fun w => absurd w qs, fun w => absurd w qs, fun w => absurd w qs, fun w => absurd w qs, fun w => absurd w qs, fun w => absurd w qs, fun w => absurd w qs, fun w => absurd w qs, fun w => absurd w qs⟩
/-- what the class's loop keeps -/
def Jv (d W st : Nat) (z x : Nat → Int32) (isS : Int32) (i : Nat) (xx : Nat → Int32) : Prop := Iv (d * 128) W st z i xx ∧ (¬ isS = 0 → xx = x)
theorem walk_sync {W st to d s1 s2 : Nat} {x z w m zX zS : Nat → Int32} (hW : okB W) (hB : to * W + d * 128 ≤ 4096) (h0 : Sy x z) (hM : SyM w m) (hst : st ≤ to) (hto : to ≤ 128) {bs str isS isM isX : Int32} {c : Int64} {mo sp xf xe : Int32} {xl : Int64} {vt un u1 u4 u5 u7 : Int32}
    (hmo : mo = fX11_isMaskOpen vt) (hS : isS = 0 ↔ ¬ u1 = 0) (hmu : isM = 0 ↔ ¬ un = 0) (h5 : ¬ u5 = 0 → isM = 0) (hP : SyP sp zS)
    (hmask : ∀ i xx, st ≤ i → i < to → Jv d W st z x isS i xx → ¬ isM = 0 → fX2_element (nI 0) (nI 1) (fX10_ones (nI 1)) xx (nI i) = if fX11_bit z (0 : Int32) (nI i) = 0 then 0 else 1)
    (haddr : ∀ i xx, st ≤ i → i < to → Jv d W st z x isS i xx → fX7_addressOf bs str isX xx xf xe xl (nI i) = eX11_walks_80 (nI s1) (nI s2) zX z u4 u7 (nI i)) :
    ∃ e x2 w2 z2 m2, st ≤ e ∧ e ≤ to ∧ LX7_transfer_24 bs str (nI to) isS isM isX c mo sp (nI d) (nI W) (fX10_ones (nI W)) xf xe xl (nI 0) (nI 1) (fX10_ones (nI 1)) (NX7_transfer_24 bs str (nI to) isS isM isX c mo sp (nI d) (nI W) (fX10_ones (nI W)) xf xe xl (nI 0) (nI 1) (fX10_ones (nI 1)) 200 (nI st, x, w)) (nI st, x, w) = (nI e, x2, w2) ∧ LX11_walks_6 c vt (nI d) (nI s1) (nI s2) un zX z zS u1 (nI W) (nI to) u4 u5 u7 (NX11_walks_6 c vt (nI d) (nI s1) (nI s2) un zX z zS u1 (nI W) (nI to) u4 u5 u7 600 (nI st, z, m)) (nI st, z, m) = (nI e, z2, m2) ∧ Sy x2 z2 ∧ SyM w2 m2 ∧ (e < to → fX7_addressOf bs str isX x2 xf xe xl (nI e) = eX11_walks_80 (nI s1) (nI s2) zX z u4 u7 (nI e)) := by
  rw [L7_eq, Lw_eq]
  obtain ⟨e, a1, a2, a3, a4, a5⟩ := run_rel (fun i s t => st ≤ i ∧ s.1 = nI i ∧ t.1 = nI i ∧ Rl (d * 128) W st z i s.2.1 t.2.1 ∧ SyM s.2.2 t.2.2 ∧ (¬ isS = 0 → s.2.1 = x ∧ t.2.1 = z)) (t7 bs str (nI to) isM isX sp (nI W) xf xe xl (nI 0) (nI 1) (fX10_ones (nI 1))) (b7 bs str (nI to) isS isM isX c mo sp (nI d) (nI W) (fX10_ones (nI W)) xf xe xl (nI 0) (nI 1) (fX10_ones (nI 1))) (tw (nI s1) (nI s2) un zX z zS (nI W) (nI to) u4 u5 u7) (bw c vt (nI d) (nI s1) (nI s2) un zX z zS u1 (nI W) (nI to) u4 u5 u7) to (by
    intro i s t hi ⟨k0, k1, k2, k3, k4, k5⟩
    obtain ⟨si, xx, ww⟩ := s
    obtain ⟨ti, zz, mm⟩ := t
    dsimp only at k1 k2 k3 k4 k5
    subst k1; subst k2
    have hJ : Jv d W st z x isS i xx := ⟨k3.2, fun q => (k5 q).1⟩
    obtain ⟨r1, r2⟩ := walk_step (c := c) hW hB h0 k0 hi hto hmo hS hmu h5 hP k3 k4 k5 (hmask i xx k0 hi hJ) (haddr i xx k0 hi hJ)
    refine ⟨r1, fun q => ?_⟩
    obtain ⟨x2, w2, z2, m2, e1, e2, e3, e4, e5⟩ := r2 q
    rw [e1, e2]
    exact ⟨by omega, rfl, rfl, e3, e4, e5⟩) (by
    intro s t ⟨k0, k1, k2, _⟩
    exact ⟨t7_end (by rw [k1]; exact Int32.le_refl _), tw_end (by rw [k2]; exact Int32.le_refl _)⟩) (to - st) st 200 600 (nI st, x, w) (nI st, z, m) (by omega) (by omega) (by omega) ⟨Nat.le_refl _, rfl, rfl, ⟨h0, Iv.start h0⟩, hM, fun _ => ⟨rfl, rfl⟩⟩
  generalize run (t7 bs str (nI to) isM isX sp (nI W) xf xe xl (nI 0) (nI 1) (fX10_ones (nI 1))) (b7 bs str (nI to) isS isM isX c mo sp (nI d) (nI W) (fX10_ones (nI W)) xf xe xl (nI 0) (nI 1) (fX10_ones (nI 1))) 200 (nI st, x, w) = G at *
  generalize run (tw (nI s1) (nI s2) un zX z zS (nI W) (nI to) u4 u5 u7) (bw c vt (nI d) (nI s1) (nI s2) un zX z zS u1 (nI W) (nI to) u4 u5 u7) 600 (nI st, z, m) = H at *
  obtain ⟨g1, g2, g3⟩ := G
  obtain ⟨m1, m2, m3⟩ := H
  obtain ⟨k0, k1, k2, k3, k4, k5⟩ := a3
  dsimp only at k1 k2 k3 k4 k5
  subst k1; subst k2
  exact ⟨e, g2, g3, m2, m3, k0, a2, rfl, rfl, k3.1, k4, fun q => haddr e g2 k0 q ⟨k3.2, fun q => (k5 q).1⟩⟩
/-- the answers behind the loops -/
theorem tr_end {W st to d s1 s2 g e : Nat} {x w x2 w2 z m z2 m2 zX zS : Nat → Int32} {bs str isS isM isX : Int32} {c : Int64} {mo sp xf xe : Int32} {xl : Int64} {vt un u1 u4 u5 u7 : Int32} (hst : st < to) (hto : to ≤ 128) (he : e ≤ to) (isF isB tt tr rl vl0 : Int32) {u6 : Int32} (hF : isF = 0 ↔ u6 = 0)
    (hL : LX7_transfer_24 bs str (nI to) isS isM isX c mo sp (nI d) (nI W) (fX10_ones (nI W)) xf xe xl (nI 0) (nI 1) (fX10_ones (nI 1)) (NX7_transfer_24 bs str (nI to) isS isM isX c mo sp (nI d) (nI W) (fX10_ones (nI W)) xf xe xl (nI 0) (nI 1) (fX10_ones (nI 1)) 200 (nI st, x, w)) (nI st, x, w) = (nI e, x2, w2)) (hH : LX11_walks_6 c vt (nI d) (nI s1) (nI s2) un zX z zS u1 (nI W) (nI to) u4 u5 u7 (NX11_walks_6 c vt (nI d) (nI s1) (nI s2) un zX z zS u1 (nI W) (nI to) u4 u5 u7 600 (nI st, z, m)) (nI st, z, m) = (nI e, z2, m2)) (ha : e < to → fX7_addressOf bs str isX x2 xf xe xl (nI e) = eX11_walks_80 (nI s1) (nI s2) zX z u4 u7 (nI e)) :
    fX7_transfer bs str (nI to) isS isM isX isF (nI st) c mo x sp w (nI d) (nI W) (fX10_ones (nI W)) xf xe xl (nI 0) (nI 1) (fX10_ones (nI 1)) = fX11_walks c vt (nI st) (nI d) (nI s1) (nI s2) un zX z z m zS u1 (nI W) (nI to) u4 u5 u6 u7 ∧
    fX7_transfer__r_length bs str (nI to) isS isM isX isF vl0 (nI st) c mo x sp w (nI d) (nI W) (fX10_ones (nI W)) xf xe xl (nI 0) (nI 1) (fX10_ones (nI 1)) = fX11_walks__m_vl c vl0 vt (nI st) (nI d) (nI s1) (nI s2) un zX z z m zS u1 (nI W) (nI to) u4 u5 u6 u7 ∧
    fX7_transfer__r_start bs str (nI to) isS isM isX isF (nI st) c mo x sp w (nI d) (nI W) (fX10_ones (nI W)) xf xe xl (nI 0) (nI 1) (fX10_ones (nI 1)) = fX11_walks__m_vstart c vt (nI st) (nI d) (nI s1) (nI s2) un zX z z m zS u1 (nI W) (nI to) u4 u5 u6 u7 ∧
    fX7_transfer__o_trapAddress bs str (nI to) isS isM isX isF tr (nI st) c mo x sp w (nI d) (nI W) (fX10_ones (nI W)) xf xe xl (nI 0) (nI 1) (fX10_ones (nI 1)) = fX11_walks__m_trapAddress c vt (nI st) tr (nI d) (nI s1) (nI s2) un zX z z m zS u1 (nI W) (nI to) u4 u5 u6 u7 ∧
    fX7_transfer__xW bs str (nI to) isS isM isX isF (nI st) c mo x sp w (nI d) (nI W) (fX10_ones (nI W)) xf xe xl (nI 0) (nI 1) (fX10_ones (nI 1)) = w2 ∧
    fX11_walks__zM c vt (nI st) (nI d) (nI s1) (nI s2) un zX z z m zS u1 (nI W) (nI to) u4 u5 u7 = m2 ∧
    fX11_walks__zV c vt (nI st) (nI d) (nI s1) (nI s2) un zX z z m zS u1 (nI W) (nI to) u4 u5 u7 = z2 ∧
    fX7_transfer__xV bs str (nI to) isS isM isX isF isB (nI st) c tt mo x sp w (nI d) (nI W) (nI g) (fX10_ones (nI W)) xf xe xl (nI 0) (nI 1) (fX10_ones (nI 1)) = (if fX11_walks c vt (nI st) (nI d) (nI s1) (nI s2) un zX z z m zS u1 (nI W) (nI to) u4 u5 u6 u7 = 0 then (if isS = 0 then fX2_leaveTail__xV (nI d) (nI W) (nI g) (fX10_ones (nI W)) c x2 tt (nI e) isB else x2) else x2) ∧
    (fX11_walks c vt (nI st) (nI d) (nI s1) (nI s2) un zX z z m zS u1 (nI W) (nI to) u4 u5 u6 u7 = 0 ∨ fX11_walks c vt (nI st) (nI d) (nI s1) (nI s2) un zX z z m zS u1 (nI W) (nI to) u4 u5 u6 u7 = 2) ∧
    (fX11_walks c vt (nI st) (nI d) (nI s1) (nI s2) un zX z z m zS u1 (nI W) (nI to) u4 u5 u6 u7 = 0 → (e = to ∧ fX11_walks__m_vl c vl0 vt (nI st) (nI d) (nI s1) (nI s2) un zX z z m zS u1 (nI W) (nI to) u4 u5 u6 u7 = vl0 ∨ (¬ u6 = 0 ∧ fX11_walks__m_vl c vl0 vt (nI st) (nI d) (nI s1) (nI s2) un zX z z m zS u1 (nI W) (nI to) u4 u5 u6 u7 = nI e)) ∧ fX11_walks__m_vstart c vt (nI st) (nI d) (nI s1) (nI s2) un zX z z m zS u1 (nI W) (nI to) u4 u5 u6 u7 = nI st) ∧
    (fX11_walks c vt (nI st) (nI d) (nI s1) (nI s2) un zX z z m zS u1 (nI W) (nI to) u4 u5 u6 u7 = 2 → e < to ∧ fX11_walks__m_vl c vl0 vt (nI st) (nI d) (nI s1) (nI s2) un zX z z m zS u1 (nI W) (nI to) u4 u5 u6 u7 = vl0 ∧ fX11_walks__m_vstart c vt (nI st) (nI d) (nI s1) (nI s2) un zX z z m zS u1 (nI W) (nI to) u4 u5 u6 u7 = nI e) := by
  have hs : nI st < nI to := nI_lt hst (by omega)
  unfold fX7_transfer fX7_transfer__r_length fX7_transfer__r_start fX7_transfer__o_trapAddress fX7_transfer__xW fX7_transfer__xV fX11_walks fX11_walks__m_vl fX11_walks__m_vstart fX11_walks__m_trapAddress fX11_walks__zM fX11_walks__zV rX7_transfer_125 rX7_transfer_125__r_length rX7_transfer_125__r_start rX7_transfer_125__o_trapAddress rX7_transfer_125__xW rX7_transfer_125__xV pX7_transfer_172_xV pX7_transfer_172_xV_2 eX7_transfer_114 eX7_transfer_119 eX7_transfer_130 eX7_transfer_139 eX11_walks_116 eX11_walks_122 eX11_walks_108
  simp only [hL, hH, if_pos hs]
  have d2 : ¬ (2 : Int32) = 0 := by decide
  have d02 : ¬ (0 : Int32) = 2 := by decide
  rcases Nat.lt_or_ge e to with q | q
  · have q1 : ¬ nI to ≤ nI e := nI_ge q (by omega)
    have ha := ha q
    simp only [if_neg q1, ite_self, ha]
    by_cases f : isF = 0
    · have f6 := hF.mp f
      simp only [if_pos f, if_pos f6, ite_self]
      simp [d2, q]
    · have f6 : ¬ u6 = 0 := fun w => f (hF.mpr w)
      simp only [if_neg f, if_neg f6, ite_self]
      by_cases z0 : nI e ≤ 0
      · simp [z0, d2, q]
      · simp [z0, d02, f6]
  · have q1 : nI to ≤ nI e := nI_le q (by omega)
    have : e = to := by omega
    subst this
    simp [d02]
