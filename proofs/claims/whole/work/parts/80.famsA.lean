/-! ===== families, in whole ===== -/
def HY (S E L st d s1 s2 md : Nat) (F im un tb : Int32) (x z xS zX : Nat → Int32) : Prop := (S, E) ∈ PE ∧ okB S ∧ S ∈ eews ∧ 2 * S ∈ eews ∧ d < 32 ∧ s1 < 32 ∧ s2 < 32 ∧ L ≤ 16 * E / S ∧ L ≤ 128 ∧ st < 128 ∧ md < 4 ∧ okF F ∧ (im = 0 ↔ ¬ un = 0) ∧ fX9_isIll tb = 0 ∧ narrow .boolean (.int im) = .int im ∧ Sy x z ∧ SX xS zX ∧ fX11_registers (nI E) = nI (gN S E S) ∧ gE S E S = E
def WO (b a : Int32) (x' z' : Nat → Int32) (s' v' : Int32) (xS' zX' : Nat → Int32) : Prop := a = (if b = 0 then 1 else 0) ∧ Sy x' z' ∧ s' = v' ∧ SX xS' zX'
theorem WO_gen {P : Prop} {a b s' Rs sat v' : Int32} {x' R x z' xS' zX' : Nat → Int32} (h : (P ∧ a = 0 ∧ x' = R ∧ s' = Rs) ∨ (¬ P ∧ a = 1 ∧ x' = x ∧ s' = sat)) (hX : SX xS' zX') (h1 : P → ¬ b = 0 ∧ Sy R z' ∧ Rs = v') (h0 : ¬ P → b = 0 ∧ Sy x z' ∧ sat = v') : WO b a x' z' s' v' xS' zX' := by
  rcases h with ⟨p, e1, e2, e3⟩ | ⟨p, e1, e2, e3⟩
  · obtain ⟨k1, k2, k3⟩ := h1 p
    exact ⟨by rw [e1, if_neg k1], by rw [e2]; exact k2, by rw [e3]; exact k3, hX⟩
  · obtain ⟨k1, k2, k3⟩ := h0 p
    exact ⟨by rw [e1, if_pos k1], by rw [e2]; exact k2, by rw [e3]; exact k3, hX⟩
theorem go_Sy {L st : Nat} (hL : L ≤ 128) (hst : st < 128) {R x z T : Nat → Int32} {Rs sat : Int32} (h0 : Sy x z) (hs : L ≤ st → R = x ∧ Rs = sat) (hg : st < L → Sy R T ∧ Rs = sat) : Sy R (if fX11_goes (nI L) (nI st) = 0 then z else T) ∧ Rs = sat := by
  have he := goes_eq (vl := L) (st := st) (by omega) (by omega)
  rcases Nat.lt_or_ge st L with q | q
  · rw [if_neg (fun w => absurd (he.mp w) (by omega))]; exact hg q
  · rw [if_pos (he.mpr q), (hs q).1]; exact ⟨h0, (hs q).2⟩
theorem go_Sy2 {L st : Nat} (hL : L ≤ 128) (hst : st < 128) {R x z T : Nat → Int32} {Rs sat V : Int32} (h0 : Sy x z) (hs : L ≤ st → R = x ∧ Rs = sat) (hg : st < L → Sy R T ∧ Rs = V) : Sy R (if fX11_goes (nI L) (nI st) = 0 then z else T) ∧ Rs = (if fX11_goes (nI L) (nI st) = 0 then sat else V) := by
  have he := goes_eq (vl := L) (st := st) (by omega) (by omega)
  rcases Nat.lt_or_ge st L with q | q
  · have hn : ¬ fX11_goes (nI L) (nI st) = 0 := fun w => absurd (he.mp w) (by omega)
    rw [if_neg hn, if_neg hn]; exact hg q
  · rw [if_pos (he.mpr q), if_pos (he.mpr q), (hs q).1]; exact ⟨h0, (hs q).2⟩
theorem geo_d {S E dw d L : Nat} (hp : (S, E) ∈ PE) (hdw : dw ∈ eews) (hd : d < 32) (hLM : L ≤ 16 * E / S) (hl : legalG S E dw d = true) : d + gN S E dw ≤ 32 ∧ gN S E dw ≤ 8 ∧ 1 ≤ gN S E dw ∧ L * dw ≤ gN S E dw * 128 ∧ okB dw ∧ gE S E dw ≤ 64 ∧ d % gN S E dw = 0 := by
  obtain ⟨a1, a2, a3, a4, a5, a6⟩ := G3 hp hdw hd hl
  have hb : L * dw ≤ 16 * E / S * dw := Nat.mul_le_mul_right _ hLM
  refine ⟨a1, a4, a5, Nat.le_trans hb a3, okW.B a2, ?_, a6⟩
  unfold legalG at hl
  simp only [Bool.and_eq_true, decide_eq_true_eq] at hl
  exact hl.1.2
theorem geo {S E dw d e s L : Nat} (hp : (S, E) ∈ PE) (hdw : dw ∈ eews) (he : e ∈ eews) (hd : d < 32) (hs : s < 32) (hLM : L ≤ 16 * E / S) (hl : legalG S E dw d = true) (ho : okM S E dw d e s) : ovl d dw (gN S E dw) s e (gN S E e) ∧ s + gN S E e ≤ 32 ∧ ∀ st, Pos s e d dw st L := by
  obtain ⟨a1, a2, a3, a4, a5, a6, a7⟩ := geo_d hp hdw hd hLM hl
  obtain ⟨b1, b2, b3, b4, b5, b6, b7⟩ := geo_d hp he hs hLM ho.1
  have hv := over_ovl hp hdw he hd hs a6 ⟨a3, a2⟩ b2 a7 b7 ho.2
  refine ⟨hv, b1, fun st i _ hi => ?_⟩
  have e1 : i * dw + dw ≤ gN S E dw * 128 := mul_in hi a4
  have e2 : i * e + e ≤ gN S E e * 128 := mul_in hi b4
  exact ⟨by omega, ovl.pos hv e1 e2⟩
theorem geo_m {S E d s L : Nat} {k : Int32} (hap : fX4_staysApart k = 0) (hp : (S, E) ∈ PE) (hSe : S ∈ eews) (hs : s < 32) (hd : d < 32) (hLM : L ≤ 16 * E / S) (h : okS S E k 1 d S s) : s + gN S E S ≤ 32 ∧ ovl d 1 1 s S (gN S E S) := by
  obtain ⟨q1, q2⟩ := h
  unfold mtC at q2
  rw [if_pos hap, (gn_1 S E).1, (gn_e hSe).1, (gn_e hSe).2.1] at q2
  rw [(gn_e hSe).2.2] at q1
  obtain ⟨b1, b2, b3, b4, b5, b6, b7⟩ := geo_d hp hSe hs hLM q1
  exact ⟨b1, over_ovl1 hp hSe hd hs b2 q2⟩
theorem okC_A {S E dw d lw s2 rw s1 : Nat} {k F im : Int32} (hap : fX4_staysApart k = 0) (hdw : dw ∈ eews) (hk2 : ¬ k = 2) (hk4 : ¬ k = 4) (h : okC S E k F im d dw s2 lw s1 rw) : legalG S E dw d = true ∧ (¬ im = 0 → ¬ d = 0) ∧ (lw ∈ eews → okM S E dw d lw s2) ∧ (rw ∈ eews → ¬ pX4_cover_31_S2 F (nI rw) = 0 → okM S E dw d rw s1) := by
  obtain ⟨q1, q2, q3, q4⟩ := h
  rw [(gn_e hdw).2.2] at q1
  refine ⟨q1, fun w => ?_, fun w => (okS_M hap hdw w).mp (q3 (e_ne1 w).2), fun w w2 => (okS_M hap hdw w).mp (q4 w2)⟩
  rcases q2 with h | h | h | h
  · exact absurd h w
  · exact h
  · exact absurd h hk2
  · exact absurd h hk4
theorem alike_WO {S E L st d s1 s2 md : Nat} {F H im un tb : Int32} {x z xS zX : Nat → Int32} (h : HY S E L st d s1 s2 md F im un tb x z xS zX) {p : Int32} (hop : (fX3_operation F H, p) ∈ alT) (hk : fX1_kindOf F (nI s1) (nI s2) H im = 1) (vt sat : Int32) (c : Int64) (tm rf re r8 rg : Int32) (rl : Int64) :
    WO (fX11_alike (nI d) (nI s1) (nI s2) F (nI S) (nI E) un) (fX4_execute (nI st) tb (nI S) (nI E) rf re r8 rg (nI 0) (nI 1) F (nI d) (nI s1) (nI s2) H im) (fX4_execute__xV (nI L) (nI st) (nI md) sat c tb (nI S) (nI E) tm (fX11_isTailOpen vt) (fX11_isMaskOpen vt) xS x rf re r8 rg rl (nI 0) (nI 1) (nI 1) (fX10_ones (nI 1)) F (nI d) (nI s1) (nI s2) H im) (fX11_alike__zV c (nI L) vt (nI st) (nI md) sat (nI d) (nI s1) (nI s2) F (nI S) (nI E) un zX z z p) (fX4_execute__r_saturated (nI L) (nI st) (nI md) sat c tb (nI S) (nI E) tm (fX11_isMaskOpen vt) xS x rf re r8 rg rl (nI 0) (nI 1) (nI 1) (fX10_ones (nI 1)) F (nI d) (nI s1) (nI s2) H im) (fX11_alike__m_vxsat c (nI L) vt (nI st) (nI md) sat (nI d) (nI s1) (nI s2) F (nI S) (nI E) un zX z z p) (fX4_execute__xS (nI L) (nI st) tb (nI S) xS x (nI 0) (nI 1) (fX10_ones (nI 1)) F (nI d) (nI s1) (nI s2) H im) zX ∧ okX4_execute (nI L) (nI st) (nI md) sat c tb (nI S) (nI E) tm (fX11_isMaskOpen vt) xS x rf re r8 rg rl (nI 0) (nI 1) (nI 1) (fX10_ones (nI 1)) F (nI d) (nI s1) (nI s2) H im := by
  obtain ⟨hp, hS, hSe, h2e, hd, h1, h2, hLM, hL, hst, hmd, hF, hmu, hill, him, h0, hX, hreg, hE⟩ := h
  have cc := cond_A (F := F) (k := 1) hp hSe hSe hSe hd h1 h2 (by decide) (by decide) (by decide) hmu (Or.inl ⟨rfl, rfl⟩) (sec_B (F := F) (s1 := s1) hSe)
  have ex := ex_gen (dw := S) (lw := S) (rw := S) (tb := tb) hp (eE1 hSe) (eE1 hSe) (eE1 hSe) hd h1 h2 hL hst (cg1 hp hSe h2e _ _) hk (by decide) hill (Or.inr (by decide)) him (nI md) sat c tm (fX11_isTailOpen vt) (fX11_isMaskOpen vt) xS x rf re r8 rg rl
  rw [(gn_e hSe).1] at ex
  refine ⟨WO_gen ex.1 (by rw [ex.2.1]; exact hX) (fun q => ?_) (fun q => ?_), ex.2.2⟩
  · have hm := cc.mp q
    obtain ⟨q1, q2, q3, q4⟩ := okC_A (by decide) hSe (by decide) (by decide) q
    obtain ⟨a1, a2, a3, a4, a5, a6, a7⟩ := geo_d hp hSe hd hLM q1
    obtain ⟨v1, v2, v3⟩ := geo hp hSe hSe hd h2 hLM q1 (q3 hSe)
    refine ⟨by unfold fX11_alike; rw [if_neg hm]; decide, ?_⟩
    exact alike_fam hS hmd h0 hX h1 a2 hreg a1 v2 (v1.gp a3) a4 hL hst hF (hr_eq (eE1 hSe) (e_ne1 hSe).2) (fun w => ⟨(geo hp hSe hSe hd h1 hLM q1 (q4 hSe w)).2.1, (geo hp hSe hSe hd h1 hLM q1 (q4 hSe w)).1.gp a3⟩) hmu q2 hop 0 sat hm
  · have hm : fX11_mayBe (nI d) (nI S) (nI E) un (nI S) (nI s2) (nI S) (fX11_second (nI s1) F) (nI S) = 0 := Classical.byContradiction (fun w => q (cc.mpr w))
    unfold fX11_alike fX11_alike__zV fX11_alike__m_vxsat
    rw [if_pos hm, if_pos hm, if_pos hm]
    exact ⟨rfl, h0, rfl⟩
theorem compares_WO {S E L st d s1 s2 md : Nat} {F H im un tb : Int32} {x z xS zX : Nat → Int32} (h : HY S E L st d s1 s2 md F im un tb x z xS zX) {p : Int32} (hop : (fX3_operation F H, p) ∈ cmpT) (hk : fX1_kindOf F (nI s1) (nI s2) H im = 2) (vt sat : Int32) (c : Int64) (tm rf re r8 rg : Int32) (rl : Int64) :
    WO (fX11_compares (nI d) (nI s1) (nI s2) F (nI S) (nI E)) (fX4_execute (nI st) tb (nI S) (nI E) rf re r8 rg (nI 0) (nI 1) F (nI d) (nI s1) (nI s2) H im) (fX4_execute__xV (nI L) (nI st) (nI md) sat c tb (nI S) (nI E) tm (fX11_isTailOpen vt) (fX11_isMaskOpen vt) xS x rf re r8 rg rl (nI 0) (nI 1) (nI 1) (fX10_ones (nI 1)) F (nI d) (nI s1) (nI s2) H im) (fX11_compares__zV c (nI L) vt (nI st) (nI d) (nI s1) (nI s2) F (nI S) (nI E) un zX z z p) (fX4_execute__r_saturated (nI L) (nI st) (nI md) sat c tb (nI S) (nI E) tm (fX11_isMaskOpen vt) xS x rf re r8 rg rl (nI 0) (nI 1) (nI 1) (fX10_ones (nI 1)) F (nI d) (nI s1) (nI s2) H im) (sat) (fX4_execute__xS (nI L) (nI st) tb (nI S) xS x (nI 0) (nI 1) (fX10_ones (nI 1)) F (nI d) (nI s1) (nI s2) H im) zX ∧ okX4_execute (nI L) (nI st) (nI md) sat c tb (nI S) (nI E) tm (fX11_isMaskOpen vt) xS x rf re r8 rg rl (nI 0) (nI 1) (nI 1) (fX10_ones (nI 1)) F (nI d) (nI s1) (nI s2) H im := by
  obtain ⟨hp, hS, hSe, h2e, hd, h1, h2, hLM, hL, hst, hmd, hF, hmu, hill, him, h0, hX, hreg, hE⟩ := h
  have cc := cond_M (F := F) (d := d) (im := im) hp hSe h1 h2 (k := 2) (Or.inl rfl)
  have ex := ex_gen (dw := 1) (lw := S) (rw := S) (tb := tb) hp (by decide) (eE1 hSe) (eE1 hSe) hd h1 h2 hL hst (cg2 hp hSe h2e _ _) hk (by decide) hill (Or.inr (by decide)) him (nI md) sat c tm (fX11_isTailOpen vt) (fX11_isMaskOpen vt) xS x rf re r8 rg rl
  rw [(gn_1 S E).1] at ex
  refine ⟨WO_gen ex.1 (by rw [ex.2.1]; exact hX) (fun q => ?_) (fun q => ?_), ex.2.2⟩
  · have hm := cc.mp q
    refine ⟨by unfold fX11_compares; rw [if_neg hm]; decide, ?_⟩
    have g2 := q.2.2.1 (e_ne1 hSe).2
    obtain ⟨m1, m2⟩ := geo_m (k := 2) (by decide) hp hSe h2 hd hLM g2
    exact compares_fam (g := gN S E S) hS h0 hX h1 hd m1 (m2.gm (by have := hS.le; omega)) (geo_d hp hSe h2 hLM (by have := g2.1; rw [(gn_e hSe).2.2] at this; exact this)).2.2.2.1 hL hst hF (hr_eq (eE1 hSe) (e_ne1 hSe).2) (fun w => ⟨(geo_m (k := 2) (by decide) hp hSe h1 hd hLM (q.2.2.2 w)).1, (geo_m (k := 2) (by decide) hp hSe h1 hd hLM (q.2.2.2 w)).2.gm (by have := hS.le; omega)⟩) hmu hop 0 sat hm
  · have hm : fX11_mayBeMask (nI d) (nI S) (nI E) (nI s2) (nI S) (fX11_second (nI s1) F) (nI S) = 0 := Classical.byContradiction (fun w => q (cc.mpr w))
    unfold fX11_compares fX11_compares__zV
    rw [if_pos hm, if_pos hm]
    exact ⟨rfl, h0, rfl⟩
theorem adc_WO {S E L st d s1 s2 md : Nat} {F H im un tb : Int32} {x z xS zX : Nat → Int32} (h : HY S E L st d s1 s2 md F im un tb x z xS zX) (hun : un = 0) {u1 : Int32} (hop : (fX3_operation F H = 16 ∧ u1 = 0) ∨ (fX3_operation F H = 18 ∧ u1 = 1)) (hk : fX1_kindOf F (nI s1) (nI s2) H im = 3) (vt sat : Int32) (c : Int64) (tm rf re r8 rg : Int32) (rl : Int64) :
    WO (fX11_carries (nI d) (nI s1) (nI s2) F (nI S) (nI E) un 0) (fX4_execute (nI st) tb (nI S) (nI E) rf re r8 rg (nI 0) (nI 1) F (nI d) (nI s1) (nI s2) H im) (fX4_execute__xV (nI L) (nI st) (nI md) sat c tb (nI S) (nI E) tm (fX11_isTailOpen vt) (fX11_isMaskOpen vt) xS x rf re r8 rg rl (nI 0) (nI 1) (nI 1) (fX10_ones (nI 1)) F (nI d) (nI s1) (nI s2) H im) (fX11_carries__zV c (nI L) vt (nI st) (nI d) (nI s1) (nI s2) F (nI S) (nI E) un zX z z u1 0) (fX4_execute__r_saturated (nI L) (nI st) (nI md) sat c tb (nI S) (nI E) tm (fX11_isMaskOpen vt) xS x rf re r8 rg rl (nI 0) (nI 1) (nI 1) (fX10_ones (nI 1)) F (nI d) (nI s1) (nI s2) H im) (sat) (fX4_execute__xS (nI L) (nI st) tb (nI S) xS x (nI 0) (nI 1) (fX10_ones (nI 1)) F (nI d) (nI s1) (nI s2) H im) zX ∧ okX4_execute (nI L) (nI st) (nI md) sat c tb (nI S) (nI E) tm (fX11_isMaskOpen vt) xS x rf re r8 rg rl (nI 0) (nI 1) (nI 1) (fX10_ones (nI 1)) F (nI d) (nI s1) (nI s2) H im := by
  obtain ⟨hp, hS, hSe, h2e, hd, h1, h2, hLM, hL, hst, hmd, hF, hmu, hill, him, h0, hX, hreg, hE⟩ := h
  have cc := cond_A (F := F) (k := 3) hp hSe hSe hSe hd h1 h2 (by decide) (by decide) (by decide) hmu (Or.inl ⟨rfl, rfl⟩) (sec_B (F := F) (s1 := s1) hSe)
  have ex := ex_gen (dw := S) (lw := S) (rw := S) (tb := tb) hp (eE1 hSe) (eE1 hSe) (eE1 hSe) hd h1 h2 hL hst (cg3 hp hSe h2e _ _) hk (by decide) hill (Or.inr (by decide)) him (nI md) sat c tm (fX11_isTailOpen vt) (fX11_isMaskOpen vt) xS x rf re r8 rg rl
  rw [(gn_e hSe).1] at ex
  refine ⟨WO_gen ex.1 (by rw [ex.2.1]; exact hX) (fun q => ?_) (fun q => ?_), ex.2.2⟩
  · have hm := cc.mp q
    obtain ⟨q1, q2, q3, q4⟩ := okC_A (by decide) hSe (by decide) (by decide) q
    obtain ⟨a1, a2, a3, a4, a5, a6, a7⟩ := geo_d hp hSe hd hLM q1
    have him0 : ¬ im = 0 := fun w => hmu.mp w hun
    refine ⟨by unfold fX11_carries; rw [if_pos rfl, if_pos hun, if_neg hm]; decide, ?_⟩
    unfold fX11_carries__zV
    rw [if_pos rfl, if_pos hun, if_neg hm]
    unfold pX11_carries_271_zV
    rw [if_pos rfl]
    exact go_Sy hL hst h0 (fun w => cRun_stop (by omega) w) (fun w => adc_loop hS h0 hX h1 a2 hreg a1 a4 hL w hF (hr_eq (eE1 hSe) (e_ne1 hSe).2) ((geo hp hSe hSe hd h2 hLM q1 (q3 hSe)).2.2 st) (fun w => (geo hp hSe hSe hd h1 hLM q1 (q4 hSe w)).2.2 st) hun (q2 him0) hop 0 sat)
  · have hm : fX11_mayBe (nI d) (nI S) (nI E) un (nI S) (nI s2) (nI S) (fX11_second (nI s1) F) (nI S) = 0 := Classical.byContradiction (fun w => q (cc.mpr w))
    unfold fX11_carries fX11_carries__zV
    rw [if_pos rfl, if_pos rfl, if_pos hun, if_pos hun, if_pos hm, if_pos hm]
    exact ⟨rfl, h0, rfl⟩
theorem madc_WO {S E L st d s1 s2 md : Nat} {F H im un tb : Int32} {x z xS zX : Nat → Int32} (h : HY S E L st d s1 s2 md F im un tb x z xS zX) {u1 : Int32} (hop : (fX3_operation F H = 17 ∧ u1 = 0) ∨ (fX3_operation F H = 19 ∧ u1 = 1)) (hk : fX1_kindOf F (nI s1) (nI s2) H im = 4) (vt sat : Int32) (c : Int64) (tm rf re r8 rg : Int32) (rl : Int64) :
    WO (fX11_carries (nI d) (nI s1) (nI s2) F (nI S) (nI E) un 1) (fX4_execute (nI st) tb (nI S) (nI E) rf re r8 rg (nI 0) (nI 1) F (nI d) (nI s1) (nI s2) H im) (fX4_execute__xV (nI L) (nI st) (nI md) sat c tb (nI S) (nI E) tm (fX11_isTailOpen vt) (fX11_isMaskOpen vt) xS x rf re r8 rg rl (nI 0) (nI 1) (nI 1) (fX10_ones (nI 1)) F (nI d) (nI s1) (nI s2) H im) (fX11_carries__zV c (nI L) vt (nI st) (nI d) (nI s1) (nI s2) F (nI S) (nI E) un zX z z u1 1) (fX4_execute__r_saturated (nI L) (nI st) (nI md) sat c tb (nI S) (nI E) tm (fX11_isMaskOpen vt) xS x rf re r8 rg rl (nI 0) (nI 1) (nI 1) (fX10_ones (nI 1)) F (nI d) (nI s1) (nI s2) H im) (sat) (fX4_execute__xS (nI L) (nI st) tb (nI S) xS x (nI 0) (nI 1) (fX10_ones (nI 1)) F (nI d) (nI s1) (nI s2) H im) zX ∧ okX4_execute (nI L) (nI st) (nI md) sat c tb (nI S) (nI E) tm (fX11_isMaskOpen vt) xS x rf re r8 rg rl (nI 0) (nI 1) (nI 1) (fX10_ones (nI 1)) F (nI d) (nI s1) (nI s2) H im := by
  obtain ⟨hp, hS, hSe, h2e, hd, h1, h2, hLM, hL, hst, hmd, hF, hmu, hill, him, h0, hX, hreg, hE⟩ := h
  have cc := cond_M (F := F) (d := d) (im := im) hp hSe h1 h2 (k := 4) (Or.inr rfl)
  have ex := ex_gen (dw := 1) (lw := S) (rw := S) (tb := tb) hp (by decide) (eE1 hSe) (eE1 hSe) hd h1 h2 hL hst (cg4 hp hSe h2e _ _) hk (by decide) hill (Or.inr (by decide)) him (nI md) sat c tm (fX11_isTailOpen vt) (fX11_isMaskOpen vt) xS x rf re r8 rg rl
  rw [(gn_1 S E).1] at ex
  refine ⟨WO_gen ex.1 (by rw [ex.2.1]; exact hX) (fun q => ?_) (fun q => ?_), ex.2.2⟩
  · have hm := cc.mp q
    have g2 := q.2.2.1 (e_ne1 hSe).2
    have ps : ∀ s, s < 32 → okS S E 4 1 d S s → Pos s S d 1 st L := by
      intro s hs ho i _ hi
      obtain ⟨m1, m2⟩ := geo_m (k := 4) (by decide) hp hSe hs hd hLM ho
      have b4 := (geo_d hp hSe hs hLM (by have := ho.1; rw [(gn_e hSe).2.2] at this; exact this)).2.2.2.1
      have e2 : i * S + S ≤ gN S E S * 128 := mul_in hi b4
      exact ⟨by omega, ovl.pos m2 (by omega) e2⟩
    refine ⟨by unfold fX11_carries; rw [if_neg (show ¬ (1 : Int32) = 0 by decide), if_neg hm]; decide, ?_⟩
    unfold fX11_carries__zV
    rw [if_neg (show ¬ (1 : Int32) = 0 by decide), if_neg hm]
    unfold pX11_carries_271_zV
    rw [if_neg (show ¬ (1 : Int32) = 0 by decide)]
    exact go_Sy hL hst h0 (fun w => cRun_stop (by omega) w) (fun w => madc_loop (g := gN S E S) hS h0 hX h1 h2 hd hL w hF (hr_eq (eE1 hSe) (e_ne1 hSe).2) (ps s2 h2 g2) (fun w => ps s1 h1 (q.2.2.2 w)) hmu (by decide) hop 0 sat)
  · have hm : fX11_mayBeMask (nI d) (nI S) (nI E) (nI s2) (nI S) (fX11_second (nI s1) F) (nI S) = 0 := Classical.byContradiction (fun w => q (cc.mpr w))
    unfold fX11_carries fX11_carries__zV
    simp only [if_neg (show ¬ (1 : Int32) = 0 by decide), if_pos hm]
    exact ⟨trivial, h0, trivial⟩
