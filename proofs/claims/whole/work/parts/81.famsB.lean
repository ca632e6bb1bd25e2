/-! ===== more families ===== -/
theorem over_same (d g s e q g2 : Int32) : ¬ fX2_mayOverwrite d e g s e q g2 = 0 := by
  unfold fX2_mayOverwrite
  by_cases h : fX2_meets d g s g2 = 0
  · rw [if_pos h]; decide
  · rw [if_neg h, if_pos rfl]; decide
theorem legal0 {S E e d : Nat} (h : legalG S E e d = true) : legalG S E e 0 = true := by
  unfold legalG at h ⊢
  simp only [Bool.and_eq_true, decide_eq_true_eq] at h ⊢
  exact ⟨h.1, Nat.zero_mod _⟩
theorem gE2 {S E : Nat} (hp : (S, E) ∈ PE) : gE S E (2 * S) = 2 * E := by
  have : ∀ p ∈ PE, gE p.1 p.2 (2 * p.1) = 2 * p.2 := by decide
  exact this (S, E) hp
theorem two_nI (S : Nat) : (2 : Int32) * nI S = nI (2 * S) := by rw [show (2 : Int32) = nI 2 by decide, pk_mul]
theorem cg9 {S E lw : Nat} (hp : (S, E) ∈ PE) (hS : S ∈ eews) (hlw : lw ∈ eews) (sel F : Int32) (hsel : pX4_coverGroups_193_S4 sel (nI S) = nI lw) : CG S E 9 sel F S lw 0 := by
  intro d s1 s2 L rf re r8 rg rl
  have m0 : (0 : Nat) ∈ E1 := by decide
  have mS : S ∈ E1 := eE1 hS
  have mL : lw ∈ E1 := eE1 hlw
  have z0 : (0 : Int32) = nI 0 := by decide
  simp (decide := true) only [fX4_coverGroups, fX4_coverGroups__n_length, fX4_coverGroups__n_hasLeft, fX4_coverGroups__n_hasRight, fX4_coverGroups__tg_first, fX4_coverGroups__tg_eew, fX4_coverGroups__tg_registers, fX4_coverGroups__tg_full, fX4_coverGroups__lf_first, fX4_coverGroups__lf_eew, fX4_coverGroups__lf_eighths, fX4_coverGroups__lf_registers, fX4_coverGroups__lf_full, fX4_coverGroups__rt_first, fX4_coverGroups__rt_eew, fX4_coverGroups__rt_eighths, fX4_coverGroups__rt_registers, fX4_coverGroups__rt_full, fX4_cover__n_hasLeft, fX4_cover__n_hasRight, fX4_cover__tg_first, fX4_cover__tg_eew, fX4_cover__tg_registers, fX4_cover__tg_full, fX4_cover__lf_first, fX4_cover__lf_eew, fX4_cover__lf_eighths, fX4_cover__lf_registers, fX4_cover__lf_full, fX4_cover__rt_first, fX4_cover__rt_eew, fX4_cover__rt_eighths, fX4_cover__rt_registers, fX4_cover__rt_full, fX2_cover__g_first, fX2_cover__g_eew, fX2_cover__g_eighths, fX2_cover__g_full, if_true, if_false]
  have q0 := (Q1 hp m0).1
  rw [← z0] at q0
  simp only [hsel, ← z0, q0, (Q1 hp m0).2.1, (Q1 hp mS).1, (Q1 hp mS).2.1, (Q1 hp mL).1, (Q1 hp mL).2.1, and_self]
theorem merges_WO {S E L st d s1 s2 md : Nat} {F H im un tb : Int32} {x z xS zX : Nat → Int32} (h : HY S E L st d s1 s2 md F im un tb x z xS zX) (hs2 : un = 0 ∨ s2 = 0) (hk : fX1_kindOf F (nI s1) (nI s2) H im = 5) (vt sat : Int32) (c : Int64) (tm rf re r8 rg : Int32) (rl : Int64) :
    WO (fX11_merges (nI d) (nI s1) (nI s2) F (nI S) (nI E) un) (fX4_execute (nI st) tb (nI S) (nI E) rf re r8 rg (nI 0) (nI 1) F (nI d) (nI s1) (nI s2) H im) (fX4_execute__xV (nI L) (nI st) (nI md) sat c tb (nI S) (nI E) tm (fX11_isTailOpen vt) (fX11_isMaskOpen vt) xS x rf re r8 rg rl (nI 0) (nI 1) (nI 1) (fX10_ones (nI 1)) F (nI d) (nI s1) (nI s2) H im) (fX11_merges__zV c (nI L) vt (nI st) (nI d) (nI s1) (nI s2) F (nI S) (nI E) un zX z z) (fX4_execute__r_saturated (nI L) (nI st) (nI md) sat c tb (nI S) (nI E) tm (fX11_isMaskOpen vt) xS x rf re r8 rg rl (nI 0) (nI 1) (nI 1) (fX10_ones (nI 1)) F (nI d) (nI s1) (nI s2) H im) (sat) (fX4_execute__xS (nI L) (nI st) tb (nI S) xS x (nI 0) (nI 1) (fX10_ones (nI 1)) F (nI d) (nI s1) (nI s2) H im) zX ∧ okX4_execute (nI L) (nI st) (nI md) sat c tb (nI S) (nI E) tm (fX11_isMaskOpen vt) xS x rf re r8 rg rl (nI 0) (nI 1) (nI 1) (fX10_ones (nI 1)) F (nI d) (nI s1) (nI s2) H im := by
  obtain ⟨hp, hS, hSe, h2e, hd, h1, h2, hLM, hL, hst, hmd, hF, hmu, hill, him, h0, hX, hreg, hE⟩ := h
  have c0 := cond_A (F := F) (k := 5) hp hSe hSe hSe hd h1 h2 (by decide) (by decide) (by decide) hmu (Or.inl ⟨rfl, rfl⟩) (sec_B (F := F) (s1 := s1) hSe)
  have hs2' : ∀ {α : Type} (X Y : α), (if un = 0 then X else (if nI s2 = 0 then X else Y)) = X := by
    intro α X Y
    rcases hs2 with h | h
    · rw [if_pos h]
    · rw [if_pos (show nI s2 = 0 by rw [h]; decide), ite_self]
  have hm2 := hs2' (if fX11_mayBe (nI d) (nI S) (nI E) un (nI S) (pX11_merges_34_S3 (nI s2) un) (nI S) (fX11_second (nI s1) F) (nI S) = 0 then (0 : Int32) else 1) 0
  have hm3 := hs2' (if fX11_mayBe (nI d) (nI S) (nI E) un (nI S) (pX11_merges_34_S3 (nI s2) un) (nI S) (fX11_second (nI s1) F) (nI S) = 0 then z else (if fX11_goes (nI L) (nI st) = 0 then z else (fX11_tail__zV c vt ((LX11_merges_68 (nI L) (nI d) (nI s1) (nI s2) F (nI S) un zX z (cnt (nI st) (nI L)) (nI st, z)).2) (nI d) (nI S) (nI E) (nI L)))) z
  have cc : okC S E 5 F im d S s2 S s1 S ↔ ¬ fX11_mayBe (nI d) (nI S) (nI E) un (nI S) (pX11_merges_34_S3 (nI s2) un) (nI S) (fX11_second (nI s1) F) (nI S) = 0 := by
    rw [c0]
    unfold pX11_merges_34_S3
    by_cases u0 : un = 0
    · rw [if_pos u0]
    · rw [if_neg u0]
      have s0 : s2 = 0 := by rcases hs2 with h | h; exact absurd h u0; exact h
      have hB : fX11_second (nI s1) F = nI s1 ∨ fX11_second (nI s1) F = -1 := by rcases sec_B (F := F) (s1 := s1) hSe with h | h; exact Or.inl h.1; exact Or.inr h.1
      rw [mayBe_iff hp hSe hSe hSe hd h2 h1 (Or.inl rfl) hB, mayBe_iff hp hSe hSe hSe hd h2 h1 (Or.inr rfl) hB]
      constructor
      · rintro ⟨a, b, _, e⟩; exact ⟨a, b, fun w => absurd (w ▸ neg1) (nI_nneg h2), e⟩
      · rintro ⟨a, b, _, e⟩; exact ⟨a, b, fun _ => ⟨by rw [s0]; exact legal0 a, over_same _ _ _ _ _ _⟩, e⟩
  have ex := ex_gen (dw := S) (lw := S) (rw := S) (tb := tb) hp (eE1 hSe) (eE1 hSe) (eE1 hSe) hd h1 h2 hL hst (cg5 hp hSe h2e _ _) hk (by decide) hill (Or.inr (by decide)) him (nI md) sat c tm (fX11_isTailOpen vt) (fX11_isMaskOpen vt) xS x rf re r8 rg rl
  rw [(gn_e hSe).1] at ex
  refine ⟨WO_gen ex.1 (by rw [ex.2.1]; exact hX) (fun q => ?_) (fun q => ?_), ex.2.2⟩
  · have hm := cc.mp q
    obtain ⟨q1, q2, q3, q4⟩ := okC_A (by decide) hSe (by decide) (by decide) q
    obtain ⟨a1, a2, a3, a4, a5, a6, a7⟩ := geo_d hp hSe hd hLM q1
    refine ⟨by unfold fX11_merges rX11_merges_14; rw [hm2, if_neg hm]; decide, ?_⟩
    unfold fX11_merges__zV rX11_merges_14__zV
    rw [hm3, if_neg hm]
    exact go_Sy hL hst h0 (fun w => cRun_stop (by omega) w) (fun w => merges_loop hS h0 hX h1 a2 hreg a1 a4 hL w hF (hr_eq (eE1 hSe) (e_ne1 hSe).2) (fun w => ⟨(geo hp hSe hSe hd h1 hLM q1 (q4 hSe w)).2.1, (geo hp hSe hSe hd h1 hLM q1 (q4 hSe w)).1.gp a3⟩) hmu (fun w => ⟨q2 w, (geo hp hSe hSe hd h2 hLM q1 (q3 hSe)).2.1, (geo hp hSe hSe hd h2 hLM q1 (q3 hSe)).1.gp a3⟩) 0 sat)
  · have hm : fX11_mayBe (nI d) (nI S) (nI E) un (nI S) (pX11_merges_34_S3 (nI s2) un) (nI S) (fX11_second (nI s1) F) (nI S) = 0 := Classical.byContradiction (fun w => q (cc.mpr w))
    unfold fX11_merges fX11_merges__zV rX11_merges_14 rX11_merges_14__zV
    rw [hm2, hm3, if_pos hm, if_pos hm]
    exact ⟨rfl, h0, rfl⟩
theorem narrows_WO {S E L st d s1 s2 md : Nat} {F H im un tb : Int32} {x z xS zX : Nat → Int32} (h : HY S E L st d s1 s2 md F im un tb x z xS zX) {u1 u2 : Int32} (hop : (fX3_operation F H, u1, u2) ∈ nrT) (hk : fX1_kindOf F (nI s1) (nI s2) H im = 6) (vt sat : Int32) (c : Int64) (tm rf re r8 rg : Int32) (rl : Int64) :
    WO (fX11_narrows (nI d) (nI s1) (nI s2) F (nI S) (nI E) un) (fX4_execute (nI st) tb (nI S) (nI E) rf re r8 rg (nI 0) (nI 1) F (nI d) (nI s1) (nI s2) H im) (fX4_execute__xV (nI L) (nI st) (nI md) sat c tb (nI S) (nI E) tm (fX11_isTailOpen vt) (fX11_isMaskOpen vt) xS x rf re r8 rg rl (nI 0) (nI 1) (nI 1) (fX10_ones (nI 1)) F (nI d) (nI s1) (nI s2) H im) (fX11_narrows__zV c (nI L) vt (nI st) (nI md) sat (nI d) (nI s1) (nI s2) F (nI S) (nI E) un zX z z u1 u2) (fX4_execute__r_saturated (nI L) (nI st) (nI md) sat c tb (nI S) (nI E) tm (fX11_isMaskOpen vt) xS x rf re r8 rg rl (nI 0) (nI 1) (nI 1) (fX10_ones (nI 1)) F (nI d) (nI s1) (nI s2) H im) (fX11_narrows__m_vxsat c (nI L) vt (nI st) (nI md) sat (nI d) (nI s1) (nI s2) F (nI S) (nI E) un zX z z u1 u2) (fX4_execute__xS (nI L) (nI st) tb (nI S) xS x (nI 0) (nI 1) (fX10_ones (nI 1)) F (nI d) (nI s1) (nI s2) H im) zX ∧ okX4_execute (nI L) (nI st) (nI md) sat c tb (nI S) (nI E) tm (fX11_isMaskOpen vt) xS x rf re r8 rg rl (nI 0) (nI 1) (nI 1) (fX10_ones (nI 1)) F (nI d) (nI s1) (nI s2) H im := by
  obtain ⟨hp, hS, hSe, h2e, hd, h1, h2, hLM, hL, hst, hmd, hF, hmu, hill, him, h0, hX, hreg, hE⟩ := h
  have cc := cond_A (F := F) (k := 6) hp hSe h2e hSe hd h1 h2 (by decide) (by decide) (by decide) hmu (Or.inl ⟨rfl, rfl⟩) (sec_B (F := F) (s1 := s1) hSe)
  have ex := ex_gen (dw := S) (lw := (2 * S)) (rw := S) (tb := tb) hp (eE1 hSe) (eE1 h2e) (eE1 hSe) hd h1 h2 hL hst (cg6 hp hSe h2e _ _) hk (by decide) hill (Or.inr (by decide)) him (nI md) sat c tm (fX11_isTailOpen vt) (fX11_isMaskOpen vt) xS x rf re r8 rg rl
  rw [(gn_e hSe).1] at ex
  refine ⟨WO_gen ex.1 (by rw [ex.2.1]; exact hX) (fun q => ?_) (fun q => ?_), ex.2.2⟩
  · have hm := cc.mp q
    obtain ⟨q1, q2, q3, q4⟩ := okC_A (by decide) hSe (by decide) (by decide) q
    obtain ⟨a1, a2, a3, a4, a5, a6, a7⟩ := geo_d hp hSe hd hLM q1
    have hS2 : S = 8 ∨ S = 16 := by
      have hw := okW.B (G3 hp h2e h2 (q3 h2e).1).2.1
      rcases hS with h | h | h
      · exact Or.inl h
      · exact Or.inr h
      · rw [h] at hw; rcases hw with w | w | w <;> omega
    refine ⟨by unfold fX11_narrows; rw [two_nI, if_neg hm]; decide, ?_⟩
    unfold fX11_narrows__zV fX11_narrows__m_vxsat
    rw [two_nI, if_neg hm, if_neg hm]
    exact go_Sy2 hL hst h0 (fun w => cRun_stop (by omega) w) (fun w => narrows_loop hS2 hmd h0 hX h1 h2 a2 hreg a1 a4 hL w hF (hr_eq (eE1 hSe) (e_ne1 hSe).2) hop ((geo hp hSe h2e hd h2 hLM q1 (q3 h2e)).2.2 st) (fun w => (geo hp hSe hSe hd h1 hLM q1 (q4 hSe w)).2.2 st) hmu q2 0 sat)
  · have hm : fX11_mayBe (nI d) (nI S) (nI E) un (nI S) (nI s2) (nI (2 * S)) (fX11_second (nI s1) F) (nI S) = 0 := Classical.byContradiction (fun w => q (cc.mpr w))
    unfold fX11_narrows fX11_narrows__zV fX11_narrows__m_vxsat
    rw [two_nI, if_pos hm, if_pos hm, if_pos hm]
    exact ⟨rfl, h0, rfl⟩
theorem widens_WO {S E L st d s1 s2 md : Nat} {F H im un tb : Int32} {x z xS zX : Nat → Int32} (h : HY S E L st d s1 s2 md F im un tb x z xS zX) {u1 u2 : Int32} (hop : ((7 : Int32), fX3_operation F H, u1, u2, (0 : Int32)) ∈ wdT) (hk : fX1_kindOf F (nI s1) (nI s2) H im = 7) (vt sat : Int32) (c : Int64) (tm rf re r8 rg : Int32) (rl : Int64) :
    WO (fX11_widens (nI d) (nI s1) (nI s2) F (nI S) (nI E) un 0) (fX4_execute (nI st) tb (nI S) (nI E) rf re r8 rg (nI 0) (nI 1) F (nI d) (nI s1) (nI s2) H im) (fX4_execute__xV (nI L) (nI st) (nI md) sat c tb (nI S) (nI E) tm (fX11_isTailOpen vt) (fX11_isMaskOpen vt) xS x rf re r8 rg rl (nI 0) (nI 1) (nI 1) (fX10_ones (nI 1)) F (nI d) (nI s1) (nI s2) H im) (fX11_widens__zV c (nI L) vt (nI st) (nI d) (nI s1) (nI s2) F (nI S) (nI E) un zX z z u1 u2 0) (fX4_execute__r_saturated (nI L) (nI st) (nI md) sat c tb (nI S) (nI E) tm (fX11_isMaskOpen vt) xS x rf re r8 rg rl (nI 0) (nI 1) (nI 1) (fX10_ones (nI 1)) F (nI d) (nI s1) (nI s2) H im) (sat) (fX4_execute__xS (nI L) (nI st) tb (nI S) xS x (nI 0) (nI 1) (fX10_ones (nI 1)) F (nI d) (nI s1) (nI s2) H im) zX ∧ okX4_execute (nI L) (nI st) (nI md) sat c tb (nI S) (nI E) tm (fX11_isMaskOpen vt) xS x rf re r8 rg rl (nI 0) (nI 1) (nI 1) (fX10_ones (nI 1)) F (nI d) (nI s1) (nI s2) H im := by
  obtain ⟨hp, hS, hSe, h2e, hd, h1, h2, hLM, hL, hst, hmd, hF, hmu, hill, him, h0, hX, hreg, hE⟩ := h
  have hw3 : pX11_widens_28_S4 (nI S) 0 = nI S := by unfold pX11_widens_28_S4; rw [if_pos rfl]
  have cc := cond_A (F := F) (k := 7) hp h2e hSe hSe hd h1 h2 (by decide) (by decide) (by decide) hmu (Or.inl ⟨rfl, rfl⟩) (sec_B (F := F) (s1 := s1) hSe)
  have ex := ex_gen (dw := (2 * S)) (lw := S) (rw := S) (tb := tb) hp (eE1 h2e) (eE1 hSe) (eE1 hSe) hd h1 h2 hL hst (cg7 hp hSe h2e _ _) hk (by decide) hill (Or.inr (by decide)) him (nI md) sat c tm (fX11_isTailOpen vt) (fX11_isMaskOpen vt) xS x rf re r8 rg rl
  rw [(gn_e h2e).1] at ex
  refine ⟨WO_gen ex.1 (by rw [ex.2.1]; exact hX) (fun q => ?_) (fun q => ?_), ex.2.2⟩
  · have hm := cc.mp q
    obtain ⟨q1, q2, q3, q4⟩ := okC_A (by decide) h2e (by decide) (by decide) q
    obtain ⟨a1, a2, a3, a4, a5, a6, a7⟩ := geo_d hp h2e hd hLM q1
    refine ⟨by unfold fX11_widens; rw [two_nI, hw3, if_neg hm]; decide, ?_⟩
    unfold fX11_widens__zV
    rw [two_nI, two_nI, hw3, if_neg hm]
    exact go_Sy hL hst h0 (fun w => cRun_stop (by omega) w) (fun w => widens_loop hS a5 h0 hX h1 a2 (by rw [← gE2 hp]; exact (G1 hp h2e).2.2.2.1) a1 a4 hL w hF (hr_eq (eE1 hSe) (e_ne1 hSe).2) hop (by exact (if_pos rfl).symm) hS ((geo hp h2e hSe hd h2 hLM q1 (q3 hSe)).2.2 st) (fun w => (geo hp h2e hSe hd h1 hLM q1 (q4 hSe w)).2.2 st) hmu q2 0 sat)
  · have hm : fX11_mayBe (nI d) (nI S) (nI E) un (nI (2 * S)) (nI s2) (nI S) (fX11_second (nI s1) F) (nI S) = 0 := Classical.byContradiction (fun w => q (cc.mpr w))
    unfold fX11_widens fX11_widens__zV
    rw [two_nI, hw3, if_pos hm, if_pos hm]
    exact ⟨rfl, h0, rfl⟩
theorem widensW_WO {S E L st d s1 s2 md : Nat} {F H im un tb : Int32} {x z xS zX : Nat → Int32} (h : HY S E L st d s1 s2 md F im un tb x z xS zX) {u1 u2 : Int32} (hop : ((8 : Int32), fX3_operation F H, u1, u2, (1 : Int32)) ∈ wdT) (hk : fX1_kindOf F (nI s1) (nI s2) H im = 8) (vt sat : Int32) (c : Int64) (tm rf re r8 rg : Int32) (rl : Int64) :
    WO (fX11_widens (nI d) (nI s1) (nI s2) F (nI S) (nI E) un 1) (fX4_execute (nI st) tb (nI S) (nI E) rf re r8 rg (nI 0) (nI 1) F (nI d) (nI s1) (nI s2) H im) (fX4_execute__xV (nI L) (nI st) (nI md) sat c tb (nI S) (nI E) tm (fX11_isTailOpen vt) (fX11_isMaskOpen vt) xS x rf re r8 rg rl (nI 0) (nI 1) (nI 1) (fX10_ones (nI 1)) F (nI d) (nI s1) (nI s2) H im) (fX11_widens__zV c (nI L) vt (nI st) (nI d) (nI s1) (nI s2) F (nI S) (nI E) un zX z z u1 u2 1) (fX4_execute__r_saturated (nI L) (nI st) (nI md) sat c tb (nI S) (nI E) tm (fX11_isMaskOpen vt) xS x rf re r8 rg rl (nI 0) (nI 1) (nI 1) (fX10_ones (nI 1)) F (nI d) (nI s1) (nI s2) H im) (sat) (fX4_execute__xS (nI L) (nI st) tb (nI S) xS x (nI 0) (nI 1) (fX10_ones (nI 1)) F (nI d) (nI s1) (nI s2) H im) zX ∧ okX4_execute (nI L) (nI st) (nI md) sat c tb (nI S) (nI E) tm (fX11_isMaskOpen vt) xS x rf re r8 rg rl (nI 0) (nI 1) (nI 1) (fX10_ones (nI 1)) F (nI d) (nI s1) (nI s2) H im := by
  obtain ⟨hp, hS, hSe, h2e, hd, h1, h2, hLM, hL, hst, hmd, hF, hmu, hill, him, h0, hX, hreg, hE⟩ := h
  have hw3 : pX11_widens_28_S4 (nI S) 1 = nI (2 * S) := by unfold pX11_widens_28_S4; rw [if_neg (by decide), two_nI]
  have cc := cond_A (F := F) (k := 8) hp h2e h2e hSe hd h1 h2 (by decide) (by decide) (by decide) hmu (Or.inl ⟨rfl, rfl⟩) (sec_B (F := F) (s1 := s1) hSe)
  have ex := ex_gen (dw := (2 * S)) (lw := (2 * S)) (rw := S) (tb := tb) hp (eE1 h2e) (eE1 h2e) (eE1 hSe) hd h1 h2 hL hst (cg8 hp hSe h2e _ _) hk (by decide) hill (Or.inr (by decide)) him (nI md) sat c tm (fX11_isTailOpen vt) (fX11_isMaskOpen vt) xS x rf re r8 rg rl
  rw [(gn_e h2e).1] at ex
  refine ⟨WO_gen ex.1 (by rw [ex.2.1]; exact hX) (fun q => ?_) (fun q => ?_), ex.2.2⟩
  · have hm := cc.mp q
    obtain ⟨q1, q2, q3, q4⟩ := okC_A (by decide) h2e (by decide) (by decide) q
    obtain ⟨a1, a2, a3, a4, a5, a6, a7⟩ := geo_d hp h2e hd hLM q1
    refine ⟨by unfold fX11_widens; rw [two_nI, hw3, if_neg hm]; decide, ?_⟩
    unfold fX11_widens__zV
    rw [two_nI, two_nI, hw3, if_neg hm]
    exact go_Sy hL hst h0 (fun w => cRun_stop (by omega) w) (fun w => widens_loop hS a5 h0 hX h1 a2 (by rw [← gE2 hp]; exact (G1 hp h2e).2.2.2.1) a1 a4 hL w hF (hr_eq (eE1 hSe) (e_ne1 hSe).2) hop (by exact (if_neg (by decide)).symm) a5 ((geo hp h2e h2e hd h2 hLM q1 (q3 h2e)).2.2 st) (fun w => (geo hp h2e hSe hd h1 hLM q1 (q4 hSe w)).2.2 st) hmu q2 0 sat)
  · have hm : fX11_mayBe (nI d) (nI S) (nI E) un (nI (2 * S)) (nI s2) (nI (2 * S)) (fX11_second (nI s1) F) (nI S) = 0 := Classical.byContradiction (fun w => q (cc.mpr w))
    unfold fX11_widens fX11_widens__zV
    rw [two_nI, hw3, if_pos hm, if_pos hm]
    exact ⟨rfl, h0, rfl⟩
theorem multiplies_WO {S E L st d s1 s2 md : Nat} {F H im un tb : Int32} {x z xS zX : Nat → Int32} (h : HY S E L st d s1 s2 md F im un tb x z xS zX) {u1 u2 u3 : Int32} (hop : (fX3_operation F H, u1, u2, u3) ∈ mlT) (hk : fX1_kindOf F (nI s1) (nI s2) H im = 7) (vt sat : Int32) (c : Int64) (tm rf re r8 rg : Int32) (rl : Int64) :
    WO (fX11_multiplies (nI d) (nI s1) (nI s2) F (nI S) (nI E) un) (fX4_execute (nI st) tb (nI S) (nI E) rf re r8 rg (nI 0) (nI 1) F (nI d) (nI s1) (nI s2) H im) (fX4_execute__xV (nI L) (nI st) (nI md) sat c tb (nI S) (nI E) tm (fX11_isTailOpen vt) (fX11_isMaskOpen vt) xS x rf re r8 rg rl (nI 0) (nI 1) (nI 1) (fX10_ones (nI 1)) F (nI d) (nI s1) (nI s2) H im) (fX11_multiplies__zV c (nI L) vt (nI st) (nI d) (nI s1) (nI s2) F (nI S) (nI E) un zX z z u1 u2 u3) (fX4_execute__r_saturated (nI L) (nI st) (nI md) sat c tb (nI S) (nI E) tm (fX11_isMaskOpen vt) xS x rf re r8 rg rl (nI 0) (nI 1) (nI 1) (fX10_ones (nI 1)) F (nI d) (nI s1) (nI s2) H im) (sat) (fX4_execute__xS (nI L) (nI st) tb (nI S) xS x (nI 0) (nI 1) (fX10_ones (nI 1)) F (nI d) (nI s1) (nI s2) H im) zX ∧ okX4_execute (nI L) (nI st) (nI md) sat c tb (nI S) (nI E) tm (fX11_isMaskOpen vt) xS x rf re r8 rg rl (nI 0) (nI 1) (nI 1) (fX10_ones (nI 1)) F (nI d) (nI s1) (nI s2) H im := by
  obtain ⟨hp, hS, hSe, h2e, hd, h1, h2, hLM, hL, hst, hmd, hF, hmu, hill, him, h0, hX, hreg, hE⟩ := h
  have cc := cond_A (F := F) (k := 7) hp h2e hSe hSe hd h1 h2 (by decide) (by decide) (by decide) hmu (Or.inl ⟨rfl, rfl⟩) (sec_B (F := F) (s1 := s1) hSe)
  have ex := ex_gen (dw := (2 * S)) (lw := S) (rw := S) (tb := tb) hp (eE1 h2e) (eE1 hSe) (eE1 hSe) hd h1 h2 hL hst (cg7 hp hSe h2e _ _) hk (by decide) hill (Or.inr (by decide)) him (nI md) sat c tm (fX11_isTailOpen vt) (fX11_isMaskOpen vt) xS x rf re r8 rg rl
  rw [(gn_e h2e).1] at ex
  refine ⟨WO_gen ex.1 (by rw [ex.2.1]; exact hX) (fun q => ?_) (fun q => ?_), ex.2.2⟩
  · have hm := cc.mp q
    obtain ⟨q1, q2, q3, q4⟩ := okC_A (by decide) h2e (by decide) (by decide) q
    obtain ⟨a1, a2, a3, a4, a5, a6, a7⟩ := geo_d hp h2e hd hLM q1
    refine ⟨by unfold fX11_multiplies; rw [two_nI, if_neg hm]; decide, ?_⟩
    unfold fX11_multiplies__zV
    rw [two_nI, two_nI, if_neg hm]
    exact go_Sy hL hst h0 (fun w => cRun_stop (by omega) w) (fun w => multiplies_loop hS a5 h0 hX h1 a2 (by rw [← gE2 hp]; exact (G1 hp h2e).2.2.2.1) a1 a4 hL w hF (hr_eq (eE1 hSe) (e_ne1 hSe).2) hop ((geo hp h2e hSe hd h2 hLM q1 (q3 hSe)).2.2 st) (fun w => (geo hp h2e hSe hd h1 hLM q1 (q4 hSe w)).2.2 st) hmu q2 0 sat)
  · have hm : fX11_mayBe (nI d) (nI S) (nI E) un (nI (2 * S)) (nI s2) (nI S) (fX11_second (nI s1) F) (nI S) = 0 := Classical.byContradiction (fun w => q (cc.mpr w))
    unfold fX11_multiplies fX11_multiplies__zV
    rw [two_nI, if_pos hm, if_pos hm]
    exact ⟨rfl, h0, rfl⟩
theorem extends_WO {S E L st d s1 s2 md : Nat} {F H im un tb : Int32} {x z xS zX : Nat → Int32} (h : HY S E L st d s1 s2 md F im un tb x z xS zX) (hs1 : s1 = 4 ∨ s1 = 5 ∨ s1 = 6 ∨ s1 = 7) (hk : fX1_kindOf F (nI s1) (nI s2) H im = 9) (vt sat : Int32) (c : Int64) (tm rf re r8 rg : Int32) (rl : Int64) :
    WO (fX11_extends1 (nI d) (nI s1) (nI s2) (nI S) (nI E) un) (fX4_execute (nI st) tb (nI S) (nI E) rf re r8 rg (nI 0) (nI 1) F (nI d) (nI s1) (nI s2) H im) (fX4_execute__xV (nI L) (nI st) (nI md) sat c tb (nI S) (nI E) tm (fX11_isTailOpen vt) (fX11_isMaskOpen vt) xS x rf re r8 rg rl (nI 0) (nI 1) (nI 1) (fX10_ones (nI 1)) F (nI d) (nI s1) (nI s2) H im) (fX11_extends1__zV c (nI L) vt (nI st) (nI d) (nI s1) (nI s2) (nI S) (nI E) un z z) (fX4_execute__r_saturated (nI L) (nI st) (nI md) sat c tb (nI S) (nI E) tm (fX11_isMaskOpen vt) xS x rf re r8 rg rl (nI 0) (nI 1) (nI 1) (fX10_ones (nI 1)) F (nI d) (nI s1) (nI s2) H im) (sat) (fX4_execute__xS (nI L) (nI st) tb (nI S) xS x (nI 0) (nI 1) (fX10_ones (nI 1)) F (nI d) (nI s1) (nI s2) H im) zX ∧ okX4_execute (nI L) (nI st) (nI md) sat c tb (nI S) (nI E) tm (fX11_isMaskOpen vt) xS x rf re r8 rg rl (nI 0) (nI 1) (nI 1) (fX10_ones (nI 1)) F (nI d) (nI s1) (nI s2) H im := by
  obtain ⟨hp, hS, hSe, h2e, hd, h1, h2, hLM, hL, hst, hmd, hF, hmu, hill, him, h0, hX, hreg, hE⟩ := h
  have hX1 : ∃ lw, lw ∈ eews ∧ pX4_coverGroups_193_S4 (nI s1) (nI S) = nI lw ∧ nI S / pX11_extends1_43_S1 (nI s1) = nI lw ∧ ¬ pX11_extends1_43_S1 (nI s1) = 0 := by
    have : ∀ s ∈ [4, 5, 6, 7], ∀ S ∈ [8, 16, 32], (if s < 6 then S / 4 else S / 2) ∈ eews ∧ pX4_coverGroups_193_S4 (nI s) (nI S) = nI (if s < 6 then S / 4 else S / 2) ∧ nI S / pX11_extends1_43_S1 (nI s) = nI (if s < 6 then S / 4 else S / 2) ∧ ¬ pX11_extends1_43_S1 (nI s) = 0 := by decide +kernel
    exact ⟨_, this s1 (by rcases hs1 with e | e | e | e <;> rw [e] <;> decide) S hS.mem⟩
  obtain ⟨lw, hlw, hsel, hdv, hby⟩ := hX1
  have hlwE := eE1 hlw
  have hr0 : pX4_cover_31_S2 F (nI 0) = 0 := by unfold pX4_cover_31_S2; rw [if_pos (by decide)]
  have cc := cond_A (F := F) (k := 9) (rw := 0) hp hSe hlw hSe hd h1 h2 (by decide) (by decide) (by decide) hmu (A := nI s2) (B := -1) (Or.inl ⟨rfl, rfl⟩) (Or.inr ⟨rfl, hr0⟩)
  have ex := ex_gen (dw := S) (lw := lw) (rw := 0) (tb := tb) hp (eE1 hSe) hlwE (by decide) hd h1 h2 hL hst (cg9 hp hSe hlw _ _ hsel) hk (by decide) hill (Or.inr (by decide)) him (nI md) sat c tm (fX11_isTailOpen vt) (fX11_isMaskOpen vt) xS x rf re r8 rg rl
  rw [(gn_e hSe).1] at ex
  refine ⟨WO_gen ex.1 (by rw [ex.2.1]; exact hX) (fun q => ?_) (fun q => ?_), ex.2.2⟩
  · have hm := cc.mp q
    obtain ⟨q1, q2, q3, q4⟩ := okC_A (by decide) hSe (by decide) (by decide) q
    obtain ⟨a1, a2, a3, a4, a5, a6, a7⟩ := geo_d hp hSe hd hLM q1
    refine ⟨by unfold fX11_extends1; rw [hdv, if_neg hby, if_neg hm]; decide, ?_⟩
    unfold fX11_extends1__zV
    rw [hdv, if_neg hby, if_neg hm]
    exact go_Sy hL hst h0 (fun w => cRun_stop (by omega) w) (fun w => extends_loop hS (okW.B (G3 hp hlw h2 (q3 hlw).1).2.1) h0 hs1 hdv a2 hreg a1 a4 hL w ((geo hp hSe hlw hd h2 hLM q1 (q3 hlw)).2.2 st) hmu q2 0 sat)
  · have hm : fX11_mayBe (nI d) (nI S) (nI E) un (nI S) (nI s2) (nI lw) (-1) (nI S) = 0 := Classical.byContradiction (fun w => q (cc.mpr w))
    unfold fX11_extends1 fX11_extends1__zV
    rw [hdv, if_neg hby, if_neg hby, if_pos hm, if_pos hm]
    exact ⟨rfl, h0, rfl⟩
theorem numbers_WO {S E L st d s1 s2 md : Nat} {F H im un tb : Int32} {x z xS zX : Nat → Int32} (h : HY S E L st d s1 s2 md F im un tb x z xS zX) (hs2 : s2 = 0) (hk : fX1_kindOf F (nI s1) (nI s2) H im = 16) (vt sat : Int32) (c : Int64) (tm rf re r8 rg : Int32) (rl : Int64) :
    WO (fX11_numbers (nI d) (nI s2) (nI S) (nI E) un) (fX4_execute (nI st) tb (nI S) (nI E) rf re r8 rg (nI 0) (nI 1) F (nI d) (nI s1) (nI s2) H im) (fX4_execute__xV (nI L) (nI st) (nI md) sat c tb (nI S) (nI E) tm (fX11_isTailOpen vt) (fX11_isMaskOpen vt) xS x rf re r8 rg rl (nI 0) (nI 1) (nI 1) (fX10_ones (nI 1)) F (nI d) (nI s1) (nI s2) H im) (fX11_numbers__zV c (nI L) vt (nI st) (nI d) (nI s2) (nI S) (nI E) un z z) (fX4_execute__r_saturated (nI L) (nI st) (nI md) sat c tb (nI S) (nI E) tm (fX11_isMaskOpen vt) xS x rf re r8 rg rl (nI 0) (nI 1) (nI 1) (fX10_ones (nI 1)) F (nI d) (nI s1) (nI s2) H im) (sat) (fX4_execute__xS (nI L) (nI st) tb (nI S) xS x (nI 0) (nI 1) (fX10_ones (nI 1)) F (nI d) (nI s1) (nI s2) H im) zX ∧ okX4_execute (nI L) (nI st) (nI md) sat c tb (nI S) (nI E) tm (fX11_isMaskOpen vt) xS x rf re r8 rg rl (nI 0) (nI 1) (nI 1) (fX10_ones (nI 1)) F (nI d) (nI s1) (nI s2) H im := by
  obtain ⟨hp, hS, hSe, h2e, hd, h1, h2, hLM, hL, hst, hmd, hF, hmu, hill, him, h0, hX, hreg, hE⟩ := h
  have s0 : nI s2 = 0 := by rw [hs2]; decide
  have hr0 : pX4_cover_31_S2 F (nI 0) = 0 := by unfold pX4_cover_31_S2; rw [if_pos (by decide)]
  have ex := ex_gen (dw := S) (lw := 0) (rw := 0) (tb := tb) hp (eE1 hSe) (by decide) (by decide) hd h1 h2 hL hst (cg16 hp hSe h2e _ _) hk (by decide) hill (Or.inr (by decide)) him (nI md) sat c tm (fX11_isTailOpen vt) (fX11_isMaskOpen vt) xS x rf re r8 rg rl
  rw [(gn_e hSe).1] at ex
  refine ⟨WO_gen ex.1 (by rw [ex.2.1]; exact hX) (fun q => ?_) (fun q => ?_), ex.2.2⟩
  · have q1 : legalG S E S d = true := by have := q.1; rw [(gn_e hSe).2.2] at this; exact this
    have q2 : im = 0 ∨ ¬ d = 0 := by
      rcases q.2.1 with w | w | w | w
      · exact Or.inl w
      · exact Or.inr w
      · exact absurd w (by decide)
      · exact absurd w (by decide)
    obtain ⟨a1, a2, a3, a4, a5, a6, a7⟩ := geo_d hp hSe hd hLM q1
    have hg := (legal_iff hp hSe hd).mpr q1
    have hmm := (mask_iff hd hmu).mpr q2
    refine ⟨by unfold fX11_numbers; rw [if_pos s0, if_neg hg, if_neg hmm]; decide, ?_⟩
    unfold fX11_numbers__zV
    rw [if_pos s0, if_neg hg, if_neg hmm]
    exact go_Sy hL hst h0 (fun w => cRun_stop (by omega) w) (fun w => numbers_loop hS h0 a2 hreg a1 a4 hL w hmu (fun w => by rcases q2 with h | h; exact absurd h w; exact h) 0 sat)
  · have hc : fX11_isGroup (nI S) (nI E) (nI d) (nI S) = 0 ∨ fX11_mayMask un (nI d) = 0 := by
      refine Classical.byContradiction (fun w => q ⟨?_, ?_, fun w => absurd rfl w, fun w => absurd hr0 w⟩)
      · rw [(gn_e hSe).2.2]; exact (legal_iff hp hSe hd).mp (fun e => w (Or.inl e))
      · rcases (mask_iff hd hmu).mp (fun e => w (Or.inr e)) with h | h
        · exact Or.inl h
        · exact Or.inr (Or.inl h)
    unfold fX11_numbers fX11_numbers__zV
    rw [if_pos s0, if_pos s0]
    by_cases e : fX11_isGroup (nI S) (nI E) (nI d) (nI S) = 0
    · rw [if_pos e, if_pos e]; exact ⟨rfl, h0, rfl⟩
    · have e2 : fX11_mayMask un (nI d) = 0 := by rcases hc with h | h; exact absurd h e; exact h
      rw [if_neg e, if_neg e, if_pos e2, if_pos e2]; exact ⟨rfl, h0, rfl⟩
theorem logic_WO {S E L st d s1 s2 md : Nat} {F H im un tb : Int32} {x z xS zX : Nat → Int32} (h : HY S E L st d s1 s2 md F im un tb x z xS zX) (hun : ¬ un = 0) {p : Int32} (hop : (fX3_operation F H, p) ∈ lgT) (hk : fX1_kindOf F (nI s1) (nI s2) H im = 12) (vt sat : Int32) (c : Int64) (tm rf re r8 rg : Int32) (rl : Int64) :
    WO (fX11_logic un) (fX4_execute (nI st) tb (nI S) (nI E) rf re r8 rg (nI 0) (nI 1) F (nI d) (nI s1) (nI s2) H im) (fX4_execute__xV (nI L) (nI st) (nI md) sat c tb (nI S) (nI E) tm (fX11_isTailOpen vt) (fX11_isMaskOpen vt) xS x rf re r8 rg rl (nI 0) (nI 1) (nI 1) (fX10_ones (nI 1)) F (nI d) (nI s1) (nI s2) H im) (fX11_logic__zV c (nI L) (nI st) (nI d) (nI s1) (nI s2) un z z p) (fX4_execute__r_saturated (nI L) (nI st) (nI md) sat c tb (nI S) (nI E) tm (fX11_isMaskOpen vt) xS x rf re r8 rg rl (nI 0) (nI 1) (nI 1) (fX10_ones (nI 1)) F (nI d) (nI s1) (nI s2) H im) (sat) (fX4_execute__xS (nI L) (nI st) tb (nI S) xS x (nI 0) (nI 1) (fX10_ones (nI 1)) F (nI d) (nI s1) (nI s2) H im) zX ∧ okX4_execute (nI L) (nI st) (nI md) sat c tb (nI S) (nI E) tm (fX11_isMaskOpen vt) xS x rf re r8 rg rl (nI 0) (nI 1) (nI 1) (fX10_ones (nI 1)) F (nI d) (nI s1) (nI s2) H im := by
  obtain ⟨hp, hS, hSe, h2e, hd, h1, h2, hLM, hL, hst, hmd, hF, hmu, hill, him, h0, hX, hreg, hE⟩ := h
  have ex := ex_gen (dw := 1) (lw := 1) (rw := 1) (tb := tb) hp (by decide) (by decide) (by decide) hd h1 h2 hL hst (cg12 hp hSe h2e _ _) hk (by decide) hill (Or.inr (by decide)) him (nI md) sat c tm (fX11_isTailOpen vt) (fX11_isMaskOpen vt) xS x rf re r8 rg rl
  rw [(gn_1 S E).1] at ex
  refine ⟨WO_gen ex.1 (by rw [ex.2.1]; exact hX) (fun q => ?_) (fun q => ?_), ex.2.2⟩
  · refine ⟨by unfold fX11_logic; rw [if_neg hun]; decide, ?_⟩
    unfold fX11_logic__zV
    rw [if_neg hun]
    exact go_Sy hL hst h0 (fun w => cRun_stop (by omega) w) (fun w => logic_loop h0 hd h1 h2 hL w (hmu.mpr hun) hop 0 sat)
  · refine absurd ⟨rfl, Or.inl (hmu.mpr hun), fun _ => ⟨rfl, ?_⟩, fun _ => ⟨rfl, ?_⟩⟩ q
    · unfold mtC; rw [if_pos (by decide)]; exact over_same _ _ _ _ _ _
    · unfold mtC; rw [if_pos (by decide)]; exact over_same _ _ _ _ _ _
