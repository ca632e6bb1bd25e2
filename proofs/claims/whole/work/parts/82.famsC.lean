/-! ===== slides, gathers and what starts at zero ===== -/
theorem ok_gen {S E dw lw rw L st d s1 s2 : Nat} (hp : (S, E) ∈ PE) (hdw : dw ∈ E1) (hlw : lw ∈ E1) (hrw : rw ∈ E1) (hd : d < 32) (h1 : s1 < 32) (h2 : s2 < 32) (hL : L ≤ 128) (hst : st < 128) {k F H im : Int32} (hCG : CG S E k (nI s1) F dw lw rw) (hk : fX1_kindOf F (nI s1) (nI s2) H im = k) (hk0 : ¬ k = 0 ∧ ¬ k = 10 ∧ ¬ k = 11 ∧ ¬ k = 13 ∧ ¬ k = 17 ∧ ¬ k = 18) {tb : Int32} (hill : fX9_isIll tb = 0) (him : narrow .boolean (.int im) = .int im) (md sat : Int32) (c : Int64) (tm tt mo : Int32) (xS x : Nat → Int32) (rf re r8 rg : Int32) (rl : Int64) :
    okX4_execute (nI L) (nI st) md sat c tb (nI S) (nI E) tm mo xS x rf re r8 rg rl (nI 0) (nI 1) (nI 1) (fX10_ones (nI 1)) F (nI d) (nI s1) (nI s2) H im := by
  obtain ⟨n0, n10, n11, n13, n17, n18⟩ := hk0
  obtain ⟨f0, f1, h_n_hasLeft, h_n_hasRight, h_tg_first, h_tg_eew, h_tg_registers, h_tg_full, h_lf_first, h_lf_eew, h_lf_eighths, h_lf_registers, h_lf_full, h_rt_first, h_rt_eew, h_rt_eighths, h_rt_registers, h_rt_full⟩ := hCG d s1 s2 L rf re r8 rg rl
  have hcv := cov_iff hp hdw hlw hrw hd h1 h2 F
  have c1 : fX4_coverGroups k (fX4_prepare__n_selector (nI s1)) (nI S) (nI E) F (nI d) (nI s1) (nI s2) = fX4_cover (nI S) (nI E) F (nI d) (nI s1) (nI s2) (nI dw) (nI lw) (nI rw) := f0
  refine ⟨ok_kind _ _ _ _ _ him, fun _ _ => ⟨him, fun _ => ok_scalar s1 h1⟩, fun _ _ h => absurd (hk.symm.trans h) n10, fun _ _ _ h => absurd (hk.symm.trans h) n11, fun _ _ _ _ h => absurd (hk.symm.trans h) n13, fun _ _ _ _ _ h => absurd (hk.symm.trans h) n17, fun _ _ _ _ _ _ h => absurd (hk.symm.trans h) n18, fun _ _ _ _ _ _ _ => ok_cgs _ _ _, ?_⟩
  rw [hk]
  intro _ _ _ _ _ _ _ hcg _
  rw [c1, hcv] at hcg
  obtain ⟨g1, g2, g3, g4, g5, g6, g7⟩ := Q3 hp hdw hd hcg.1
  obtain ⟨b, hb, eb⟩ := off_ge xS h1 F
  have e1 : fX4_coverGroups__n_length k (fX4_prepare__n_length (nI L)) (nI S) (nI s1) = nI L := f1
  rw [e1, h_tg_eew, h_tg_registers]
  exact ok_run _ _ _ _ _ _ hb eb _ hL hst (by omega) (by omega) g3 _ _ _ _ _ _ _ _ _ _ _ _ _ _ _ _ _ _ _ _ _
theorem ex_zero {L st : Nat} {k F H im d s1 s2 tb S E : Int32} (hk : fX1_kindOf F s1 s2 H im = k) (hz : ¬ nI st = 0) (hk1 : ¬ fX4_startsAtZero k = 0) (md sat : Int32) (c : Int64) (tm tt mo : Int32) (xS x : Nat → Int32) (rf re r8 rg : Int32) (rl : Int64) :
    fX4_execute (nI st) tb S E rf re r8 rg (nI 0) (nI 1) F d s1 s2 H im = 1 ∧ fX4_execute__xV (nI L) (nI st) md sat c tb S E tm tt mo xS x rf re r8 rg rl (nI 0) (nI 1) (nI 1) (fX10_ones (nI 1)) F d s1 s2 H im = x ∧ fX4_execute__r_saturated (nI L) (nI st) md sat c tb S E tm mo xS x rf re r8 rg rl (nI 0) (nI 1) (nI 1) (fX10_ones (nI 1)) F d s1 s2 H im = sat ∧ fX4_execute__xS (nI L) (nI st) tb S xS x (nI 0) (nI 1) (fX10_ones (nI 1)) F d s1 s2 H im = xS := by
  unfold fX4_execute fX4_execute__xV fX4_execute__r_saturated fX4_execute__xS
  simp only [hk, if_neg hz, if_neg hk1, ite_self]
  exact ⟨trivial, trivial, trivial, trivial⟩
theorem meets_E {S E d s : Nat} (hreg : fX11_registers (nI E) = nI (gN S E S)) : fX11_meets (nI d) (nI E) (nI s) (nI E) = fX2_meets (nI d) (nI (gN S E S)) (nI s) (nI (gN S E S)) := by
  unfold fX11_meets; rw [hreg]; rfl
theorem meets_8 {S E d s : Nat} (hreg : fX11_registers (nI E) = nI (gN S E S)) : fX11_meets (nI d) (nI E) (nI s) 8 = fX2_meets (nI d) (nI (gN S E S)) (nI s) (nI 1) := by
  unfold fX11_meets; rw [hreg, show fX11_registers (8 : Int32) = nI 1 by decide]; rfl
theorem cond_S {S E d s2 rw s1 : Nat} (hp : (S, E) ∈ PE) (hSe : S ∈ eews) (hd : d < 32) (h2 : s2 < 32) (hreg : fX11_registers (nI E) = nI (gN S E S)) {k F im un : Int32} (hap : ¬ fX4_staysApart k = 0) (hk2 : ¬ k = 2) (hk4 : ¬ k = 4) (hmu : im = 0 ↔ ¬ un = 0) :
    okC S E k F im d S s2 S s1 rw ↔ (¬ fX11_isGroup (nI S) (nI E) (nI d) (nI S) = 0 ∧ ¬ fX11_mayMask un (nI d) = 0 ∧ ¬ fX11_isGroup (nI S) (nI E) (nI s2) (nI S) = 0 ∧ fX11_meets (nI d) (nI E) (nI s2) (nI E) = 0 ∧ (¬ pX4_cover_31_S2 F (nI rw) = 0 → okS S E k S d rw s1)) := by
  rw [legal_iff hp hSe hd, legal_iff hp hSe h2, mask_iff hd hmu, meets_E hreg]
  unfold okC
  rw [(gn_e hSe).2.2]
  have e : okS S E k S d S s2 ↔ (legalG S E S s2 = true ∧ fX2_meets (nI d) (nI (gN S E S)) (nI s2) (nI (gN S E S)) = 0) := by
    unfold okS mtC
    rw [if_neg hap, (gn_e hSe).2.2, (gn_e hSe).1]
  rw [e]
  constructor
  · rintro ⟨a1, a2, a3, a4⟩
    refine ⟨a1, ?_, (a3 (e_ne1 hSe).2).1, (a3 (e_ne1 hSe).2).2, a4⟩
    rcases a2 with h | h | h | h
    · exact Or.inl h
    · exact Or.inr h
    · exact absurd h hk2
    · exact absurd h hk4
  · rintro ⟨a1, a2, a3, a4, a5⟩
    refine ⟨a1, ?_, fun _ => ⟨a3, a4⟩, a5⟩
    rcases a2 with h | h
    · exact Or.inl h
    · exact Or.inr (Or.inl h)
theorem hr_0 {F : Int32} (hF : F = 3 ∨ F = 4 ∨ F = 6) (e : Int32) : pX4_cover_31_S2 F e = 0 := by
  unfold pX4_cover_31_S2
  rw [show fX3_takesVector F = 0 by rcases hF with h | h | h <;> rw [h] <;> decide, if_pos rfl, ite_self]
theorem ap_iff {S E d s : Nat} (hd : d < 32) (hs : s < 32) (hg : gN S E S ≤ 8) {n : Nat} (hn : n ≤ 8) : fX2_meets (nI d) (nI (gN S E S)) (nI s) (nI n) = 0 ↔ (d + gN S E S ≤ s ∨ s + n ≤ d) := by
  rw [meets_iff (by omega) (by omega)]
  exact Or.comm
theorem slidesDown_WO {S E L st d s1 s2 md : Nat} {F H im un tb : Int32} {x z xS zX : Nat → Int32} (h : HY S E L st d s1 s2 md F im un tb x z xS zX) (hF3 : F = 3 ∨ F = 4) (hk : fX1_kindOf F (nI s1) (nI s2) H im = 20) {vt : Int32} (hvt : fX11_vlmax vt = nI (16 * E / S)) (sat : Int32) (c : Int64) (rf re r8 rg : Int32) (rl : Int64) :
    WO (fX11_slidesDown (nI d) (nI s2) (nI S) (nI E) un) (fX4_execute (nI st) tb (nI S) (nI E) rf re r8 rg (nI 0) (nI 1) F (nI d) (nI s1) (nI s2) H im) (fX4_execute__xV (nI L) (nI st) (nI md) sat c tb (nI S) (nI E) (nI (16 * E / S)) (fX11_isTailOpen vt) (fX11_isMaskOpen vt) xS x rf re r8 rg rl (nI 0) (nI 1) (nI 1) (fX10_ones (nI 1)) F (nI d) (nI s1) (nI s2) H im) (fX11_slidesDown__zV c (nI L) vt (nI st) (nI d) (nI s1) (nI s2) F (nI S) (nI E) un zX z z) (fX4_execute__r_saturated (nI L) (nI st) (nI md) sat c tb (nI S) (nI E) (nI (16 * E / S)) (fX11_isMaskOpen vt) xS x rf re r8 rg rl (nI 0) (nI 1) (nI 1) (fX10_ones (nI 1)) F (nI d) (nI s1) (nI s2) H im) (sat) (fX4_execute__xS (nI L) (nI st) tb (nI S) xS x (nI 0) (nI 1) (fX10_ones (nI 1)) F (nI d) (nI s1) (nI s2) H im) zX ∧ okX4_execute (nI L) (nI st) (nI md) sat c tb (nI S) (nI E) (nI (16 * E / S)) (fX11_isMaskOpen vt) xS x rf re r8 rg rl (nI 0) (nI 1) (nI 1) (fX10_ones (nI 1)) F (nI d) (nI s1) (nI s2) H im := by
  obtain ⟨hp, hS, hSe, h2e, hd, h1, h2, hLM, hL, hst, hmd, hF, hmu, hill, him, h0, hX, hreg, hE⟩ := h
  have hr0 := hr_0 (F := F) (by rcases hF3 with h | h; exact Or.inl h; exact Or.inr (Or.inl h)) (nI S)
  have cc := cond_A (F := F) (k := 20) (rw := S) hp hSe hSe hSe hd h1 h2 (by decide) (by decide) (by decide) hmu (A := nI s2) (B := -1) (Or.inl ⟨rfl, rfl⟩) (Or.inr ⟨rfl, hr0⟩)
  have ex := ex_gen (dw := S) (lw := S) (rw := S) (tb := tb) hp (eE1 hSe) (eE1 hSe) (eE1 hSe) hd h1 h2 hL hst (cg20 hp hSe h2e _ _) hk (by decide) hill (Or.inr (by decide)) him (nI md) sat c ((nI (16 * E / S))) (fX11_isTailOpen vt) (fX11_isMaskOpen vt) xS x rf re r8 rg rl
  rw [(gn_e hSe).1] at ex
  refine ⟨WO_gen ex.1 (by rw [ex.2.1]; exact hX) (fun q => ?_) (fun q => ?_), ex.2.2⟩
  · have hm := cc.mp q
    obtain ⟨q1, q2, q3, q4⟩ := okC_A (by decide) hSe (by decide) (by decide) q
    obtain ⟨a1, a2, a3, a4, a5, a6, a7⟩ := geo_d hp hSe hd hLM q1
    have hLS : 16 * E / S * S ≤ gN S E S * 128 := (G3 hp hSe hd q1).2.2.1
    refine ⟨by unfold fX11_slidesDown; rw [if_neg hm]; decide, ?_⟩
    unfold fX11_slidesDown__zV
    rw [if_neg hm]
    exact go_Sy hL hst h0 (fun w => cRun_stop (by omega) w) (fun w => slidesDown_loop (M := 16 * E / S) hS h0 hX h1 a2 hreg a1 (geo hp hSe hSe hd h2 hLM q1 (q3 hSe)).2.1 ((geo hp hSe hSe hd h2 hLM q1 (q3 hSe)).1.gp a3) hLS hLM hL w hF3 hvt hmu q2 0 sat)
  · have hm : fX11_mayBe (nI d) (nI S) (nI E) un (nI S) (nI s2) (nI S) (-1) (nI S) = 0 := Classical.byContradiction (fun w => q (cc.mpr w))
    unfold fX11_slidesDown fX11_slidesDown__zV
    rw [if_pos hm, if_pos hm]
    exact ⟨rfl, h0, rfl⟩
theorem slidesUp_WO {S E L st d s1 s2 md : Nat} {F H im un tb : Int32} {x z xS zX : Nat → Int32} (h : HY S E L st d s1 s2 md F im un tb x z xS zX) (hF3 : F = 3 ∨ F = 4) (hk : fX1_kindOf F (nI s1) (nI s2) H im = 19) (vt sat : Int32) (c : Int64) (rf re r8 rg : Int32) (rl : Int64) :
    WO (fX11_slidesUp (nI d) (nI s2) (nI S) (nI E) un) (fX4_execute (nI st) tb (nI S) (nI E) rf re r8 rg (nI 0) (nI 1) F (nI d) (nI s1) (nI s2) H im) (fX4_execute__xV (nI L) (nI st) (nI md) sat c tb (nI S) (nI E) (nI (16 * E / S)) (fX11_isTailOpen vt) (fX11_isMaskOpen vt) xS x rf re r8 rg rl (nI 0) (nI 1) (nI 1) (fX10_ones (nI 1)) F (nI d) (nI s1) (nI s2) H im) (fX11_slidesUp__zV c (nI L) vt (nI st) (nI d) (nI s1) (nI s2) F (nI S) (nI E) un zX z z) (fX4_execute__r_saturated (nI L) (nI st) (nI md) sat c tb (nI S) (nI E) (nI (16 * E / S)) (fX11_isMaskOpen vt) xS x rf re r8 rg rl (nI 0) (nI 1) (nI 1) (fX10_ones (nI 1)) F (nI d) (nI s1) (nI s2) H im) (sat) (fX4_execute__xS (nI L) (nI st) tb (nI S) xS x (nI 0) (nI 1) (fX10_ones (nI 1)) F (nI d) (nI s1) (nI s2) H im) zX ∧ okX4_execute (nI L) (nI st) (nI md) sat c tb (nI S) (nI E) (nI (16 * E / S)) (fX11_isMaskOpen vt) xS x rf re r8 rg rl (nI 0) (nI 1) (nI 1) (fX10_ones (nI 1)) F (nI d) (nI s1) (nI s2) H im := by
  obtain ⟨hp, hS, hSe, h2e, hd, h1, h2, hLM, hL, hst, hmd, hF, hmu, hill, him, h0, hX, hreg, hE⟩ := h
  have hr0 := hr_0 (F := F) (by rcases hF3 with h | h; exact Or.inl h; exact Or.inr (Or.inl h)) (nI S)
  have cc := cond_S (F := F) (k := 19) (rw := S) (s1 := s1) hp hSe hd h2 hreg (by decide) (by decide) (by decide) hmu
  have ex := ex_gen (dw := S) (lw := S) (rw := S) (tb := tb) hp (eE1 hSe) (eE1 hSe) (eE1 hSe) hd h1 h2 hL hst (cg19 hp hSe h2e _ _) hk (by decide) hill (Or.inr (by decide)) him (nI md) sat c ((nI (16 * E / S))) (fX11_isTailOpen vt) (fX11_isMaskOpen vt) xS x rf re r8 rg rl
  rw [(gn_e hSe).1] at ex
  refine ⟨WO_gen ex.1 (by rw [ex.2.1]; exact hX) (fun q => ?_) (fun q => ?_), ex.2.2⟩
  · obtain ⟨m1, m2, m3, m4, _⟩ := cc.mp q
    have q1 := (legal_iff hp hSe hd).mp m1
    have q3 := (legal_iff hp hSe h2).mp m3
    obtain ⟨a1, a2, a3, a4, a5, a6, a7⟩ := geo_d hp hSe hd hLM q1
    obtain ⟨b1, _⟩ := geo_d hp hSe h2 hLM q3
    have hap := m4
    rw [meets_E hreg, ap_iff hd h2 a2 a2] at hap
    have hLS : 16 * E / S * S ≤ gN S E S * 128 := (G3 hp hSe hd q1).2.2.1
    refine ⟨by unfold fX11_slidesUp; rw [if_neg m1, if_neg m2, if_neg m3, if_pos m4]; decide, ?_⟩
    unfold fX11_slidesUp__zV
    rw [if_neg m1, if_neg m2, if_neg m3, if_pos m4]
    exact go_Sy hL hst h0 (fun w => cRun_stop (by omega) w) (fun w => slidesUp_loop (M := 16 * E / S) hS h0 hX h1 a2 hreg a1 b1 hap hLS hLM hL w hF3 hmu (fun w => by rcases (mask_iff hd hmu).mp m2 with h | h; exact absurd h w; exact h) 0 sat)
  · unfold fX11_slidesUp fX11_slidesUp__zV
    by_cases m1 : fX11_isGroup (nI S) (nI E) (nI d) (nI S) = 0
    · rw [if_pos m1, if_pos m1]; exact ⟨rfl, h0, rfl⟩
    rw [if_neg m1, if_neg m1]
    by_cases m2 : fX11_mayMask un (nI d) = 0
    · rw [if_pos m2, if_pos m2]; exact ⟨rfl, h0, rfl⟩
    rw [if_neg m2, if_neg m2]
    by_cases m3 : fX11_isGroup (nI S) (nI E) (nI s2) (nI S) = 0
    · rw [if_pos m3, if_pos m3]; exact ⟨rfl, h0, rfl⟩
    rw [if_neg m3, if_neg m3]
    have m4 : ¬ fX11_meets (nI d) (nI E) (nI s2) (nI E) = 0 := fun w => q (cc.mpr ⟨m1, m2, m3, w, fun w => absurd hr0 w⟩)
    rw [if_neg m4, if_neg m4]
    exact ⟨rfl, h0, rfl⟩
theorem slideUp1_WO {S E L st d s1 s2 md : Nat} {F H im un tb : Int32} {x z xS zX : Nat → Int32} (h : HY S E L st d s1 s2 md F im un tb x z xS zX) (hF6 : F = 6) (hk : fX1_kindOf F (nI s1) (nI s2) H im = 21) (vt sat : Int32) (c : Int64) (tm rf re r8 rg : Int32) (rl : Int64) :
    WO (fX11_slidesOne (nI d) (nI s2) (nI S) (nI E) un 1) (fX4_execute (nI st) tb (nI S) (nI E) rf re r8 rg (nI 0) (nI 1) F (nI d) (nI s1) (nI s2) H im) (fX4_execute__xV (nI L) (nI st) (nI md) sat c tb (nI S) (nI E) tm (fX11_isTailOpen vt) (fX11_isMaskOpen vt) xS x rf re r8 rg rl (nI 0) (nI 1) (nI 1) (fX10_ones (nI 1)) F (nI d) (nI s1) (nI s2) H im) (fX11_slidesOne__zV c (nI L) vt (nI st) (nI d) (nI s1) (nI s2) (nI S) (nI E) un zX z z 1) (fX4_execute__r_saturated (nI L) (nI st) (nI md) sat c tb (nI S) (nI E) tm (fX11_isMaskOpen vt) xS x rf re r8 rg rl (nI 0) (nI 1) (nI 1) (fX10_ones (nI 1)) F (nI d) (nI s1) (nI s2) H im) (sat) (fX4_execute__xS (nI L) (nI st) tb (nI S) xS x (nI 0) (nI 1) (fX10_ones (nI 1)) F (nI d) (nI s1) (nI s2) H im) zX ∧ okX4_execute (nI L) (nI st) (nI md) sat c tb (nI S) (nI E) tm (fX11_isMaskOpen vt) xS x rf re r8 rg rl (nI 0) (nI 1) (nI 1) (fX10_ones (nI 1)) F (nI d) (nI s1) (nI s2) H im := by
  obtain ⟨hp, hS, hSe, h2e, hd, h1, h2, hLM, hL, hst, hmd, hF, hmu, hill, him, h0, hX, hreg, hE⟩ := h
  have hr0 := hr_0 (F := F) (Or.inr (Or.inr hF6)) (nI S)
  have cc := cond_S (F := F) (k := 21) (rw := S) (s1 := s1) hp hSe hd h2 hreg (by decide) (by decide) (by decide) hmu
  have mb := mayBe_iff (un := un) (b := s1) hp hSe hSe hSe hd h2 h1 (A := nI s2) (B := -1) (Or.inl rfl) (Or.inr rfl)
  have ex := ex_gen (dw := S) (lw := S) (rw := S) (tb := tb) hp (eE1 hSe) (eE1 hSe) (eE1 hSe) hd h1 h2 hL hst (cg21 hp hSe h2e _ _) hk (by decide) hill (Or.inr (by decide)) him (nI md) sat c tm (fX11_isTailOpen vt) (fX11_isMaskOpen vt) xS x rf re r8 rg rl
  rw [(gn_e hSe).1] at ex
  refine ⟨WO_gen ex.1 (by rw [ex.2.1]; exact hX) (fun q => ?_) (fun q => ?_), ex.2.2⟩
  · obtain ⟨m1, m2, m3, m4, _⟩ := cc.mp q
    have q1 := (legal_iff hp hSe hd).mp m1
    have q3 := (legal_iff hp hSe h2).mp m3
    obtain ⟨a1, a2, a3, a4, a5, a6, a7⟩ := geo_d hp hSe hd hLM q1
    obtain ⟨b1, _⟩ := geo_d hp hSe h2 hLM q3
    have hap := m4
    rw [meets_E hreg, ap_iff hd h2 a2 a2] at hap
    have hm := mb.mpr ⟨q1, m2, fun _ => ⟨q3, over_same _ _ _ _ _ _⟩, fun w => absurd (w ▸ neg1) (nI_nneg h1)⟩
    refine ⟨by unfold fX11_slidesOne rX11_slidesOne_45; rw [if_neg hm, if_neg (show ¬ (1 : Int32) = 0 by decide), if_pos m4]; decide, ?_⟩
    unfold fX11_slidesOne__zV rX11_slidesOne_45__zV
    rw [if_neg hm, if_neg (show ¬ (1 : Int32) = 0 by decide), if_pos m4]
    subst hF6
    exact go_Sy hL hst h0 (fun w => cRun_stop (by omega) w) (fun w => slidesOne_loop hS h0 hX h1 a2 hreg a1 b1 a4 hL w (Or.inl ⟨rfl, rfl, hap⟩) hmu (fun w => by rcases (mask_iff hd hmu).mp m2 with h | h; exact absurd h w; exact h) 0 sat)
  · unfold fX11_slidesOne fX11_slidesOne__zV
    by_cases hm : fX11_mayBe (nI d) (nI S) (nI E) un (nI S) (nI s2) (nI S) (-1) (nI S) = 0
    · rw [if_pos hm, if_pos hm]; exact ⟨rfl, h0, rfl⟩
    · obtain ⟨k1, k2, k3, _⟩ := mb.mp hm
      have m4 : ¬ fX11_meets (nI d) (nI E) (nI s2) (nI E) = 0 := fun w => q (cc.mpr ⟨(legal_iff hp hSe hd).mpr k1, k2, (legal_iff hp hSe h2).mpr (k3 rfl).1, w, fun w => absurd hr0 w⟩)
      rw [if_neg hm, if_neg hm, if_neg (show ¬ (1 : Int32) = 0 by decide), if_neg (show ¬ (1 : Int32) = 0 by decide), if_neg m4, if_neg m4]
      exact ⟨rfl, h0, rfl⟩
theorem slideDown1_WO {S E L st d s1 s2 md : Nat} {F H im un tb : Int32} {x z xS zX : Nat → Int32} (h : HY S E L st d s1 s2 md F im un tb x z xS zX) (hF6 : F = 6) (hk : fX1_kindOf F (nI s1) (nI s2) H im = 22) (vt sat : Int32) (c : Int64) (tm rf re r8 rg : Int32) (rl : Int64) :
    WO (fX11_slidesOne (nI d) (nI s2) (nI S) (nI E) un 0) (fX4_execute (nI st) tb (nI S) (nI E) rf re r8 rg (nI 0) (nI 1) F (nI d) (nI s1) (nI s2) H im) (fX4_execute__xV (nI L) (nI st) (nI md) sat c tb (nI S) (nI E) tm (fX11_isTailOpen vt) (fX11_isMaskOpen vt) xS x rf re r8 rg rl (nI 0) (nI 1) (nI 1) (fX10_ones (nI 1)) F (nI d) (nI s1) (nI s2) H im) (fX11_slidesOne__zV c (nI L) vt (nI st) (nI d) (nI s1) (nI s2) (nI S) (nI E) un zX z z 0) (fX4_execute__r_saturated (nI L) (nI st) (nI md) sat c tb (nI S) (nI E) tm (fX11_isMaskOpen vt) xS x rf re r8 rg rl (nI 0) (nI 1) (nI 1) (fX10_ones (nI 1)) F (nI d) (nI s1) (nI s2) H im) (sat) (fX4_execute__xS (nI L) (nI st) tb (nI S) xS x (nI 0) (nI 1) (fX10_ones (nI 1)) F (nI d) (nI s1) (nI s2) H im) zX ∧ okX4_execute (nI L) (nI st) (nI md) sat c tb (nI S) (nI E) tm (fX11_isMaskOpen vt) xS x rf re r8 rg rl (nI 0) (nI 1) (nI 1) (fX10_ones (nI 1)) F (nI d) (nI s1) (nI s2) H im := by
  obtain ⟨hp, hS, hSe, h2e, hd, h1, h2, hLM, hL, hst, hmd, hF, hmu, hill, him, h0, hX, hreg, hE⟩ := h
  have hr0 := hr_0 (F := F) (Or.inr (Or.inr hF6)) (nI S)
  have cc := cond_A (F := F) (k := 22) (rw := S) hp hSe hSe hSe hd h1 h2 (by decide) (by decide) (by decide) hmu (A := nI s2) (B := -1) (Or.inl ⟨rfl, rfl⟩) (Or.inr ⟨rfl, hr0⟩)
  have ex := ex_gen (dw := S) (lw := S) (rw := S) (tb := tb) hp (eE1 hSe) (eE1 hSe) (eE1 hSe) hd h1 h2 hL hst (cg22 hp hSe h2e _ _) hk (by decide) hill (Or.inr (by decide)) him (nI md) sat c tm (fX11_isTailOpen vt) (fX11_isMaskOpen vt) xS x rf re r8 rg rl
  rw [(gn_e hSe).1] at ex
  refine ⟨WO_gen ex.1 (by rw [ex.2.1]; exact hX) (fun q => ?_) (fun q => ?_), ex.2.2⟩
  · have hm := cc.mp q
    obtain ⟨q1, q2, q3, q4⟩ := okC_A (by decide) hSe (by decide) (by decide) q
    obtain ⟨a1, a2, a3, a4, a5, a6, a7⟩ := geo_d hp hSe hd hLM q1
    obtain ⟨b1, _⟩ := geo_d hp hSe h2 hLM (q3 hSe).1
    refine ⟨by unfold fX11_slidesOne rX11_slidesOne_45; rw [if_neg hm, if_pos rfl]; decide, ?_⟩
    unfold fX11_slidesOne__zV rX11_slidesOne_45__zV
    rw [if_neg hm, if_pos rfl]
    subst hF6
    exact go_Sy hL hst h0 (fun w => cRun_stop (by omega) w) (fun w => slidesOne_loop hS h0 hX h1 a2 hreg a1 b1 a4 hL w (Or.inr ⟨rfl, rfl, (geo hp hSe hSe hd h2 hLM q1 (q3 hSe)).1.gp a3⟩) hmu q2 0 sat)
  · have hm : fX11_mayBe (nI d) (nI S) (nI E) un (nI S) (nI s2) (nI S) (-1) (nI S) = 0 := Classical.byContradiction (fun w => q (cc.mpr w))
    unfold fX11_slidesOne fX11_slidesOne__zV
    rw [if_pos hm, if_pos hm]
    exact ⟨rfl, h0, rfl⟩
theorem gathers_WO {S E L st d s1 s2 md : Nat} {F H im un tb : Int32} {x z xS zX : Nat → Int32} (h : HY S E L st d s1 s2 md F im un tb x z xS zX) (hF3 : F = 0 ∨ F = 3 ∨ F = 4) (hk : fX1_kindOf F (nI s1) (nI s2) H im = 23) {vt : Int32} (hvt : fX11_vlmax vt = nI (16 * E / S)) (sat : Int32) (c : Int64) (rf re r8 rg : Int32) (rl : Int64) :
    WO (fX11_gathers (nI d) (nI s1) (nI s2) F (nI S) (nI E) un (nI S)) (fX4_execute (nI st) tb (nI S) (nI E) rf re r8 rg (nI 0) (nI 1) F (nI d) (nI s1) (nI s2) H im) (fX4_execute__xV (nI L) (nI st) (nI md) sat c tb (nI S) (nI E) (nI (16 * E / S)) (fX11_isTailOpen vt) (fX11_isMaskOpen vt) xS x rf re r8 rg rl (nI 0) (nI 1) (nI 1) (fX10_ones (nI 1)) F (nI d) (nI s1) (nI s2) H im) (fX11_gathers__zV c (nI L) vt (nI st) (nI d) (nI s1) (nI s2) F (nI S) (nI E) un zX z z (nI S)) (fX4_execute__r_saturated (nI L) (nI st) (nI md) sat c tb (nI S) (nI E) (nI (16 * E / S)) (fX11_isMaskOpen vt) xS x rf re r8 rg rl (nI 0) (nI 1) (nI 1) (fX10_ones (nI 1)) F (nI d) (nI s1) (nI s2) H im) (sat) (fX4_execute__xS (nI L) (nI st) tb (nI S) xS x (nI 0) (nI 1) (fX10_ones (nI 1)) F (nI d) (nI s1) (nI s2) H im) zX ∧ okX4_execute (nI L) (nI st) (nI md) sat c tb (nI S) (nI E) (nI (16 * E / S)) (fX11_isMaskOpen vt) xS x rf re r8 rg rl (nI 0) (nI 1) (nI 1) (fX10_ones (nI 1)) F (nI d) (nI s1) (nI s2) H im := by
  obtain ⟨hp, hS, hSe, h2e, hd, h1, h2, hLM, hL, hst, hmd, hF, hmu, hill, him, h0, hX, hreg, hE⟩ := h
  have h16 : (16 : Nat) ∈ eews := by decide
  have z16 : (16 : Int32) = nI 16 := by decide
  have hv : F = 0 → ¬ pX4_cover_31_S2 F (nI S) = 0 := fun w => by rw [hr_eq (eE1 hSe) (by exact (e_ne1 hSe).2), w]; decide
  have cc := cond_S (F := F) (k := 23) (rw := S) (s1 := s1) hp hSe hd h2 hreg (by decide) (by decide) (by decide) hmu
  have mE : fX11_meets (nI d) (nI E) (nI s1) (fX11_emul (nI S) (nI E) (nI S)) = fX2_meets (nI d) (nI (gN S E S)) (nI s1) (nI (gN S E S)) := by
    rw [(G1 hp hSe).2.1]
    unfold fX11_meets
    rw [hreg, (G1 hp hSe).2.2.2.1]; rfl
  have pt : F = 0 → (okS S E 23 S d S s1 ↔ (legalG S E S s1 = true ∧ fX2_meets (nI d) (nI (gN S E S)) (nI s1) (nI (gN S E S)) = 0)) := by
    intro _
    unfold okS mtC
    rw [if_neg (by decide), (gn_e hSe).1, (gn_e hSe).2.2]
  have ex := ex_gen (dw := S) (lw := S) (rw := S) (tb := tb) hp (eE1 hSe) (eE1 hSe) (eE1 hSe) hd h1 h2 hL hst (cg23 hp hSe h2e _ _) hk (by decide) hill (Or.inr (by decide)) him (nI md) sat c ((nI (16 * E / S))) (fX11_isTailOpen vt) (fX11_isMaskOpen vt) xS x rf re r8 rg rl
  rw [(gn_e hSe).1] at ex
  refine ⟨WO_gen ex.1 (by rw [ex.2.1]; exact hX) (fun q => ?_) (fun q => ?_), ex.2.2⟩
  · obtain ⟨m1, m2, m3, m4, m5⟩ := cc.mp q
    have q1 := (legal_iff hp hSe hd).mp m1
    have q3 := (legal_iff hp hSe h2).mp m3
    obtain ⟨a1, a2, a3, a4, a5, a6, a7⟩ := geo_d hp hSe hd hLM q1
    obtain ⟨b1, _⟩ := geo_d hp hSe h2 hLM q3
    have hap := m4
    rw [meets_E hreg, ap_iff hd h2 a2 a2] at hap
    have hLS : 16 * E / S * S ≤ gN S E S * 128 := (G3 hp hSe hd q1).2.2.1
    have hV : F = 0 → s1 + gN S E S ≤ 32 ∧ L * S ≤ gN S E S * 128 ∧ (d + gN S E S ≤ s1 ∨ s1 + gN S E S ≤ d) := by
      intro w
      obtain ⟨n1, n2⟩ := (pt w).mp (m5 (hv w))
      obtain ⟨c1, c2, c3, c4, _⟩ := geo_d hp hSe h1 hLM n1
      rw [ap_iff hd h1 a2 c2] at n2
      exact ⟨c1, c4, n2⟩
    have hj : ∀ {α : Type} (X Y : α), (if fX11_isV F = 0 then X else (if fX11_isGroup (nI S) (nI E) (nI s1) (nI S) = 0 then Y else (if fX11_meets (nI d) (nI E) (nI s1) (fX11_emul (nI S) (nI E) (nI S)) = 0 then X else Y))) = X := by
      intro α X Y
      by_cases w : F = 0
      · obtain ⟨n1, n2⟩ := (pt w).mp (m5 (hv w))
        rw [← legal_iff hp hSe h1] at n1
        rw [if_neg (by rw [w]; decide), show nI S = nI S from rfl] at *
        rw [if_neg n1, mE, if_pos n2]
      · rw [if_pos (by rcases hF3 with h | h | h; exact absurd h w; rw [h]; decide; rw [h]; decide)]
    refine ⟨by unfold fX11_gathers rX11_gathers_95; rw [if_neg m1, if_neg m2, if_neg m3, if_pos m4, hj]; decide, ?_⟩
    unfold fX11_gathers__zV rX11_gathers_95__zV
    rw [if_neg m1, if_neg m2, if_neg m3, if_pos m4, hj]
    exact go_Sy hL hst h0 (fun w => cRun_stop (by omega) w) (fun w => gathers_loop (M := 16 * E / S) (B := S) (g1 := gN S E S) hS hS h0 hX h1 a2 hreg a1 b1 hap hLS hLM hL w (by decide) hF3 (hr_eq (eE1 hSe) (by exact (e_ne1 hSe).2)) hV hvt hmu (fun w => by rcases (mask_iff hd hmu).mp m2 with h | h; exact absurd h w; exact h) 0 sat)
  · unfold fX11_gathers fX11_gathers__zV
    by_cases m1 : fX11_isGroup (nI S) (nI E) (nI d) (nI S) = 0
    · rw [if_pos m1, if_pos m1]; exact ⟨rfl, h0, rfl⟩
    rw [if_neg m1, if_neg m1]
    by_cases m2 : fX11_mayMask un (nI d) = 0
    · rw [if_pos m2, if_pos m2]; exact ⟨rfl, h0, rfl⟩
    rw [if_neg m2, if_neg m2]
    by_cases m3 : fX11_isGroup (nI S) (nI E) (nI s2) (nI S) = 0
    · rw [if_pos m3, if_pos m3]; exact ⟨rfl, h0, rfl⟩
    rw [if_neg m3, if_neg m3]
    by_cases m4 : ¬ fX11_meets (nI d) (nI E) (nI s2) (nI E) = 0
    · rw [if_neg m4, if_neg m4]; exact ⟨rfl, h0, rfl⟩
    have m4 : fX11_meets (nI d) (nI E) (nI s2) (nI E) = 0 := Classical.byContradiction m4
    have w : F = 0 := Classical.byContradiction (fun w => q (cc.mpr ⟨m1, m2, m3, m4, fun w2 => absurd (hr_0 (by rcases hF3 with h | h | h; exact absurd h w; exact Or.inl h; exact Or.inr (Or.inl h)) _) w2⟩))
    have hn : ¬ okS S E 23 S d S s1 := fun o => q (cc.mpr ⟨m1, m2, m3, m4, fun _ => o⟩)
    have hv0 : ¬ fX11_isV F = 0 := by rw [w]; decide
    rw [if_pos m4, if_pos m4, if_neg hv0, if_neg hv0]
    by_cases n1 : fX11_isGroup (nI S) (nI E) (nI s1) (nI S) = 0
    · rw [if_pos n1, if_pos n1]; exact ⟨rfl, h0, rfl⟩
    rw [if_neg n1, if_neg n1]
    have n2 : ¬ fX11_meets (nI d) (nI E) (nI s1) (fX11_emul (nI S) (nI E) (nI S)) = 0 := by
      intro e
      rw [mE] at e
      exact hn ((pt w).mpr ⟨(legal_iff hp hSe h1).mp n1, e⟩)
    rw [if_neg n2, if_neg n2]
    exact ⟨rfl, h0, rfl⟩
theorem gathers16_WO {S E L st d s1 s2 md : Nat} {F H im un tb : Int32} {x z xS zX : Nat → Int32} (h : HY S E L st d s1 s2 md F im un tb x z xS zX) (hF3 : F = 0 ∨ F = 3 ∨ F = 4) (hk : fX1_kindOf F (nI s1) (nI s2) H im = 24) {vt : Int32} (hvt : fX11_vlmax vt = nI (16 * E / S)) (sat : Int32) (c : Int64) (rf re r8 rg : Int32) (rl : Int64) :
    WO (fX11_gathers (nI d) (nI s1) (nI s2) F (nI S) (nI E) un 16) (fX4_execute (nI st) tb (nI S) (nI E) rf re r8 rg (nI 0) (nI 1) F (nI d) (nI s1) (nI s2) H im) (fX4_execute__xV (nI L) (nI st) (nI md) sat c tb (nI S) (nI E) (nI (16 * E / S)) (fX11_isTailOpen vt) (fX11_isMaskOpen vt) xS x rf re r8 rg rl (nI 0) (nI 1) (nI 1) (fX10_ones (nI 1)) F (nI d) (nI s1) (nI s2) H im) (fX11_gathers__zV c (nI L) vt (nI st) (nI d) (nI s1) (nI s2) F (nI S) (nI E) un zX z z 16) (fX4_execute__r_saturated (nI L) (nI st) (nI md) sat c tb (nI S) (nI E) (nI (16 * E / S)) (fX11_isMaskOpen vt) xS x rf re r8 rg rl (nI 0) (nI 1) (nI 1) (fX10_ones (nI 1)) F (nI d) (nI s1) (nI s2) H im) (sat) (fX4_execute__xS (nI L) (nI st) tb (nI S) xS x (nI 0) (nI 1) (fX10_ones (nI 1)) F (nI d) (nI s1) (nI s2) H im) zX ∧ okX4_execute (nI L) (nI st) (nI md) sat c tb (nI S) (nI E) (nI (16 * E / S)) (fX11_isMaskOpen vt) xS x rf re r8 rg rl (nI 0) (nI 1) (nI 1) (fX10_ones (nI 1)) F (nI d) (nI s1) (nI s2) H im := by
  obtain ⟨hp, hS, hSe, h2e, hd, h1, h2, hLM, hL, hst, hmd, hF, hmu, hill, him, h0, hX, hreg, hE⟩ := h
  have h16 : (16 : Nat) ∈ eews := by decide
  have z16 : (16 : Int32) = nI 16 := by decide
  have hv : F = 0 → ¬ pX4_cover_31_S2 F (nI 16) = 0 := fun w => by rw [hr_eq (by decide) (by decide), w]; decide
  have cc := cond_S (F := F) (k := 24) (rw := 16) (s1 := s1) hp hSe hd h2 hreg (by decide) (by decide) (by decide) hmu
  have mE : fX11_meets (nI d) (nI E) (nI s1) (fX11_emul (nI S) (nI E) 16) = fX2_meets (nI d) (nI (gN S E S)) (nI s1) (nI (gN S E 16)) := by
    rw [z16]
    rw [(G1 hp h16).2.1]
    unfold fX11_meets
    rw [hreg, (G1 hp h16).2.2.2.1]; rfl
  have pt : F = 0 → (okS S E 24 S d 16 s1 ↔ (legalG S E 16 s1 = true ∧ fX2_meets (nI d) (nI (gN S E S)) (nI s1) (nI (gN S E 16)) = 0)) := by
    intro _
    unfold okS mtC
    rw [if_neg (by decide), (gn_e hSe).1, (gn_e h16).2.2, (gn_e h16).1]
  have ex := ex_gen (dw := S) (lw := S) (rw := 16) (tb := tb) hp (eE1 hSe) (eE1 hSe) (by decide) hd h1 h2 hL hst (cg24 hp hSe h2e _ _) hk (by decide) hill (Or.inr (by decide)) him (nI md) sat c ((nI (16 * E / S))) (fX11_isTailOpen vt) (fX11_isMaskOpen vt) xS x rf re r8 rg rl
  rw [(gn_e hSe).1] at ex
  refine ⟨WO_gen ex.1 (by rw [ex.2.1]; exact hX) (fun q => ?_) (fun q => ?_), ex.2.2⟩
  · obtain ⟨m1, m2, m3, m4, m5⟩ := cc.mp q
    have q1 := (legal_iff hp hSe hd).mp m1
    have q3 := (legal_iff hp hSe h2).mp m3
    obtain ⟨a1, a2, a3, a4, a5, a6, a7⟩ := geo_d hp hSe hd hLM q1
    obtain ⟨b1, _⟩ := geo_d hp hSe h2 hLM q3
    have hap := m4
    rw [meets_E hreg, ap_iff hd h2 a2 a2] at hap
    have hLS : 16 * E / S * S ≤ gN S E S * 128 := (G3 hp hSe hd q1).2.2.1
    have hV : F = 0 → s1 + gN S E 16 ≤ 32 ∧ L * 16 ≤ gN S E 16 * 128 ∧ (d + gN S E S ≤ s1 ∨ s1 + gN S E 16 ≤ d) := by
      intro w
      obtain ⟨n1, n2⟩ := (pt w).mp (m5 (hv w))
      obtain ⟨c1, c2, c3, c4, _⟩ := geo_d hp h16 h1 hLM n1
      rw [ap_iff hd h1 a2 c2] at n2
      exact ⟨c1, c4, n2⟩
    have hj : ∀ {α : Type} (X Y : α), (if fX11_isV F = 0 then X else (if fX11_isGroup (nI S) (nI E) (nI s1) 16 = 0 then Y else (if fX11_meets (nI d) (nI E) (nI s1) (fX11_emul (nI S) (nI E) 16) = 0 then X else Y))) = X := by
      intro α X Y
      by_cases w : F = 0
      · obtain ⟨n1, n2⟩ := (pt w).mp (m5 (hv w))
        rw [← legal_iff hp h16 h1] at n1
        rw [if_neg (by rw [w]; decide), ← z16] at *
        rw [if_neg n1, mE, if_pos n2]
      · rw [if_pos (by rcases hF3 with h | h | h; exact absurd h w; rw [h]; decide; rw [h]; decide)]
    refine ⟨by unfold fX11_gathers rX11_gathers_95; rw [if_neg m1, if_neg m2, if_neg m3, if_pos m4, hj]; decide, ?_⟩
    unfold fX11_gathers__zV rX11_gathers_95__zV
    rw [if_neg m1, if_neg m2, if_neg m3, if_pos m4, hj]
    exact go_Sy hL hst h0 (fun w => cRun_stop (by omega) w) (fun w => gathers_loop (M := 16 * E / S) (B := 16) (g1 := gN S E 16) hS (Or.inr (Or.inl rfl)) h0 hX h1 a2 hreg a1 b1 hap hLS hLM hL w (by decide) hF3 (hr_eq (by decide) (by decide)) hV hvt hmu (fun w => by rcases (mask_iff hd hmu).mp m2 with h | h; exact absurd h w; exact h) 0 sat)
  · unfold fX11_gathers fX11_gathers__zV
    by_cases m1 : fX11_isGroup (nI S) (nI E) (nI d) (nI S) = 0
    · rw [if_pos m1, if_pos m1]; exact ⟨rfl, h0, rfl⟩
    rw [if_neg m1, if_neg m1]
    by_cases m2 : fX11_mayMask un (nI d) = 0
    · rw [if_pos m2, if_pos m2]; exact ⟨rfl, h0, rfl⟩
    rw [if_neg m2, if_neg m2]
    by_cases m3 : fX11_isGroup (nI S) (nI E) (nI s2) (nI S) = 0
    · rw [if_pos m3, if_pos m3]; exact ⟨rfl, h0, rfl⟩
    rw [if_neg m3, if_neg m3]
    by_cases m4 : ¬ fX11_meets (nI d) (nI E) (nI s2) (nI E) = 0
    · rw [if_neg m4, if_neg m4]; exact ⟨rfl, h0, rfl⟩
    have m4 : fX11_meets (nI d) (nI E) (nI s2) (nI E) = 0 := Classical.byContradiction m4
    have w : F = 0 := Classical.byContradiction (fun w => q (cc.mpr ⟨m1, m2, m3, m4, fun w2 => absurd (hr_0 (by rcases hF3 with h | h | h; exact absurd h w; exact Or.inl h; exact Or.inr (Or.inl h)) _) w2⟩))
    have hn : ¬ okS S E 24 S d 16 s1 := fun o => q (cc.mpr ⟨m1, m2, m3, m4, fun _ => o⟩)
    have hv0 : ¬ fX11_isV F = 0 := by rw [w]; decide
    rw [if_pos m4, if_pos m4, if_neg hv0, if_neg hv0]
    by_cases n1 : fX11_isGroup (nI S) (nI E) (nI s1) 16 = 0
    · rw [if_pos n1, if_pos n1]; exact ⟨rfl, h0, rfl⟩
    rw [if_neg n1, if_neg n1]
    have n2 : ¬ fX11_meets (nI d) (nI E) (nI s1) (fX11_emul (nI S) (nI E) 16) = 0 := by
      intro e
      rw [mE] at e
      rw [z16] at n1
      exact hn ((pt w).mpr ⟨(legal_iff hp h16 h1).mp n1, e⟩)
    rw [if_neg n2, if_neg n2]
    exact ⟨rfl, h0, rfl⟩
