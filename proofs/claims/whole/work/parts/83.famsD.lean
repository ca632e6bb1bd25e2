/-! ===== what starts at zero ===== -/
theorem compresses_WO {S E L st d s1 s2 md : Nat} {F H im un tb : Int32} {x z xS zX : Nat → Int32} (h : HY S E L st d s1 s2 md F im un tb x z xS zX) (hun : ¬ un = 0) (hF2 : F = 2) (hz : st = 0) (hk : fX1_kindOf F (nI s1) (nI s2) H im = 25) (vt sat : Int32) (c : Int64) (tm rf re r8 rg : Int32) (rl : Int64) :
    WO (fX11_compresses (nI st) (nI d) (nI s1) (nI s2) (nI S) (nI E) un) (fX4_execute (nI st) tb (nI S) (nI E) rf re r8 rg (nI 0) (nI 1) F (nI d) (nI s1) (nI s2) H im) (fX4_execute__xV (nI L) (nI st) (nI md) sat c tb (nI S) (nI E) tm (fX11_isTailOpen vt) (fX11_isMaskOpen vt) xS x rf re r8 rg rl (nI 0) (nI 1) (nI 1) (fX10_ones (nI 1)) F (nI d) (nI s1) (nI s2) H im) (fX11_compresses__zV c (nI L) vt (nI st) (nI d) (nI s1) (nI s2) (nI S) (nI E) un z z) (fX4_execute__r_saturated (nI L) (nI st) (nI md) sat c tb (nI S) (nI E) tm (fX11_isMaskOpen vt) xS x rf re r8 rg rl (nI 0) (nI 1) (nI 1) (fX10_ones (nI 1)) F (nI d) (nI s1) (nI s2) H im) (sat) (fX4_execute__xS (nI L) (nI st) tb (nI S) xS x (nI 0) (nI 1) (fX10_ones (nI 1)) F (nI d) (nI s1) (nI s2) H im) zX ∧ okX4_execute (nI L) (nI st) (nI md) sat c tb (nI S) (nI E) tm (fX11_isMaskOpen vt) xS x rf re r8 rg rl (nI 0) (nI 1) (nI 1) (fX10_ones (nI 1)) F (nI d) (nI s1) (nI s2) H im := by
  obtain ⟨hp, hS, hSe, h2e, hd, h1, h2, hLM, hL, hst, hmd, hF, hmu, hill, him, h0, hX, hreg, hE⟩ := h
  have z0 : nI st = 0 := by rw [hz]; decide
  have hv : ¬ pX4_cover_31_S2 F (nI 1) = 0 := by rw [hr_eq (by decide) (by decide), hF2]; decide
  have cc := cond_S (F := F) (k := 25) (rw := 1) (s1 := s1) hp hSe hd h2 hreg (by decide) (by decide) (by decide) hmu
  have pt : okS S E 25 S d 1 s1 ↔ fX2_meets (nI d) (nI (gN S E S)) (nI s1) (nI 1) = 0 := by
    unfold okS mtC
    rw [if_neg (by decide), (gn_e hSe).1, (gn_1 S E).1, (gn_1 S E).2.2]
    exact ⟨fun w => w.2, fun w => ⟨rfl, w⟩⟩
  have ex := ex_gen (dw := S) (lw := S) (rw := 1) (tb := tb) hp (eE1 hSe) (eE1 hSe) (by decide) hd h1 h2 hL hst (cg25 hp hSe h2e _ _) hk (by decide) hill (Or.inl hz) him (nI md) sat c tm (fX11_isTailOpen vt) (fX11_isMaskOpen vt) xS x rf re r8 rg rl
  rw [(gn_e hSe).1] at ex
  refine ⟨WO_gen ex.1 (by rw [ex.2.1]; exact hX) (fun q => ?_) (fun q => ?_), ex.2.2⟩
  · obtain ⟨m1, m2, m3, m4, m5⟩ := cc.mp q
    have q1 := (legal_iff hp hSe hd).mp m1
    have q3 := (legal_iff hp hSe h2).mp m3
    obtain ⟨a1, a2, a3, a4, a5, a6, a7⟩ := geo_d hp hSe hd hLM q1
    obtain ⟨b1, _⟩ := geo_d hp hSe h2 hLM q3
    have hap := m4
    rw [meets_E hreg, ap_iff hd h2 a2 a2] at hap
    have hap1 := pt.mp (m5 hv)
    have m6 : fX11_meets (nI d) (nI E) (nI s1) 8 = 0 := by rw [meets_8 hreg]; exact hap1
    rw [ap_iff hd h1 a2 (by decide)] at hap1
    refine ⟨by unfold fX11_compresses; rw [if_neg hun, if_pos z0, if_neg m1, if_neg m3, if_pos m4, if_pos m6]; decide, ?_⟩
    unfold fX11_compresses__zV
    rw [if_neg hun, if_pos z0, if_neg m1, if_neg m3, if_pos m4, if_pos m6]
    subst hz
    exact go_Sy hL hst h0 (fun w => cRun_stop (by omega) w) (fun w => compresses_loop hS h0 a2 hreg a1 b1 h1 hap hap1 a4 hL w 0 sat)
  · unfold fX11_compresses fX11_compresses__zV
    rw [if_neg hun, if_neg hun, if_pos z0, if_pos z0]
    by_cases m1 : fX11_isGroup (nI S) (nI E) (nI d) (nI S) = 0
    · rw [if_pos m1, if_pos m1]; exact ⟨rfl, h0, rfl⟩
    rw [if_neg m1, if_neg m1]
    by_cases m3 : fX11_isGroup (nI S) (nI E) (nI s2) (nI S) = 0
    · rw [if_pos m3, if_pos m3]; exact ⟨rfl, h0, rfl⟩
    rw [if_neg m3, if_neg m3]
    by_cases m4 : ¬ fX11_meets (nI d) (nI E) (nI s2) (nI E) = 0
    · rw [if_neg m4, if_neg m4]; exact ⟨rfl, h0, rfl⟩
    have m4 : fX11_meets (nI d) (nI E) (nI s2) (nI E) = 0 := Classical.byContradiction m4
    have m6 : ¬ fX11_meets (nI d) (nI E) (nI s1) 8 = 0 := by
      intro w
      rw [meets_8 hreg] at w
      exact q (cc.mpr ⟨m1, (mask_iff hd hmu).mpr (Or.inl (hmu.mpr hun)), m3, m4, fun _ => pt.mpr w⟩)
    rw [if_pos m4, if_pos m4, if_neg m6, if_neg m6]
    exact ⟨rfl, h0, rfl⟩
theorem firsts_WO {S E L st d s1 s2 md : Nat} {F H im un tb : Int32} {x z xS zX : Nat → Int32} (h : HY S E L st d s1 s2 md F im un tb x z xS zX) (hs1 : s1 = 1 ∨ s1 = 2 ∨ s1 = 3) (hz : st = 0) (hk : fX1_kindOf F (nI s1) (nI s2) H im = 14) (vt sat : Int32) (c : Int64) (tm rf re r8 rg : Int32) (rl : Int64) :
    WO (fX11_firsts (nI st) (nI d) (nI s2) un) (fX4_execute (nI st) tb (nI S) (nI E) rf re r8 rg (nI 0) (nI 1) F (nI d) (nI s1) (nI s2) H im) (fX4_execute__xV (nI L) (nI st) (nI md) sat c tb (nI S) (nI E) tm (fX11_isTailOpen vt) (fX11_isMaskOpen vt) xS x rf re r8 rg rl (nI 0) (nI 1) (nI 1) (fX10_ones (nI 1)) F (nI d) (nI s1) (nI s2) H im) (fX11_firsts__zV c (nI L) vt (nI st) (nI d) (nI s1) (nI s2) un z z) (fX4_execute__r_saturated (nI L) (nI st) (nI md) sat c tb (nI S) (nI E) tm (fX11_isMaskOpen vt) xS x rf re r8 rg rl (nI 0) (nI 1) (nI 1) (fX10_ones (nI 1)) F (nI d) (nI s1) (nI s2) H im) (sat) (fX4_execute__xS (nI L) (nI st) tb (nI S) xS x (nI 0) (nI 1) (fX10_ones (nI 1)) F (nI d) (nI s1) (nI s2) H im) zX ∧ okX4_execute (nI L) (nI st) (nI md) sat c tb (nI S) (nI E) tm (fX11_isMaskOpen vt) xS x rf re r8 rg rl (nI 0) (nI 1) (nI 1) (fX10_ones (nI 1)) F (nI d) (nI s1) (nI s2) H im := by
  obtain ⟨hp, hS, hSe, h2e, hd, h1, h2, hLM, hL, hst, hmd, hF, hmu, hill, him, h0, hX, hreg, hE⟩ := h
  have z0 : nI st = 0 := by rw [hz]; decide
  have hr0 : pX4_cover_31_S2 F (nI 0) = 0 := by unfold pX4_cover_31_S2; rw [if_pos (by decide)]
  have cc : okC S E 14 F im d 1 s2 1 s1 0 ↔ (¬ d = s2 ∧ (im = 0 ∨ ¬ d = 0)) := by
    unfold okC okS mtC
    rw [if_neg (by decide), (gn_1 S E).1, (gn_1 S E).2.2, (gn_1 S E).2.2, meets_iff (by omega) (by omega)]
    constructor
    · rintro ⟨_, a2, a3, _⟩
      refine ⟨by have := (a3 (by decide)).2; omega, ?_⟩
      rcases a2 with h | h | h | h
      · exact Or.inl h
      · exact Or.inr h
      · exact absurd h (by decide)
      · exact absurd h (by decide)
    · rintro ⟨a1, a2⟩
      refine ⟨rfl, ?_, fun _ => ⟨rfl, by omega⟩, fun w => absurd hr0 w⟩
      rcases a2 with h | h
      · exact Or.inl h
      · exact Or.inr (Or.inl h)
  have ex := ex_gen (dw := 1) (lw := 1) (rw := 0) (tb := tb) hp (by decide) (by decide) (by decide) hd h1 h2 hL hst (cg14 hp hSe h2e _ _) hk (by decide) hill (Or.inl hz) him (nI md) sat c tm (fX11_isTailOpen vt) (fX11_isMaskOpen vt) xS x rf re r8 rg rl
  rw [(gn_1 S E).1] at ex
  refine ⟨WO_gen ex.1 (by rw [ex.2.1]; exact hX) (fun q => ?_) (fun q => ?_), ex.2.2⟩
  · obtain ⟨k1, k2⟩ := cc.mp q
    have m2 := (mask_iff hd hmu).mpr k2
    have ne : ¬ nI d = nI s2 := fun w => k1 ((nI_eq (by omega) (by omega)).mp w)
    refine ⟨by unfold fX11_firsts; rw [if_pos z0, if_neg ne, if_neg m2]; decide, ?_⟩
    unfold fX11_firsts__zV
    rw [if_pos z0, if_neg ne, if_neg m2]
    subst hz
    exact go_Sy hL hst h0 (fun w => cRun_stop (by omega) w) (fun w => firsts_loop h0 hd h2 k1 hs1 hL w hmu (fun w => by rcases k2 with h | h; exact absurd h w; exact h) sat)
  · unfold fX11_firsts fX11_firsts__zV
    rw [if_pos z0, if_pos z0]
    by_cases ne : nI d = nI s2
    · rw [if_pos ne, if_pos ne]; exact ⟨rfl, h0, rfl⟩
    rw [if_neg ne, if_neg ne]
    have m2 : fX11_mayMask un (nI d) = 0 := Classical.byContradiction (fun w => q (cc.mpr ⟨fun e => ne (by rw [e]), (mask_iff hd hmu).mp w⟩))
    rw [if_pos m2, if_pos m2]
    exact ⟨rfl, h0, rfl⟩
theorem counts_WO {S E L st d s1 s2 md : Nat} {F H im un tb : Int32} {x z xS zX : Nat → Int32} (h : HY S E L st d s1 s2 md F im un tb x z xS zX) (hz : st = 0) (hk : fX1_kindOf F (nI s1) (nI s2) H im = 15) (vt sat : Int32) (c : Int64) (tm rf re r8 rg : Int32) (rl : Int64) :
    WO (fX11_counts (nI st) (nI d) (nI s2) (nI S) (nI E) un) (fX4_execute (nI st) tb (nI S) (nI E) rf re r8 rg (nI 0) (nI 1) F (nI d) (nI s1) (nI s2) H im) (fX4_execute__xV (nI L) (nI st) (nI md) sat c tb (nI S) (nI E) tm (fX11_isTailOpen vt) (fX11_isMaskOpen vt) xS x rf re r8 rg rl (nI 0) (nI 1) (nI 1) (fX10_ones (nI 1)) F (nI d) (nI s1) (nI s2) H im) (fX11_counts__zV c (nI L) vt (nI st) (nI d) (nI s2) (nI S) (nI E) un z z) (fX4_execute__r_saturated (nI L) (nI st) (nI md) sat c tb (nI S) (nI E) tm (fX11_isMaskOpen vt) xS x rf re r8 rg rl (nI 0) (nI 1) (nI 1) (fX10_ones (nI 1)) F (nI d) (nI s1) (nI s2) H im) (sat) (fX4_execute__xS (nI L) (nI st) tb (nI S) xS x (nI 0) (nI 1) (fX10_ones (nI 1)) F (nI d) (nI s1) (nI s2) H im) zX ∧ okX4_execute (nI L) (nI st) (nI md) sat c tb (nI S) (nI E) tm (fX11_isMaskOpen vt) xS x rf re r8 rg rl (nI 0) (nI 1) (nI 1) (fX10_ones (nI 1)) F (nI d) (nI s1) (nI s2) H im := by
  obtain ⟨hp, hS, hSe, h2e, hd, h1, h2, hLM, hL, hst, hmd, hF, hmu, hill, him, h0, hX, hreg, hE⟩ := h
  have z0 : nI st = 0 := by rw [hz]; decide
  have hr0 : pX4_cover_31_S2 F (nI 0) = 0 := by unfold pX4_cover_31_S2; rw [if_pos (by decide)]
  have cc : okC S E 15 F im d S s2 1 s1 0 ↔ (¬ fX11_isGroup (nI S) (nI E) (nI d) (nI S) = 0 ∧ ¬ fX11_mayMask un (nI d) = 0 ∧ fX11_meets (nI d) (nI E) (nI s2) 8 = 0) := by
    rw [legal_iff hp hSe hd, mask_iff hd hmu, meets_8 hreg]
    unfold okC okS mtC
    rw [if_neg (by decide), (gn_e hSe).1, (gn_e hSe).2.2, (gn_1 S E).1, (gn_1 S E).2.2]
    constructor
    · rintro ⟨a1, a2, a3, _⟩
      refine ⟨a1, ?_, (a3 (by decide)).2⟩
      rcases a2 with h | h | h | h
      · exact Or.inl h
      · exact Or.inr h
      · exact absurd h (by decide)
      · exact absurd h (by decide)
    · rintro ⟨a1, a2, a3⟩
      refine ⟨a1, ?_, fun _ => ⟨rfl, a3⟩, fun w => absurd hr0 w⟩
      rcases a2 with h | h
      · exact Or.inl h
      · exact Or.inr (Or.inl h)
  have ex := ex_gen (dw := S) (lw := 1) (rw := 0) (tb := tb) hp (eE1 hSe) (by decide) (by decide) hd h1 h2 hL hst (cg15 hp hSe h2e _ _) hk (by decide) hill (Or.inl hz) him (nI md) sat c tm (fX11_isTailOpen vt) (fX11_isMaskOpen vt) xS x rf re r8 rg rl
  rw [(gn_e hSe).1] at ex
  refine ⟨WO_gen ex.1 (by rw [ex.2.1]; exact hX) (fun q => ?_) (fun q => ?_), ex.2.2⟩
  · obtain ⟨m1, m2, m4⟩ := cc.mp q
    have q1 := (legal_iff hp hSe hd).mp m1
    obtain ⟨a1, a2, a3, a4, a5, a6, a7⟩ := geo_d hp hSe hd hLM q1
    have hap := m4
    rw [meets_8 hreg, ap_iff hd h2 a2 (by decide)] at hap
    refine ⟨by unfold fX11_counts; rw [if_pos z0, if_neg m1, if_neg m2, if_pos m4]; decide, ?_⟩
    unfold fX11_counts__zV
    rw [if_pos z0, if_neg m1, if_neg m2, if_pos m4]
    subst hz
    exact go_Sy hL hst h0 (fun w => cRun_stop (by omega) w) (fun w => counts_loop hS h0 a2 hreg a1 h2 hap a4 hL w hmu (fun w => by rcases (mask_iff hd hmu).mp m2 with h | h; exact absurd h w; exact h) sat)
  · unfold fX11_counts fX11_counts__zV
    rw [if_pos z0, if_pos z0]
    by_cases m1 : fX11_isGroup (nI S) (nI E) (nI d) (nI S) = 0
    · rw [if_pos m1, if_pos m1]; exact ⟨rfl, h0, rfl⟩
    rw [if_neg m1, if_neg m1]
    by_cases m2 : fX11_mayMask un (nI d) = 0
    · rw [if_pos m2, if_pos m2]; exact ⟨rfl, h0, rfl⟩
    rw [if_neg m2, if_neg m2]
    have m4 : ¬ fX11_meets (nI d) (nI E) (nI s2) 8 = 0 := fun w => q (cc.mpr ⟨m1, m2, w⟩)
    rw [if_neg m4, if_neg m4]
    exact ⟨rfl, h0, rfl⟩
theorem compresses_Z {S E L st d s1 s2 md : Nat} {F H im un tb : Int32} {x z xS zX : Nat → Int32} (h : HY S E L st d s1 s2 md F im un tb x z xS zX) (hz : ¬ st = 0) (hk : fX1_kindOf F (nI s1) (nI s2) H im = 25) (vt sat : Int32) (c : Int64) (tm rf re r8 rg : Int32) (rl : Int64) :
    WO (fX11_compresses (nI st) (nI d) (nI s1) (nI s2) (nI S) (nI E) un) (fX4_execute (nI st) tb (nI S) (nI E) rf re r8 rg (nI 0) (nI 1) F (nI d) (nI s1) (nI s2) H im) (fX4_execute__xV (nI L) (nI st) (nI md) sat c tb (nI S) (nI E) tm (fX11_isTailOpen vt) (fX11_isMaskOpen vt) xS x rf re r8 rg rl (nI 0) (nI 1) (nI 1) (fX10_ones (nI 1)) F (nI d) (nI s1) (nI s2) H im) (fX11_compresses__zV c (nI L) vt (nI st) (nI d) (nI s1) (nI s2) (nI S) (nI E) un z z) (fX4_execute__r_saturated (nI L) (nI st) (nI md) sat c tb (nI S) (nI E) tm (fX11_isMaskOpen vt) xS x rf re r8 rg rl (nI 0) (nI 1) (nI 1) (fX10_ones (nI 1)) F (nI d) (nI s1) (nI s2) H im) sat (fX4_execute__xS (nI L) (nI st) tb (nI S) xS x (nI 0) (nI 1) (fX10_ones (nI 1)) F (nI d) (nI s1) (nI s2) H im) zX ∧ okX4_execute (nI L) (nI st) (nI md) sat c tb (nI S) (nI E) tm (fX11_isMaskOpen vt) xS x rf re r8 rg rl (nI 0) (nI 1) (nI 1) (fX10_ones (nI 1)) F (nI d) (nI s1) (nI s2) H im := by
  obtain ⟨hp, hS, hSe, h2e, hd, h1, h2, hLM, hL, hst, hmd, hF, hmu, hill, him, h0, hX, hreg, hE⟩ := h
  have z0 : ¬ nI st = 0 := nI_ne0 (by omega) (by omega)
  have ok := ok_gen (dw := S) (lw := S) (rw := 1) (tb := tb) hp (eE1 hSe) (eE1 hSe) (by decide) hd h1 h2 hL hst (cg25 hp hSe h2e _ _) hk (by decide) hill him (nI md) sat c tm (fX11_isTailOpen vt) (fX11_isMaskOpen vt) xS x rf re r8 rg rl
  obtain ⟨e1, e2, e3, e4⟩ := ex_zero (L := L) (S := nI S) (E := nI E) (d := nI d) (tb := tb) hk z0 (by decide) (nI md) sat c tm (fX11_isTailOpen vt) (fX11_isMaskOpen vt) xS x rf re r8 rg rl
  refine ⟨?_, ok⟩
  rw [e1, e2, e3, e4]
  unfold fX11_compresses fX11_compresses__zV
  rw [if_neg z0, if_neg z0, ite_self, ite_self]
  exact ⟨rfl, h0, rfl, hX⟩
theorem firsts_Z {S E L st d s1 s2 md : Nat} {F H im un tb : Int32} {x z xS zX : Nat → Int32} (h : HY S E L st d s1 s2 md F im un tb x z xS zX) (hz : ¬ st = 0) (hk : fX1_kindOf F (nI s1) (nI s2) H im = 14) (vt sat : Int32) (c : Int64) (tm rf re r8 rg : Int32) (rl : Int64) :
    WO (fX11_firsts (nI st) (nI d) (nI s2) un) (fX4_execute (nI st) tb (nI S) (nI E) rf re r8 rg (nI 0) (nI 1) F (nI d) (nI s1) (nI s2) H im) (fX4_execute__xV (nI L) (nI st) (nI md) sat c tb (nI S) (nI E) tm (fX11_isTailOpen vt) (fX11_isMaskOpen vt) xS x rf re r8 rg rl (nI 0) (nI 1) (nI 1) (fX10_ones (nI 1)) F (nI d) (nI s1) (nI s2) H im) (fX11_firsts__zV c (nI L) vt (nI st) (nI d) (nI s1) (nI s2) un z z) (fX4_execute__r_saturated (nI L) (nI st) (nI md) sat c tb (nI S) (nI E) tm (fX11_isMaskOpen vt) xS x rf re r8 rg rl (nI 0) (nI 1) (nI 1) (fX10_ones (nI 1)) F (nI d) (nI s1) (nI s2) H im) sat (fX4_execute__xS (nI L) (nI st) tb (nI S) xS x (nI 0) (nI 1) (fX10_ones (nI 1)) F (nI d) (nI s1) (nI s2) H im) zX ∧ okX4_execute (nI L) (nI st) (nI md) sat c tb (nI S) (nI E) tm (fX11_isMaskOpen vt) xS x rf re r8 rg rl (nI 0) (nI 1) (nI 1) (fX10_ones (nI 1)) F (nI d) (nI s1) (nI s2) H im := by
  obtain ⟨hp, hS, hSe, h2e, hd, h1, h2, hLM, hL, hst, hmd, hF, hmu, hill, him, h0, hX, hreg, hE⟩ := h
  have z0 : ¬ nI st = 0 := nI_ne0 (by omega) (by omega)
  have ok := ok_gen (dw := 1) (lw := 1) (rw := 0) (tb := tb) hp (by decide) (by decide) (by decide) hd h1 h2 hL hst (cg14 hp hSe h2e _ _) hk (by decide) hill him (nI md) sat c tm (fX11_isTailOpen vt) (fX11_isMaskOpen vt) xS x rf re r8 rg rl
  obtain ⟨e1, e2, e3, e4⟩ := ex_zero (L := L) (S := nI S) (E := nI E) (d := nI d) (tb := tb) hk z0 (by decide) (nI md) sat c tm (fX11_isTailOpen vt) (fX11_isMaskOpen vt) xS x rf re r8 rg rl
  refine ⟨?_, ok⟩
  rw [e1, e2, e3, e4]
  unfold fX11_firsts fX11_firsts__zV
  rw [if_neg z0, if_neg z0]
  exact ⟨rfl, h0, rfl, hX⟩
theorem counts_Z {S E L st d s1 s2 md : Nat} {F H im un tb : Int32} {x z xS zX : Nat → Int32} (h : HY S E L st d s1 s2 md F im un tb x z xS zX) (hz : ¬ st = 0) (hk : fX1_kindOf F (nI s1) (nI s2) H im = 15) (vt sat : Int32) (c : Int64) (tm rf re r8 rg : Int32) (rl : Int64) :
    WO (fX11_counts (nI st) (nI d) (nI s2) (nI S) (nI E) un) (fX4_execute (nI st) tb (nI S) (nI E) rf re r8 rg (nI 0) (nI 1) F (nI d) (nI s1) (nI s2) H im) (fX4_execute__xV (nI L) (nI st) (nI md) sat c tb (nI S) (nI E) tm (fX11_isTailOpen vt) (fX11_isMaskOpen vt) xS x rf re r8 rg rl (nI 0) (nI 1) (nI 1) (fX10_ones (nI 1)) F (nI d) (nI s1) (nI s2) H im) (fX11_counts__zV c (nI L) vt (nI st) (nI d) (nI s2) (nI S) (nI E) un z z) (fX4_execute__r_saturated (nI L) (nI st) (nI md) sat c tb (nI S) (nI E) tm (fX11_isMaskOpen vt) xS x rf re r8 rg rl (nI 0) (nI 1) (nI 1) (fX10_ones (nI 1)) F (nI d) (nI s1) (nI s2) H im) sat (fX4_execute__xS (nI L) (nI st) tb (nI S) xS x (nI 0) (nI 1) (fX10_ones (nI 1)) F (nI d) (nI s1) (nI s2) H im) zX ∧ okX4_execute (nI L) (nI st) (nI md) sat c tb (nI S) (nI E) tm (fX11_isMaskOpen vt) xS x rf re r8 rg rl (nI 0) (nI 1) (nI 1) (fX10_ones (nI 1)) F (nI d) (nI s1) (nI s2) H im := by
  obtain ⟨hp, hS, hSe, h2e, hd, h1, h2, hLM, hL, hst, hmd, hF, hmu, hill, him, h0, hX, hreg, hE⟩ := h
  have z0 : ¬ nI st = 0 := nI_ne0 (by omega) (by omega)
  have ok := ok_gen (dw := S) (lw := 1) (rw := 0) (tb := tb) hp (eE1 hSe) (by decide) (by decide) hd h1 h2 hL hst (cg15 hp hSe h2e _ _) hk (by decide) hill him (nI md) sat c tm (fX11_isTailOpen vt) (fX11_isMaskOpen vt) xS x rf re r8 rg rl
  obtain ⟨e1, e2, e3, e4⟩ := ex_zero (L := L) (S := nI S) (E := nI E) (d := nI d) (tb := tb) hk z0 (by decide) (nI md) sat c tm (fX11_isTailOpen vt) (fX11_isMaskOpen vt) xS x rf re r8 rg rl
  refine ⟨?_, ok⟩
  rw [e1, e2, e3, e4]
  unfold fX11_counts fX11_counts__zV
  rw [if_neg z0, if_neg z0]
  exact ⟨rfl, h0, rfl, hX⟩
