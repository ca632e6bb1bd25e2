/-! ===== vset, the whole instruction ===== -/
theorem not_m1 {n : Nat} (hn : n < 2 ^ 63) : ¬ lN n = -1 := by
  intro h
  have h1 : lN n < lN 0 := by rw [h]; decide
  exact absurd ((pk_lLT hn (by decide)).mp h1) (by omega)
theorem ok_scalar (k : Nat) (hk : k < 32) : okX8_scalar (nI k) := by
  intro _ _
  exact vp_in_nI hk (by decide)
theorem ok_putScalar (k : Nat) (hk : k < 32) : okX8_putScalar (nI k) := by
  intro _ _
  exact vp_in_nI hk (by decide)
/-- what register rs1 asks for -/
theorem ask_reg {xS zX : Nat → Int32} (hX : SX xS zX) {d s1 : Nat} (hd : d < 32) (h1 : s1 < 32) : (fX5_lengthInRegister xS (nI d) (nI s1) = -1 ∧ ¬ (if nI s1 = 0 then (if nI d = 0 then (1 : Int32) else 0) else 0) = 0) ∨ (¬ fX5_lengthInRegister xS (nI d) (nI s1) = -1 ∧ (if nI s1 = 0 then (if nI d = 0 then (1 : Int32) else 0) else 0) = 0 ∧ Ask (fX5_lengthInRegister xS (nI d) (nI s1)) (if nI s1 ≤ 0 then (2305843009213693951 : Int64) else (Int32.toInt64 (zX (Int32.toNatClampNeg (nI s1))) &&& (4294967295 : Int64)))) := by
  unfold fX5_lengthInRegister pX5_lengthInRegister_42_S1
  rcases Nat.eq_zero_or_pos s1 with rfl | q
  · have hle : nI 0 ≤ (0 : Int32) := by decide
    simp only [nI_0, if_true, Int32.le_refl]
    rcases Nat.eq_zero_or_pos d with rfl | q2
    · left; simp only [nI_0, if_true]; decide
    · have hd0 : ¬ nI d = 0 := nI_ne0 q2 (by omega)
      right; simp only [if_neg hd0]
      exact ⟨by decide, trivial, Or.inr ⟨by decide, rfl⟩⟩
  · have h0 : ¬ nI s1 = 0 := nI_ne0 q (by omega)
    have h2 : ¬ nI s1 ≤ 0 := nI_ge q (by omega)
    obtain ⟨m, hm, e⟩ := andw (Int32.toInt64 (zX s1))
    right
    rw [if_neg h0, if_neg h0, if_neg h2, hX.scalar h1, show fX10_ones 32 = (4294967295 : Int64) by decide +kernel, nI_clamp (by omega), e]
    exact ⟨not_m1 (by omega), rfl, Or.inl ⟨m, hm, rfl, rfl⟩⟩
theorem sets_eq (u : Int32) {vt tb ts te tm tt tk : Int32} (hT : TI vt tb ts te tm tt tk) {C L : Nat} (hC : C < 2 ^ 64) (hL : VLok vt L) {xS zX : Nat → Int32} (hX : SX xS zX) {d s1 s2 : Nat} (hd : d < 32) (h1 : s1 < 32) (h2 : s2 < 32) :
    fX5_execute u = fX11_sets u ∧ okX5_execute xS tm u (nI d) (nI s1) (nI s2) ∧ okX11_sets vt u (nI d) (nI s1) (nI s2) zX ∧
    TI (fX11_sets__m_vtype vt u (nI d) (nI s1) (nI s2) zX) (fX5_execute__t_bits xS tb tm u (nI d) (nI s1) (nI s2)) (fX5_execute__t_sew xS ts tm u (nI d) (nI s1) (nI s2)) (fX5_execute__t_eighths xS te tm u (nI d) (nI s1) (nI s2)) (fX5_execute__t_most xS tm u (nI d) (nI s1) (nI s2)) (fX5_execute__t_tailOpen xS tm tt u (nI d) (nI s1) (nI s2)) (fX5_execute__t_maskedOpen xS tm tk u (nI d) (nI s1) (nI s2)) ∧
    (∃ L2, VLok (fX11_sets__m_vtype vt u (nI d) (nI s1) (nI s2) zX) L2 ∧ fX5_execute__r_length (nI L) (lN C) xS tm u (nI d) (nI s1) (nI s2) = nI L2 ∧ fX11_sets__m_vl (lN C) (nI L) vt u (nI d) (nI s1) (nI s2) zX = nI L2) ∧
    SX (fX5_execute__xS (nI L) (lN C) xS tm u (nI d) (nI s1) (nI s2)) (fX11_sets__zX (lN C) (nI L) vt u (nI d) (nI s1) (nI s2) zX) := by
  have hv1 : vp_in (nI s1) 32 := vp_in_nI h1 (by decide)
  have hv2 : vp_in (nI s2) 32 := vp_in_nI h2 (by decide)
  have hvd : vp_in (nI d) 32 := vp_in_nI hd (by decide)
  have hoR : okX5_lengthInRegister (nI s1) := fun _ => ok_scalar s1 h1
  -- the common part
  have core : ∀ (told : Int32) (a : Int64), pX11_sets_79_L1 u (nI s2) zX = told → ((a = -1 ∧ ¬ pX11_sets_160_S1 u (nI d) (nI s1) = 0) ∨ (¬ a = -1 ∧ pX11_sets_160_S1 u (nI d) (nI s1) = 0 ∧ Ask a (pX11_sets_135_S1 u (nI s1) zX))) →
      okX5_grant tm (nI d) told a ∧ TI (pX11_sets_198_m_vtype vt u (nI d) (nI s1) (nI s2) zX) (fX5_grant__t_bits tm told a) (fX5_grant__t_sew tm told a) (fX5_grant__t_eighths tm told a) (fX5_grant__t_most tm told a) (fX5_grant__t_tailOpen tm told a) (fX5_grant__t_maskedOpen tm told a) ∧
      (∃ L2, VLok (pX11_sets_198_m_vtype vt u (nI d) (nI s1) (nI s2) zX) L2 ∧ fX5_grant__r_length (nI L) (lN C) tm told a = nI L2 ∧ pX11_sets_301_m_vl (lN C) (nI L) vt u (nI d) (nI s1) (nI s2) zX = nI L2) ∧
      SX (fX5_grant__xS (nI L) (lN C) xS tm (nI d) told a) (pX11_sets_321_zX (lN C) (nI L) vt u (nI d) (nI s1) (nI s2) zX) ∧
      ((0 ≤ pX11_sets_198_m_vtype vt u (nI d) (nI s1) (nI s2) zX) → (pX11_sets_160_S1 u (nI d) (nI s1) = 0) → (Int32.toInt64 (fX11_most (pX11_sets_198_m_vtype vt u (nI d) (nI s1) (nI s2) zX)) < pX11_sets_135_S1 u (nI s1) zX) → (pX11_sets_135_S1 u (nI s1) zX < (2 : Int64) * Int32.toInt64 (fX11_most (pX11_sets_198_m_vtype vt u (nI d) (nI s1) (nI s2) zX))) → okJ13_remainderUnsigned_f86c9 ((Int32.toInt64 (fX11_most (pX11_sets_198_m_vtype vt u (nI d) (nI s1) (nI s2) zX)) - ((pX11_sets_135_S1 u (nI s1) zX + 1) / 2)) + 1)) := by
    intro told a ht hk
    obtain ⟨g1, ⟨L2, g2, g3, g4⟩, g5, g6⟩ := grant_eq hT hC hL told hk (nv := pX11_sets_198_m_vtype vt u (nI d) (nI s1) (nI s2) zX) (by unfold pX11_sets_198_m_vtype; rw [ht])
    have e1 : pX11_sets_301_m_vl (lN C) (nI L) vt u (nI d) (nI s1) (nI s2) zX = nI L2 := g4
    refine ⟨⟨ok_become told, g5, ok_putScalar d hd⟩, g1, ⟨L2, g2, g3, e1⟩, ?_, g6⟩
    unfold fX5_grant__xS pX11_sets_321_zX
    have e3 : pX5_grant_110_r_length (nI L) (lN C) tm told a = nI L2 := g3
    rw [e1, e3]
    exact hX.put hd (nI L2)
  -- obligations of the reference
  have okS : ∀ (told : Int32) (a : Int64), pX11_sets_79_L1 u (nI s2) zX = told → ((a = -1 ∧ ¬ pX11_sets_160_S1 u (nI d) (nI s1) = 0) ∨ (¬ a = -1 ∧ pX11_sets_160_S1 u (nI d) (nI s1) = 0 ∧ Ask a (pX11_sets_135_S1 u (nI s1) zX))) → okX11_sets vt u (nI d) (nI s1) (nI s2) zX := by
    intro told a ht hk
    obtain ⟨_, g1, _, _, g6⟩ := core told a ht hk
    unfold okX11_sets
    rw [ht]
    exact ⟨fun _ _ _ => hv2, fun _ _ _ => hv1, fun _ _ => hv1, fun _ _ _ => ok_most hT.kind, fun _ _ _ => ok_most (TI.become told).kind, ok_most g1.kind, g6, fun _ => hvd⟩
  unfold fX5_execute fX11_sets okX5_execute fX11_sets__m_vtype fX5_execute__t_bits fX5_execute__t_sew fX5_execute__t_eighths fX5_execute__t_most fX5_execute__t_tailOpen fX5_execute__t_maskedOpen fX5_execute__r_length fX11_sets__m_vl fX5_execute__xS fX11_sets__zX rX11_sets_79 rX11_sets_79__m_vtype rX11_sets_79__m_vl rX11_sets_79__zX
  by_cases q1 : u < 0
  · by_cases q2 : sru u 30 = 3
    · -- vsetivli
      have eL2 : pX11_sets_79_L2 u = 1 := by unfold pX11_sets_79_L2; rw [if_pos q1, if_pos q2]
      have ht : pX11_sets_79_L1 u (nI s2) zX = sru u 20 &&& 1023 := by
        unfold pX11_sets_79_L1
        rw [if_pos q1, if_pos q2]
        exact (fld_s (u := u) (k := 20) (n := 10) (by decide) (by decide)).trans (fld_u (u := u) (k := 20) (n := 10) (by decide)).symm
      have hk : ((Int32.toInt64 (nI s1) = -1 ∧ ¬ pX11_sets_160_S1 u (nI d) (nI s1) = 0) ∨ (¬ Int32.toInt64 (nI s1) = -1 ∧ pX11_sets_160_S1 u (nI d) (nI s1) = 0 ∧ Ask (Int32.toInt64 (nI s1)) (pX11_sets_135_S1 u (nI s1) zX))) := by
        right
        have eb : pX11_sets_135_S1 u (nI s1) zX = lN s1 := by
          unfold pX11_sets_135_S1
          rw [eL2, if_neg (by decide), if_neg (by decide), nI_l (by omega)]
        rw [eb, nI_l (by omega)]
        exact ⟨not_m1 (by omega), by unfold pX11_sets_160_S1; rw [eL2, if_neg (by decide)], Or.inl ⟨s1, by omega, rfl, rfl⟩⟩
      obtain ⟨c1, c2, c3, c4, c5⟩ := core _ _ ht hk
      have o2 := okS _ _ ht hk
      simp only [if_pos q1, if_pos q2]
      exact ⟨trivial, ⟨fun _ _ => c1, fun _ w => absurd q2 w, fun _ w => absurd q2 w, fun _ w => absurd q2 w, fun w => absurd q1 w, fun w => absurd q1 w⟩, o2, c2, c3, c4⟩
    · by_cases q3 : sru u 25 = 64
      · -- vsetvl
        have eL2 : pX11_sets_79_L2 u = 0 := by unfold pX11_sets_79_L2; rw [if_pos q1, if_neg q2, if_pos q3]
        have ht : pX11_sets_79_L1 u (nI s2) zX = fX8_scalar xS (nI s2) := by
          unfold pX11_sets_79_L1
          rw [if_pos q1, if_neg q2, if_pos q3, hX.scalar h2, nI_clamp (by omega)]
        have hk : ((fX5_lengthInRegister xS (nI d) (nI s1) = -1 ∧ ¬ pX11_sets_160_S1 u (nI d) (nI s1) = 0) ∨ (¬ fX5_lengthInRegister xS (nI d) (nI s1) = -1 ∧ pX11_sets_160_S1 u (nI d) (nI s1) = 0 ∧ Ask (fX5_lengthInRegister xS (nI d) (nI s1)) (pX11_sets_135_S1 u (nI s1) zX))) := by
          unfold pX11_sets_135_S1 pX11_sets_160_S1
          rw [eL2]
          simp only [if_true]
          exact ask_reg hX hd h1
        obtain ⟨c1, c2, c3, c4, c5⟩ := core _ _ ht hk
        have o2 := okS _ _ ht hk
        simp only [if_pos q1, if_neg q2, if_pos q3]
        exact ⟨trivial, ⟨fun _ w => absurd w q2, fun _ _ _ => ok_scalar s2 h2, fun _ _ _ => hoR, fun _ _ _ => c1, fun w => absurd q1 w, fun w => absurd q1 w⟩, o2, c2, c3, c4⟩
      · -- no such instruction
        have eL2 : pX11_sets_79_L2 u = 1 := by unfold pX11_sets_79_L2; rw [if_pos q1, if_neg q2, if_neg q3]
        have hk : ((Int32.toInt64 (nI s1) = -1 ∧ ¬ pX11_sets_160_S1 u (nI d) (nI s1) = 0) ∨ (¬ Int32.toInt64 (nI s1) = -1 ∧ pX11_sets_160_S1 u (nI d) (nI s1) = 0 ∧ Ask (Int32.toInt64 (nI s1)) (pX11_sets_135_S1 u (nI s1) zX))) := by
          right
          have eb : pX11_sets_135_S1 u (nI s1) zX = lN s1 := by
            unfold pX11_sets_135_S1
            rw [eL2, if_neg (by decide), if_neg (by decide), nI_l (by omega)]
          rw [eb, nI_l (by omega)]
          exact ⟨not_m1 (by omega), by unfold pX11_sets_160_S1; rw [eL2, if_neg (by decide)], Or.inl ⟨s1, by omega, rfl, rfl⟩⟩
        have o2 := okS _ _ rfl hk
        simp only [if_pos q1, if_neg q2, if_neg q3]
        exact ⟨trivial, ⟨fun _ w => absurd w q2, fun _ _ w => absurd w q3, fun _ _ w => absurd w q3, fun _ _ w => absurd w q3, fun w => absurd q1 w, fun w => absurd q1 w⟩, o2, hT, ⟨L, hL, rfl, rfl⟩, hX⟩
  · -- vsetvli
    have eL2 : pX11_sets_79_L2 u = 0 := by unfold pX11_sets_79_L2; rw [if_neg q1]
    have ht : pX11_sets_79_L1 u (nI s2) zX = sru u 20 &&& 2047 := by
      unfold pX11_sets_79_L1
      rw [if_neg q1]
      exact (fld_s (u := u) (k := 20) (n := 11) (by decide) (by decide)).trans (fld_u (u := u) (k := 20) (n := 11) (by decide)).symm
    have hk : ((fX5_lengthInRegister xS (nI d) (nI s1) = -1 ∧ ¬ pX11_sets_160_S1 u (nI d) (nI s1) = 0) ∨ (¬ fX5_lengthInRegister xS (nI d) (nI s1) = -1 ∧ pX11_sets_160_S1 u (nI d) (nI s1) = 0 ∧ Ask (fX5_lengthInRegister xS (nI d) (nI s1)) (pX11_sets_135_S1 u (nI s1) zX))) := by
      unfold pX11_sets_135_S1 pX11_sets_160_S1
      rw [eL2]
      simp only [if_true]
      exact ask_reg hX hd h1
    obtain ⟨c1, c2, c3, c4, c5⟩ := core _ _ ht hk
    have o2 := okS _ _ ht hk
    simp only [if_neg q1]
    exact ⟨trivial, ⟨fun w => absurd w q1, fun w => absurd w q1, fun w => absurd w q1, fun w => absurd w q1, fun _ => hoR, fun _ => c1⟩, o2, c2, c3, c4⟩
