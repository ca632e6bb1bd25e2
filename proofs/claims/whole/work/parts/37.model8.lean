noncomputable def fJ13_remainderUnsigned_f86c9 (u0 : Int64) (u2 : Int64) : Int64 := (if u2 < (0 : Int64) then (u0 - ((lshr (u0 &&& ((u0 - u2) ^^^ (-1 : Int64))) (63 : Int32)) &&& u2)) else ((u0 - ((lshl ((lsru u0 (1 : Int32)) / u2) (1 : Int32)) * u2)) - ((lshr (((u0 - ((lshl ((lsru u0 (1 : Int32)) / u2) (1 : Int32)) * u2)) - u2) ^^^ (-1 : Int64)) (63 : Int32)) &&& u2)))
noncomputable def okJ13_remainderUnsigned_f86c9 (u2 : Int64) : Prop := (¬ (u2 < (0 : Int64)) → ¬ u2 = 0)
set_option maxRecDepth 100000 in
set_option maxHeartbeats 4000000 in
theorem kJ13_remainderUnsigned_f86c9 (l : Launch) (D : va_G) (kI kZ : ClassId) (u0 : Int64) (u2 : Int64) (hok : okJ13_remainderUnsigned_f86c9 u2) : kM l yJ13_remainderUnsigned_f86c9 cJ13_remainderUnsigned_f86c9 8 (some .long) 0 0 0 0 D [(kI, .int), (kZ, .boolean)] [.long u0, .long u2] [] (some (.long (fJ13_remainderUnsigned_f86c9 u0 u2))) [] := by
  refine kM.of (by decide) rfl ?_
  intro p e R s m args below meth c A X _ _ hRt hLk
  refine k_sub [0, 1] (lv' := [(0, .long u0), (2, .long u2)]) rfl ?_
  unfold okJ13_remainderUnsigned_f86c9 at hok
  refine k_lload_n X dJ13_remainderUnsigned_f86c9_0 rfl 1 rfl rfl ?_
  refine k_lconst (v := (0 : Int64)) X dJ13_remainderUnsigned_f86c9_1 rfl rfl ?_
  refine k_lcmp_lt (tgt := 40) X dJ13_remainderUnsigned_f86c9_2 rfl dJ13_remainderUnsigned_f86c9_3 (by decide) rfl (fun c1 => ?_) (fun c1 => ?_)
  · skip
    refine k_lload_n X dJ13_remainderUnsigned_f86c9_40 rfl 0 rfl rfl ?_
    refine k_lload_n X dJ13_remainderUnsigned_f86c9_41 rfl 0 rfl rfl ?_
    refine k_lload_n X dJ13_remainderUnsigned_f86c9_42 rfl 0 rfl rfl ?_
    refine k_lload_n X dJ13_remainderUnsigned_f86c9_43 rfl 1 rfl rfl ?_
    refine k_lsub X dJ13_remainderUnsigned_f86c9_44 rfl ?_
    refine k_ldc2 X q28_20 dJ13_remainderUnsigned_f86c9_45 rfl ?_
    refine k_lxor X dJ13_remainderUnsigned_f86c9_48 rfl ?_
    refine k_land X dJ13_remainderUnsigned_f86c9_49 rfl ?_
    refine k_bipush X dJ13_remainderUnsigned_f86c9_50 kc_b_63 rfl ?_
    refine k_lshr X dJ13_remainderUnsigned_f86c9_52 rfl ?_
    refine k_lload_n X dJ13_remainderUnsigned_f86c9_53 rfl 1 rfl rfl ?_
    refine k_land X dJ13_remainderUnsigned_f86c9_54 rfl ?_
    refine k_lsub X dJ13_remainderUnsigned_f86c9_55 rfl ?_
    have e2 : (fJ13_remainderUnsigned_f86c9 u0 u2) = (u0 - ((lshr (u0 &&& ((u0 - u2) ^^^ (-1 : Int64))) (63 : Int32)) &&& u2)) := by rw [fJ13_remainderUnsigned_f86c9, if_pos c1]
    exact k_lret9 X hRt hLk e2.symm rfl dJ13_remainderUnsigned_f86c9_56
  refine k_lload_n X dJ13_remainderUnsigned_f86c9_6 rfl 0 rfl rfl ?_
  refine k_iconst X dJ13_remainderUnsigned_f86c9_7 kc_i_1 rfl ?_
  refine k_lushr X dJ13_remainderUnsigned_f86c9_8 rfl ?_
  refine k_lload_n X dJ13_remainderUnsigned_f86c9_9 rfl 1 rfl rfl ?_
  refine k_ldiv X dJ13_remainderUnsigned_f86c9_10 (hok c1) rfl ?_
  refine k_iconst X dJ13_remainderUnsigned_f86c9_11 kc_i_1 rfl ?_
  refine k_lshl X dJ13_remainderUnsigned_f86c9_12 rfl ?_
  refine k_lstore (lv' := [(4, .long (lshl ((lsru u0 (1 : Int32)) / u2) (1 : Int32))), (0, .long u0), (2, .long u2)]) X dJ13_remainderUnsigned_f86c9_13 rfl rfl rfl ?_
  refine k_lload_n X dJ13_remainderUnsigned_f86c9_15 rfl 1 rfl rfl ?_
  refine k_lload X dJ13_remainderUnsigned_f86c9_16 0 rfl rfl ?_
  refine k_lload_n X dJ13_remainderUnsigned_f86c9_18 rfl 2 rfl rfl ?_
  refine k_lmul X dJ13_remainderUnsigned_f86c9_19 rfl ?_
  refine k_lsub X dJ13_remainderUnsigned_f86c9_20 rfl ?_
  refine k_lstore (lv' := [(6, .long (u0 - ((lshl ((lsru u0 (1 : Int32)) / u2) (1 : Int32)) * u2))), (4, .long (lshl ((lsru u0 (1 : Int32)) / u2) (1 : Int32))), (0, .long u0), (2, .long u2)]) X dJ13_remainderUnsigned_f86c9_21 rfl rfl rfl ?_
  refine k_lload X dJ13_remainderUnsigned_f86c9_23 0 rfl rfl ?_
  refine k_lload X dJ13_remainderUnsigned_f86c9_25 0 rfl rfl ?_
  refine k_lload_n X dJ13_remainderUnsigned_f86c9_27 rfl 3 rfl rfl ?_
  refine k_lsub X dJ13_remainderUnsigned_f86c9_28 rfl ?_
  refine k_ldc2 X q28_20 dJ13_remainderUnsigned_f86c9_29 rfl ?_
  refine k_lxor X dJ13_remainderUnsigned_f86c9_32 rfl ?_
  refine k_bipush X dJ13_remainderUnsigned_f86c9_33 kc_b_63 rfl ?_
  refine k_lshr X dJ13_remainderUnsigned_f86c9_35 rfl ?_
  refine k_lload_n X dJ13_remainderUnsigned_f86c9_36 rfl 3 rfl rfl ?_
  refine k_land X dJ13_remainderUnsigned_f86c9_37 rfl ?_
  refine k_lsub X dJ13_remainderUnsigned_f86c9_38 rfl ?_
  have e3 : (fJ13_remainderUnsigned_f86c9 u0 u2) = ((u0 - ((lshl ((lsru u0 (1 : Int32)) / u2) (1 : Int32)) * u2)) - ((lshr (((u0 - ((lshl ((lsru u0 (1 : Int32)) / u2) (1 : Int32)) * u2)) - u2) ^^^ (-1 : Int64)) (63 : Int32)) &&& u2)) := by rw [fJ13_remainderUnsigned_f86c9, if_neg c1]
  exact k_lret9 X hRt hLk e3.symm rfl dJ13_remainderUnsigned_f86c9_39
theorem vJ13_remainderUnsigned_f86c9 : kSt yJ13_remainderUnsigned_f86c9 cJ13_remainderUnsigned_f86c9 8 (some .long) 2 := ⟨q28_19, q28_18, q28_17, by decide, by decide +kernel⟩
noncomputable def pX11_sets_79_L1 (m_word : Int32) (m_vs2 : Int32) (zX : Nat → Int32) : Int32 := (if m_word < (0 : Int32) then (if (sru m_word (30 : Int32)) = (3 : Int32) then ((shr m_word (20 : Int32)) &&& (1023 : Int32)) else (if (sru m_word (25 : Int32)) = (64 : Int32) then (zX (Int32.toNatClampNeg m_vs2)) else ((shr m_word (20 : Int32)) &&& (1023 : Int32)))) else ((shr m_word (20 : Int32)) &&& (2047 : Int32)))
noncomputable def pX11_sets_79_L2 (m_word : Int32) : Int32 := (if m_word < (0 : Int32) then (if (sru m_word (30 : Int32)) = (3 : Int32) then (1 : Int32) else (if (sru m_word (25 : Int32)) = (64 : Int32) then (0 : Int32) else (1 : Int32))) else (0 : Int32))
theorem zpX11_sets_79_L2 (m_word : Int32) : narrow .boolean (.int (pX11_sets_79_L2 m_word)) = .int (pX11_sets_79_L2 m_word) := by unfold pX11_sets_79_L2; exact (kzi (kzi rfl (kzi rfl rfl)) rfl)
noncomputable def pX11_sets_135_S1 (m_word : Int32) (m_vs1 : Int32) (zX : Nat → Int32) : Int64 := (if (pX11_sets_79_L2 m_word) = (0 : Int32) then (if m_vs1 ≤ (0 : Int32) then (2305843009213693951 : Int64) else (if (pX11_sets_79_L2 m_word) = (0 : Int32) then ((Int32.toInt64 (zX (Int32.toNatClampNeg m_vs1))) &&& (4294967295 : Int64)) else (Int32.toInt64 m_vs1))) else (if (pX11_sets_79_L2 m_word) = (0 : Int32) then ((Int32.toInt64 (zX (Int32.toNatClampNeg m_vs1))) &&& (4294967295 : Int64)) else (Int32.toInt64 m_vs1)))
noncomputable def pX11_sets_160_S1 (m_word : Int32) (m_vd : Int32) (m_vs1 : Int32) : Int32 := (if (pX11_sets_79_L2 m_word) = (0 : Int32) then (if m_vs1 = (0 : Int32) then (if m_vd = (0 : Int32) then (1 : Int32) else (0 : Int32)) else (0 : Int32)) else (0 : Int32))
theorem zpX11_sets_160_S1 (m_word : Int32) (m_vd : Int32) (m_vs1 : Int32) : narrow .boolean (.int (pX11_sets_160_S1 m_word m_vd m_vs1)) = .int (pX11_sets_160_S1 m_word m_vd m_vs1) := by unfold pX11_sets_160_S1; exact (kzi (kzi (kzi rfl rfl) rfl) rfl)
noncomputable def pX11_sets_198_m_vtype (m_vtype : Int32) (m_word : Int32) (m_vd : Int32) (m_vs1 : Int32) (m_vs2 : Int32) (zX : Nat → Int32) : Int32 := (if (pX11_sets_160_S1 m_word m_vd m_vs1) = (0 : Int32) then (fX11_typed (pX11_sets_79_L1 m_word m_vs2 zX)) else (if m_vtype < (0 : Int32) then (-2147483648 : Int32) else (if (fX11_typed (pX11_sets_79_L1 m_word m_vs2 zX)) < (0 : Int32) then (-2147483648 : Int32) else (if (fX11_most m_vtype) = (fX11_most (fX11_typed (pX11_sets_79_L1 m_word m_vs2 zX))) then (fX11_typed (pX11_sets_79_L1 m_word m_vs2 zX)) else (-2147483648 : Int32)))))
noncomputable def eX11_sets_298 (m_choices : Int64) (m_vtype : Int32) (m_word : Int32) (m_vd : Int32) (m_vs1 : Int32) (m_vs2 : Int32) (zX : Nat → Int32) : Int32 := (Int64.toInt32 ((((pX11_sets_135_S1 m_word m_vs1 zX) + (1 : Int64)) / (2 : Int64)) + (fJ13_remainderUnsigned_f86c9 m_choices (((Int32.toInt64 (fX11_most (pX11_sets_198_m_vtype m_vtype m_word m_vd m_vs1 m_vs2 zX))) - (((pX11_sets_135_S1 m_word m_vs1 zX) + (1 : Int64)) / (2 : Int64))) + (1 : Int64)))))
noncomputable def pX11_sets_301_m_vl (m_choices : Int64) (m_vl : Int32) (m_vtype : Int32) (m_word : Int32) (m_vd : Int32) (m_vs1 : Int32) (m_vs2 : Int32) (zX : Nat → Int32) : Int32 := (if (0 : Int32) ≤ (pX11_sets_198_m_vtype m_vtype m_word m_vd m_vs1 m_vs2 zX) then (if (pX11_sets_160_S1 m_word m_vd m_vs1) = (0 : Int32) then (if (Int32.toInt64 (fX11_most (pX11_sets_198_m_vtype m_vtype m_word m_vd m_vs1 m_vs2 zX))) < (pX11_sets_135_S1 m_word m_vs1 zX) then (if (pX11_sets_135_S1 m_word m_vs1 zX) < ((2 : Int64) * (Int32.toInt64 (fX11_most (pX11_sets_198_m_vtype m_vtype m_word m_vd m_vs1 m_vs2 zX)))) then (eX11_sets_298 m_choices m_vtype m_word m_vd m_vs1 m_vs2 zX) else (fX11_most (pX11_sets_198_m_vtype m_vtype m_word m_vd m_vs1 m_vs2 zX))) else (Int64.toInt32 (pX11_sets_135_S1 m_word m_vs1 zX))) else m_vl) else (0 : Int32))
noncomputable def pX11_sets_321_zX (m_choices : Int64) (m_vl : Int32) (m_vtype : Int32) (m_word : Int32) (m_vd : Int32) (m_vs1 : Int32) (m_vs2 : Int32) (zX : Nat → Int32) : Nat → Int32 := (if m_vd ≤ (0 : Int32) then zX else (upd zX (Int32.toNatClampNeg m_vd) (pX11_sets_301_m_vl m_choices m_vl m_vtype m_word m_vd m_vs1 m_vs2 zX)))
noncomputable def rX11_sets_79 : Int32 := (0 : Int32)
noncomputable def fX11_sets (m_word : Int32) : Int32 := (if m_word < (0 : Int32) then (if (sru m_word (30 : Int32)) = (3 : Int32) then rX11_sets_79 else (if (sru m_word (25 : Int32)) = (64 : Int32) then rX11_sets_79 else (1 : Int32))) else rX11_sets_79)
noncomputable def rX11_sets_79__m_vl (m_choices : Int64) (m_vl : Int32) (m_vtype : Int32) (m_word : Int32) (m_vd : Int32) (m_vs1 : Int32) (m_vs2 : Int32) (zX : Nat → Int32) : Int32 := (pX11_sets_301_m_vl m_choices m_vl m_vtype m_word m_vd m_vs1 m_vs2 zX)
noncomputable def fX11_sets__m_vl (m_choices : Int64) (m_vl : Int32) (m_vtype : Int32) (m_word : Int32) (m_vd : Int32) (m_vs1 : Int32) (m_vs2 : Int32) (zX : Nat → Int32) : Int32 := (if m_word < (0 : Int32) then (if (sru m_word (30 : Int32)) = (3 : Int32) then (rX11_sets_79__m_vl m_choices m_vl m_vtype m_word m_vd m_vs1 m_vs2 zX) else (if (sru m_word (25 : Int32)) = (64 : Int32) then (rX11_sets_79__m_vl m_choices m_vl m_vtype m_word m_vd m_vs1 m_vs2 zX) else m_vl)) else (rX11_sets_79__m_vl m_choices m_vl m_vtype m_word m_vd m_vs1 m_vs2 zX))
noncomputable def rX11_sets_79__m_vtype (m_vtype : Int32) (m_word : Int32) (m_vd : Int32) (m_vs1 : Int32) (m_vs2 : Int32) (zX : Nat → Int32) : Int32 := (pX11_sets_198_m_vtype m_vtype m_word m_vd m_vs1 m_vs2 zX)
noncomputable def fX11_sets__m_vtype (m_vtype : Int32) (m_word : Int32) (m_vd : Int32) (m_vs1 : Int32) (m_vs2 : Int32) (zX : Nat → Int32) : Int32 := (if m_word < (0 : Int32) then (if (sru m_word (30 : Int32)) = (3 : Int32) then (rX11_sets_79__m_vtype m_vtype m_word m_vd m_vs1 m_vs2 zX) else (if (sru m_word (25 : Int32)) = (64 : Int32) then (rX11_sets_79__m_vtype m_vtype m_word m_vd m_vs1 m_vs2 zX) else m_vtype)) else (rX11_sets_79__m_vtype m_vtype m_word m_vd m_vs1 m_vs2 zX))
noncomputable def rX11_sets_79__zX (m_choices : Int64) (m_vl : Int32) (m_vtype : Int32) (m_word : Int32) (m_vd : Int32) (m_vs1 : Int32) (m_vs2 : Int32) (zX : Nat → Int32) : Nat → Int32 := (pX11_sets_321_zX m_choices m_vl m_vtype m_word m_vd m_vs1 m_vs2 zX)
noncomputable def fX11_sets__zX (m_choices : Int64) (m_vl : Int32) (m_vtype : Int32) (m_word : Int32) (m_vd : Int32) (m_vs1 : Int32) (m_vs2 : Int32) (zX : Nat → Int32) : Nat → Int32 := (if m_word < (0 : Int32) then (if (sru m_word (30 : Int32)) = (3 : Int32) then (rX11_sets_79__zX m_choices m_vl m_vtype m_word m_vd m_vs1 m_vs2 zX) else (if (sru m_word (25 : Int32)) = (64 : Int32) then (rX11_sets_79__zX m_choices m_vl m_vtype m_word m_vd m_vs1 m_vs2 zX) else zX)) else (rX11_sets_79__zX m_choices m_vl m_vtype m_word m_vd m_vs1 m_vs2 zX))
noncomputable def okX11_sets (m_vtype : Int32) (m_word : Int32) (m_vd : Int32) (m_vs1 : Int32) (m_vs2 : Int32) (zX : Nat → Int32) : Prop := ((m_word < (0 : Int32)) → ¬ ((sru m_word (30 : Int32)) = (3 : Int32)) → ((sru m_word (25 : Int32)) = (64 : Int32)) → vp_in m_vs2 32) ∧ (((pX11_sets_79_L2 m_word) = (0 : Int32)) → ¬ (m_vs1 ≤ (0 : Int32)) → ((pX11_sets_79_L2 m_word) = (0 : Int32)) → vp_in m_vs1 32) ∧ (¬ ((pX11_sets_79_L2 m_word) = (0 : Int32)) → ((pX11_sets_79_L2 m_word) = (0 : Int32)) → vp_in m_vs1 32) ∧ (¬ ((pX11_sets_160_S1 m_word m_vd m_vs1) = (0 : Int32)) → ¬ (m_vtype < (0 : Int32)) → ¬ ((fX11_typed (pX11_sets_79_L1 m_word m_vs2 zX)) < (0 : Int32)) → okX11_most m_vtype) ∧ (¬ ((pX11_sets_160_S1 m_word m_vd m_vs1) = (0 : Int32)) → ¬ (m_vtype < (0 : Int32)) → ¬ ((fX11_typed (pX11_sets_79_L1 m_word m_vs2 zX)) < (0 : Int32)) → okX11_most (fX11_typed (pX11_sets_79_L1 m_word m_vs2 zX))) ∧ (okX11_most (pX11_sets_198_m_vtype m_vtype m_word m_vd m_vs1 m_vs2 zX)) ∧ (((0 : Int32) ≤ (pX11_sets_198_m_vtype m_vtype m_word m_vd m_vs1 m_vs2 zX)) → ((pX11_sets_160_S1 m_word m_vd m_vs1) = (0 : Int32)) → ((Int32.toInt64 (fX11_most (pX11_sets_198_m_vtype m_vtype m_word m_vd m_vs1 m_vs2 zX))) < (pX11_sets_135_S1 m_word m_vs1 zX)) → ((pX11_sets_135_S1 m_word m_vs1 zX) < ((2 : Int64) * (Int32.toInt64 (fX11_most (pX11_sets_198_m_vtype m_vtype m_word m_vd m_vs1 m_vs2 zX))))) → okJ13_remainderUnsigned_f86c9 (((Int32.toInt64 (fX11_most (pX11_sets_198_m_vtype m_vtype m_word m_vd m_vs1 m_vs2 zX))) - (((pX11_sets_135_S1 m_word m_vs1 zX) + (1 : Int64)) / (2 : Int64))) + (1 : Int64))) ∧ (¬ (m_vd ≤ (0 : Int32)) → vp_in m_vd 32)
set_option maxRecDepth 100000 in
set_option maxHeartbeats 4000000 in
theorem kX11_sets (l : Launch) (D : va_G) (kI kZ : ClassId) (b_m : Nat) (b_zX : Nat) (m_thrown : Int32) (m_v : Nat) (m_old : Nat) (m_memory : Nat) (m_shut : Nat) (m_choices : Int64) (m_vl : Int32) (m_vtype : Int32) (m_vstart : Int32) (m_vxrm : Int32) (m_vxsat : Int32) (m_done : Int32) (m_illegal : Int32) (m_traps : Int32) (m_trapAddress : Int32) (m_word : Int32) (m_vd : Int32) (m_vs1 : Int32) (m_vs2 : Int32) (m_f3 : Int32) (m_f6 : Int32) (m_sew : Int32) (m_l8 : Int32) (m_unmasked : Int32) (zX : Nat → Int32) (hok : okX11_sets m_vtype m_word m_vd m_vs1 m_vs2 zX) : kM l yX11_sets cX11_sets 10 (some .int) 2 29 0 0 D [(kI, .int), (kZ, .boolean)] [.ref b_m] [(b_m, .inr (10, [.int m_thrown, .ref b_zX, .ref m_v, .ref m_old, .ref m_memory, .ref m_shut, .long m_choices, .int m_vl, .int m_vtype, .int m_vstart, .int m_vxrm, .int m_vxsat, .int m_done, .int m_illegal, .int m_traps, .int m_trapAddress, .int m_word, .int m_vd, .int m_vs1, .int m_vs2, .int m_f3, .int m_f6, .int m_sew, .int m_l8, .int m_unmasked])), (b_zX, .inl (kI, 32, .inl zX))] (some (.int (fX11_sets m_word))) [(b_m, .inr (10, [.int m_thrown, .ref b_zX, .ref m_v, .ref m_old, .ref m_memory, .ref m_shut, .long m_choices, .int (fX11_sets__m_vl m_choices m_vl m_vtype m_word m_vd m_vs1 m_vs2 zX), .int (fX11_sets__m_vtype m_vtype m_word m_vd m_vs1 m_vs2 zX), .int m_vstart, .int m_vxrm, .int m_vxsat, .int m_done, .int m_illegal, .int m_traps, .int m_trapAddress, .int m_word, .int m_vd, .int m_vs1, .int m_vs2, .int m_f3, .int m_f6, .int m_sew, .int m_l8, .int m_unmasked])), (b_zX, .inl (kI, 32, .inl (fX11_sets__zX m_choices m_vl m_vtype m_word m_vd m_vs1 m_vs2 zX)))] := by
  refine kM.of (by decide) rfl ?_
  intro p e R s m args below meth c A X _ _ hRt hLk
  refine k_sub [0] (lv' := [(0, .ref b_m)]) rfl ?_
  unfold okX11_sets at hok
  refine k_iconst X dX11_sets_0 kc_i_0 rfl ?_
  refine k_istore_n (lv' := [(2, .int (0 : Int32)), (0, .ref b_m)]) X dX11_sets_1 rfl rfl rfl rfl ?_
  refine k_aload_n X dX11_sets_2 rfl 1 rfl rfl ?_
  refine k_get X i_wsX110 0 16 q27_2 rfl rfl rfl rfl rfl dX11_sets_3 rfl ?_
  refine k_midR (some (.int rX11_sets_79)) [(b_m, .inr (10, [.int m_thrown, .ref b_zX, .ref m_v, .ref m_old, .ref m_memory, .ref m_shut, .long m_choices, .int (rX11_sets_79__m_vl m_choices m_vl m_vtype m_word m_vd m_vs1 m_vs2 zX), .int (rX11_sets_79__m_vtype m_vtype m_word m_vd m_vs1 m_vs2 zX), .int m_vstart, .int m_vxrm, .int m_vxsat, .int m_done, .int m_illegal, .int m_traps, .int m_trapAddress, .int m_word, .int m_vd, .int m_vs1, .int m_vs2, .int m_f3, .int m_f6, .int m_sew, .int m_l8, .int m_unmasked])), (b_zX, .inl (kI, 32, .inl (rX11_sets_79__zX m_choices m_vl m_vtype m_word m_vd m_vs1 m_vs2 zX)))] [(b_m, .inr (10, [.int m_thrown, .ref b_zX, .ref m_v, .ref m_old, .ref m_memory, .ref m_shut, .long m_choices, .int m_vl, .int m_vtype, .int m_vstart, .int m_vxrm, .int m_vxsat, .int m_done, .int m_illegal, .int m_traps, .int m_trapAddress, .int m_word, .int m_vd, .int m_vs1, .int m_vs2, .int m_f3, .int m_f6, .int m_sew, .int m_l8, .int m_unmasked])), (b_zX, .inl (kI, 32, .inl zX))] [(0, .ref b_m), (1, .int (pX11_sets_79_L1 m_word m_vs2 zX)), (2, .int (pX11_sets_79_L2 m_word))] [] 79 (fun hJ4 => ?_) ?_
  · skip
    refine k_if_lt (tgt := 24) X dX11_sets_6 (by decide) rfl (fun c1 => ?_) (fun c1 => ?_)
    · skip
      refine k_aload_n X dX11_sets_24 rfl 1 rfl rfl ?_
      refine k_get X i_wsX110 0 16 q27_2 rfl rfl rfl rfl rfl dX11_sets_25 rfl ?_
      refine k_bipush X dX11_sets_28 kc_b_30 rfl ?_
      refine k_iushr X dX11_sets_30 rfl ?_
      refine k_iconst X dX11_sets_31 kc_i_3 rfl ?_
      refine k_icmp_ne (tgt := 52) X dX11_sets_32 (by decide) rfl (fun c2 => ?_) (fun c2 => ?_)
      · skip
        refine k_aload_n X dX11_sets_35 rfl 1 rfl rfl ?_
        refine k_get X i_wsX110 0 16 q27_2 rfl rfl rfl rfl rfl dX11_sets_36 rfl ?_
        refine k_bipush X dX11_sets_39 kc_b_20 rfl ?_
        refine k_ishr X dX11_sets_41 rfl ?_
        refine k_sipush X dX11_sets_42 kc_s_1023 rfl ?_
        refine k_iand X dX11_sets_45 rfl ?_
        refine k_istore_n (lv' := [(1, .int ((shr m_word (20 : Int32)) &&& (1023 : Int32))), (2, .int (0 : Int32)), (0, .ref b_m)]) X dX11_sets_46 rfl rfl rfl rfl ?_
        refine k_iconst X dX11_sets_47 kc_i_1 rfl ?_
        refine k_istore_n (lv' := [(2, .int (1 : Int32)), (1, .int ((shr m_word (20 : Int32)) &&& (1023 : Int32))), (0, .ref b_m)]) X dX11_sets_48 rfl rfl rfl rfl ?_
        refine k_goto (tgt := 79) X dX11_sets_49 (by decide) ?_
        have e26 : (fX11_sets m_word) = rX11_sets_79 := by rw [fX11_sets, if_pos c1, if_pos c2]
        have e27 : (fX11_sets__m_vl m_choices m_vl m_vtype m_word m_vd m_vs1 m_vs2 zX) = (rX11_sets_79__m_vl m_choices m_vl m_vtype m_word m_vd m_vs1 m_vs2 zX) := by rw [fX11_sets__m_vl, if_pos c1, if_pos c2]
        have e28 : (fX11_sets__m_vtype m_vtype m_word m_vd m_vs1 m_vs2 zX) = (rX11_sets_79__m_vtype m_vtype m_word m_vd m_vs1 m_vs2 zX) := by rw [fX11_sets__m_vtype, if_pos c1, if_pos c2]
        have e29 : (fX11_sets__zX m_choices m_vl m_vtype m_word m_vd m_vs1 m_vs2 zX) = (rX11_sets_79__zX m_choices m_vl m_vtype m_word m_vd m_vs1 m_vs2 zX) := by rw [fX11_sets__zX, if_pos c1, if_pos c2]
        rw [e26, e27, e28, e29]
        have e30 : (pX11_sets_79_L1 m_word m_vs2 zX) = ((shr m_word (20 : Int32)) &&& (1023 : Int32)) := by rw [pX11_sets_79_L1, if_pos c1, if_pos c2]
        rw [e30] at hJ4
        have e31 : (pX11_sets_79_L2 m_word) = (1 : Int32) := by rw [pX11_sets_79_L2, if_pos c1, if_pos c2]
        rw [e31] at hJ4
        exact k_sub [2, 1, 0] rfl hJ4
      refine k_aload_n X dX11_sets_52 rfl 1 rfl rfl ?_
      refine k_get X i_wsX110 0 16 q27_2 rfl rfl rfl rfl rfl dX11_sets_53 rfl ?_
      refine k_bipush X dX11_sets_56 kc_b_25 rfl ?_
      refine k_iushr X dX11_sets_58 rfl ?_
      refine k_bipush X dX11_sets_59 kc_b_64 rfl ?_
      refine k_icmp_ne (tgt := 77) X dX11_sets_61 (by decide) rfl (fun c3 => ?_) (fun c3 => ?_)
      · skip
        refine k_aload_n X dX11_sets_64 rfl 1 rfl rfl ?_
        refine k_get X i_wsX110 0 1 q5_17 rfl rfl rfl rfl rfl dX11_sets_65 rfl ?_
        refine k_aload_n X dX11_sets_68 rfl 1 rfl rfl ?_
        refine k_get X i_wsX110 0 19 q27_6 rfl rfl rfl rfl rfl dX11_sets_69 rfl ?_
        refine k_iald X 1 0 rfl rfl (hok.1 c1 c2 c3) dX11_sets_72 rfl ?_
        refine k_istore_n (lv' := [(1, .int (zX (Int32.toNatClampNeg m_vs2))), (2, .int (0 : Int32)), (0, .ref b_m)]) X dX11_sets_73 rfl rfl rfl rfl ?_
        refine k_goto (tgt := 79) X dX11_sets_74 (by decide) ?_
        have e32 : (fX11_sets m_word) = rX11_sets_79 := by rw [fX11_sets, if_pos c1, if_neg c2, if_pos c3]
        have e33 : (fX11_sets__m_vl m_choices m_vl m_vtype m_word m_vd m_vs1 m_vs2 zX) = (rX11_sets_79__m_vl m_choices m_vl m_vtype m_word m_vd m_vs1 m_vs2 zX) := by rw [fX11_sets__m_vl, if_pos c1, if_neg c2, if_pos c3]
        have e34 : (fX11_sets__m_vtype m_vtype m_word m_vd m_vs1 m_vs2 zX) = (rX11_sets_79__m_vtype m_vtype m_word m_vd m_vs1 m_vs2 zX) := by rw [fX11_sets__m_vtype, if_pos c1, if_neg c2, if_pos c3]
        have e35 : (fX11_sets__zX m_choices m_vl m_vtype m_word m_vd m_vs1 m_vs2 zX) = (rX11_sets_79__zX m_choices m_vl m_vtype m_word m_vd m_vs1 m_vs2 zX) := by rw [fX11_sets__zX, if_pos c1, if_neg c2, if_pos c3]
        rw [e32, e33, e34, e35]
        have e36 : (pX11_sets_79_L1 m_word m_vs2 zX) = (zX (Int32.toNatClampNeg m_vs2)) := by rw [pX11_sets_79_L1, if_pos c1, if_neg c2, if_pos c3]
        rw [e36] at hJ4
        have e37 : (pX11_sets_79_L2 m_word) = (0 : Int32) := by rw [pX11_sets_79_L2, if_pos c1, if_neg c2, if_pos c3]
        rw [e37] at hJ4
        exact k_sub [2, 0, 1] rfl hJ4
      refine k_iconst X dX11_sets_77 kc_i_1 rfl ?_
      have e38 : (fX11_sets m_word) = (1 : Int32) := by rw [fX11_sets, if_pos c1, if_neg c2, if_neg c3]
      have e39 : (fX11_sets__m_vl m_choices m_vl m_vtype m_word m_vd m_vs1 m_vs2 zX) = m_vl := by rw [fX11_sets__m_vl, if_pos c1, if_neg c2, if_neg c3]
      have e40 : (fX11_sets__m_vtype m_vtype m_word m_vd m_vs1 m_vs2 zX) = m_vtype := by rw [fX11_sets__m_vtype, if_pos c1, if_neg c2, if_neg c3]
      have e41 : (fX11_sets__zX m_choices m_vl m_vtype m_word m_vd m_vs1 m_vs2 zX) = zX := by rw [fX11_sets__zX, if_pos c1, if_neg c2, if_neg c3]
      exact k_iret9 X hRt hLk e38.symm (by rw [e39, e40, e41]) dX11_sets_78
    refine k_aload_n X dX11_sets_9 rfl 1 rfl rfl ?_
    refine k_get X i_wsX110 0 16 q27_2 rfl rfl rfl rfl rfl dX11_sets_10 rfl ?_
    refine k_bipush X dX11_sets_13 kc_b_20 rfl ?_
    refine k_ishr X dX11_sets_15 rfl ?_
    refine k_sipush X dX11_sets_16 kc_s_2047 rfl ?_
    refine k_iand X dX11_sets_19 rfl ?_
    refine k_istore_n (lv' := [(1, .int ((shr m_word (20 : Int32)) &&& (2047 : Int32))), (2, .int (0 : Int32)), (0, .ref b_m)]) X dX11_sets_20 rfl rfl rfl rfl ?_
    refine k_goto (tgt := 79) X dX11_sets_21 (by decide) ?_
    have e42 : (fX11_sets m_word) = rX11_sets_79 := by rw [fX11_sets, if_neg c1]
    have e43 : (fX11_sets__m_vl m_choices m_vl m_vtype m_word m_vd m_vs1 m_vs2 zX) = (rX11_sets_79__m_vl m_choices m_vl m_vtype m_word m_vd m_vs1 m_vs2 zX) := by rw [fX11_sets__m_vl, if_neg c1]
    have e44 : (fX11_sets__m_vtype m_vtype m_word m_vd m_vs1 m_vs2 zX) = (rX11_sets_79__m_vtype m_vtype m_word m_vd m_vs1 m_vs2 zX) := by rw [fX11_sets__m_vtype, if_neg c1]
    have e45 : (fX11_sets__zX m_choices m_vl m_vtype m_word m_vd m_vs1 m_vs2 zX) = (rX11_sets_79__zX m_choices m_vl m_vtype m_word m_vd m_vs1 m_vs2 zX) := by rw [fX11_sets__zX, if_neg c1]
    rw [e42, e43, e44, e45]
    have e46 : (pX11_sets_79_L1 m_word m_vs2 zX) = ((shr m_word (20 : Int32)) &&& (2047 : Int32)) := by rw [pX11_sets_79_L1, if_neg c1]
    rw [e46] at hJ4
    have e47 : (pX11_sets_79_L2 m_word) = (0 : Int32) := by rw [pX11_sets_79_L2, if_neg c1]
    rw [e47] at hJ4
    exact k_sub [2, 0, 1] rfl hJ4
  refine k_aload_n X dX11_sets_79 rfl 0 rfl rfl ?_
  refine k_get X i_wsX110 0 8 q6_0 rfl rfl rfl rfl rfl dX11_sets_80 rfl ?_
  refine k_istore_n (lv' := [(3, .int m_vtype), (0, .ref b_m), (1, .int (pX11_sets_79_L1 m_word m_vs2 zX)), (2, .int (pX11_sets_79_L2 m_word))]) X dX11_sets_83 rfl rfl rfl rfl ?_
  refine k_aload_n X dX11_sets_84 rfl 1 rfl rfl ?_
  refine k_iload_n X dX11_sets_85 rfl 2 rfl rfl ?_
  refine k_cS1 (st := [.ref b_m]) (ws' := [(b_m, .inr (10, [.int m_thrown, .ref b_zX, .ref m_v, .ref m_old, .ref m_memory, .ref m_shut, .long m_choices, .int m_vl, .int m_vtype, .int m_vstart, .int m_vxrm, .int m_vxsat, .int m_done, .int m_illegal, .int m_traps, .int m_trapAddress, .int m_word, .int m_vd, .int m_vs1, .int m_vs2, .int m_f3, .int m_f6, .int m_sew, .int m_l8, .int m_unmasked])), (b_zX, .inl (kI, 32, .inl zX))]) (wr := [(b_m, .inr (10, [.int m_thrown, .ref b_zX, .ref m_v, .ref m_old, .ref m_memory, .ref m_shut, .long m_choices, .int m_vl, .int m_vtype, .int m_vstart, .int m_vxrm, .int m_vxsat, .int m_done, .int m_illegal, .int m_traps, .int m_trapAddress, .int m_word, .int m_vd, .int m_vs1, .int m_vs2, .int m_f3, .int m_f6, .int m_sew, .int m_l8, .int m_unmasked])), (b_zX, .inl (kI, 32, .inl zX))]) X [.int (pX11_sets_79_L1 m_word m_vs2 zX)] 1 [] [0, 1] [0, 1] (kX11_typed l D kI kZ (pX11_sets_79_L1 m_word m_vs2 zX)) vX11_typed q28_10 dX11_sets_86 rfl rfl rfl rfl rfl rfl rfl rfl rfl rfl rfl rfl rfl ?_
  refine k_put (ws' := [(b_m, .inr (10, [.int m_thrown, .ref b_zX, .ref m_v, .ref m_old, .ref m_memory, .ref m_shut, .long m_choices, .int m_vl, .int (fX11_typed (pX11_sets_79_L1 m_word m_vs2 zX)), .int m_vstart, .int m_vxrm, .int m_vxsat, .int m_done, .int m_illegal, .int m_traps, .int m_trapAddress, .int m_word, .int m_vd, .int m_vs1, .int m_vs2, .int m_f3, .int m_f6, .int m_sew, .int m_l8, .int m_unmasked])), (b_zX, .inl (kI, 32, .inl zX))]) X i_wsX110 tyX11 tyX11_ok nmX11 0 8 q6_0 rfl rfl rfl rfl rfl rfl rfl rfl rfl dX11_sets_89 rfl ?_
  refine k_iload_n X dX11_sets_92 rfl 3 rfl rfl ?_
  refine k_mid2 [(b_m, .inr (10, [.int m_thrown, .ref b_zX, .ref m_v, .ref m_old, .ref m_memory, .ref m_shut, .long m_choices, .int m_vl, .int (fX11_typed (pX11_sets_79_L1 m_word m_vs2 zX)), .int m_vstart, .int m_vxrm, .int m_vxsat, .int m_done, .int m_illegal, .int m_traps, .int m_trapAddress, .int m_word, .int m_vd, .int m_vs1, .int m_vs2, .int m_f3, .int m_f6, .int m_sew, .int m_l8, .int m_unmasked])), (b_zX, .inl (kI, 32, .inl zX))] [(0, .ref b_m), (1, .int (pX11_sets_79_L1 m_word m_vs2 zX)), (2, .int (pX11_sets_79_L2 m_word)), (3, .int m_vtype)] [.long (pX11_sets_135_S1 m_word m_vs1 zX)] 135 (fun hJ9 => ?_) ?_
  · skip
    refine k_if_ne (tgt := 103) X dX11_sets_93 (by decide) rfl (fun c5 => ?_) (fun c5 => ?_)
    · skip
      refine k_aload_n X dX11_sets_96 rfl 1 rfl rfl ?_
      refine k_get X i_wsX110 0 18 q27_5 rfl rfl rfl rfl rfl dX11_sets_97 rfl ?_
      refine k_if_le (tgt := 132) X dX11_sets_100 (by decide) rfl (fun c6 => ?_) (fun c6 => ?_)
      · skip
        refine k_ldc2 X q28_6 dX11_sets_132 rfl ?_
        have e48 : (pX11_sets_135_S1 m_word m_vs1 zX) = (2305843009213693951 : Int64) := by rw [pX11_sets_135_S1, if_pos c5, if_pos c6]
        rw [e48] at hJ9
        exact k_sub [1, 2, 3, 0] rfl hJ9
      refine k_iload_n X dX11_sets_103 rfl 3 rfl rfl ?_
      refine k_if_eq (tgt := 115) X dX11_sets_104 (by decide) rfl (fun c7 => ?_) (fun c7 => ?_)
      · skip
        refine k_aload_n X dX11_sets_115 rfl 1 rfl rfl ?_
        refine k_get X i_wsX110 0 1 q5_17 rfl rfl rfl rfl rfl dX11_sets_116 rfl ?_
        refine k_aload_n X dX11_sets_119 rfl 1 rfl rfl ?_
        refine k_get X i_wsX110 0 18 q27_5 rfl rfl rfl rfl rfl dX11_sets_120 rfl ?_
        refine k_iald X 1 0 rfl rfl (hok.2.1 c5 c6 c7) dX11_sets_123 rfl ?_
        refine k_i2l X dX11_sets_124 rfl ?_
        refine k_ldc2 X q28_5 dX11_sets_125 rfl ?_
        refine k_land X dX11_sets_128 rfl ?_
        refine k_goto (tgt := 135) X dX11_sets_129 (by decide) ?_
        have e49 : (pX11_sets_135_S1 m_word m_vs1 zX) = ((Int32.toInt64 (zX (Int32.toNatClampNeg m_vs1))) &&& (4294967295 : Int64)) := by rw [pX11_sets_135_S1, if_pos c5, if_neg c6, if_pos c7]
        rw [e49] at hJ9
        exact k_sub [1, 2, 3, 0] rfl hJ9
      refine k_aload_n X dX11_sets_107 rfl 1 rfl rfl ?_
      refine k_get X i_wsX110 0 18 q27_5 rfl rfl rfl rfl rfl dX11_sets_108 rfl ?_
      refine k_i2l X dX11_sets_111 rfl ?_
      refine k_goto (tgt := 135) X dX11_sets_112 (by decide) ?_
      have e50 : (pX11_sets_135_S1 m_word m_vs1 zX) = (Int32.toInt64 m_vs1) := by rw [pX11_sets_135_S1, if_pos c5, if_neg c6, if_neg c7]
      rw [e50] at hJ9
      exact k_sub [1, 2, 3, 0] rfl hJ9
    refine k_iload_n X dX11_sets_103 rfl 3 rfl rfl ?_
    refine k_if_eq (tgt := 115) X dX11_sets_104 (by decide) rfl (fun c8 => ?_) (fun c8 => ?_)
    · skip
      refine k_aload_n X dX11_sets_115 rfl 1 rfl rfl ?_
      refine k_get X i_wsX110 0 1 q5_17 rfl rfl rfl rfl rfl dX11_sets_116 rfl ?_
      refine k_aload_n X dX11_sets_119 rfl 1 rfl rfl ?_
      refine k_get X i_wsX110 0 18 q27_5 rfl rfl rfl rfl rfl dX11_sets_120 rfl ?_
      refine k_iald X 1 0 rfl rfl (hok.2.2.1 c5 c8) dX11_sets_123 rfl ?_
      refine k_i2l X dX11_sets_124 rfl ?_
      refine k_ldc2 X q28_5 dX11_sets_125 rfl ?_
      refine k_land X dX11_sets_128 rfl ?_
      refine k_goto (tgt := 135) X dX11_sets_129 (by decide) ?_
      have e51 : (pX11_sets_135_S1 m_word m_vs1 zX) = ((Int32.toInt64 (zX (Int32.toNatClampNeg m_vs1))) &&& (4294967295 : Int64)) := by rw [pX11_sets_135_S1, if_neg c5, if_pos c8]
      rw [e51] at hJ9
      exact k_sub [1, 2, 3, 0] rfl hJ9
    refine k_aload_n X dX11_sets_107 rfl 1 rfl rfl ?_
    refine k_get X i_wsX110 0 18 q27_5 rfl rfl rfl rfl rfl dX11_sets_108 rfl ?_
    refine k_i2l X dX11_sets_111 rfl ?_
    refine k_goto (tgt := 135) X dX11_sets_112 (by decide) ?_
    have e52 : (pX11_sets_135_S1 m_word m_vs1 zX) = (Int32.toInt64 m_vs1) := by rw [pX11_sets_135_S1, if_neg c5, if_neg c8]
    rw [e52] at hJ9
    exact k_sub [1, 2, 3, 0] rfl hJ9
  refine k_lstore (lv' := [(4, .long (pX11_sets_135_S1 m_word m_vs1 zX)), (0, .ref b_m), (1, .int (pX11_sets_79_L1 m_word m_vs2 zX)), (2, .int (pX11_sets_79_L2 m_word)), (3, .int m_vtype)]) X dX11_sets_135 rfl rfl rfl ?_
  refine k_iload_n X dX11_sets_137 rfl 3 rfl rfl ?_
  refine k_mid2 [(b_m, .inr (10, [.int m_thrown, .ref b_zX, .ref m_v, .ref m_old, .ref m_memory, .ref m_shut, .long m_choices, .int m_vl, .int (fX11_typed (pX11_sets_79_L1 m_word m_vs2 zX)), .int m_vstart, .int m_vxrm, .int m_vxsat, .int m_done, .int m_illegal, .int m_traps, .int m_trapAddress, .int m_word, .int m_vd, .int m_vs1, .int m_vs2, .int m_f3, .int m_f6, .int m_sew, .int m_l8, .int m_unmasked])), (b_zX, .inl (kI, 32, .inl zX))] [(0, .ref b_m), (1, .int (pX11_sets_79_L1 m_word m_vs2 zX)), (2, .int (pX11_sets_79_L2 m_word)), (3, .int m_vtype), (4, .long (pX11_sets_135_S1 m_word m_vs1 zX))] [.int (pX11_sets_160_S1 m_word m_vd m_vs1)] 160 (fun hJ13 => ?_) ?_
  · skip
    refine k_if_ne (tgt := 159) X dX11_sets_138 (by decide) rfl (fun c10 => ?_) (fun c10 => ?_)
    · skip
      refine k_aload_n X dX11_sets_141 rfl 1 rfl rfl ?_
      refine k_get X i_wsX110 0 18 q27_5 rfl rfl rfl rfl rfl dX11_sets_142 rfl ?_
      refine k_if_ne (tgt := 159) X dX11_sets_145 (by decide) rfl (fun c11 => ?_) (fun c11 => ?_)
      · skip
        refine k_aload_n X dX11_sets_148 rfl 1 rfl rfl ?_
        refine k_get X i_wsX110 0 17 q27_3 rfl rfl rfl rfl rfl dX11_sets_149 rfl ?_
        refine k_if_ne (tgt := 159) X dX11_sets_152 (by decide) rfl (fun c12 => ?_) (fun c12 => ?_)
        · skip
          refine k_iconst X dX11_sets_155 kc_i_1 rfl ?_
          refine k_goto (tgt := 160) X dX11_sets_156 (by decide) ?_
          have e53 : (pX11_sets_160_S1 m_word m_vd m_vs1) = (1 : Int32) := by rw [pX11_sets_160_S1, if_pos c10, if_pos c11, if_pos c12]
          rw [e53] at hJ13
          exact k_sub [1, 2, 3, 4, 0] rfl hJ13
        refine k_iconst X dX11_sets_159 kc_i_0 rfl ?_
        have e54 : (pX11_sets_160_S1 m_word m_vd m_vs1) = (0 : Int32) := by rw [pX11_sets_160_S1, if_pos c10, if_pos c11, if_neg c12]
        rw [e54] at hJ13
        exact k_sub [1, 2, 3, 4, 0] rfl hJ13
      refine k_iconst X dX11_sets_159 kc_i_0 rfl ?_
      have e55 : (pX11_sets_160_S1 m_word m_vd m_vs1) = (0 : Int32) := by rw [pX11_sets_160_S1, if_pos c10, if_neg c11]
      rw [e55] at hJ13
      exact k_sub [1, 2, 3, 4, 0] rfl hJ13
    refine k_iconst X dX11_sets_159 kc_i_0 rfl ?_
    have e56 : (pX11_sets_160_S1 m_word m_vd m_vs1) = (0 : Int32) := by rw [pX11_sets_160_S1, if_neg c10]
    rw [e56] at hJ13
    exact k_sub [1, 2, 3, 4, 0] rfl hJ13
  refine k_istore (lv' := [(6, .int (pX11_sets_160_S1 m_word m_vd m_vs1)), (0, .ref b_m), (1, .int (pX11_sets_79_L1 m_word m_vs2 zX)), (2, .int (pX11_sets_79_L2 m_word)), (3, .int m_vtype), (4, .long (pX11_sets_135_S1 m_word m_vs1 zX))]) X dX11_sets_160 rfl rfl rfl ?_
  refine k_iload X dX11_sets_162 0 rfl rfl ?_
  refine k_mid2 [(b_m, .inr (10, [.int m_thrown, .ref b_zX, .ref m_v, .ref m_old, .ref m_memory, .ref m_shut, .long m_choices, .int m_vl, .int (pX11_sets_198_m_vtype m_vtype m_word m_vd m_vs1 m_vs2 zX), .int m_vstart, .int m_vxrm, .int m_vxsat, .int m_done, .int m_illegal, .int m_traps, .int m_trapAddress, .int m_word, .int m_vd, .int m_vs1, .int m_vs2, .int m_f3, .int m_f6, .int m_sew, .int m_l8, .int m_unmasked])), (b_zX, .inl (kI, 32, .inl zX))] [(0, .ref b_m), (1, .int (pX11_sets_79_L1 m_word m_vs2 zX)), (2, .int (pX11_sets_79_L2 m_word)), (3, .int m_vtype), (4, .long (pX11_sets_135_S1 m_word m_vs1 zX)), (6, .int (pX11_sets_160_S1 m_word m_vd m_vs1))] [] 198 (fun hJ18 => ?_) ?_
  · skip
    refine k_if_eq (tgt := 198) X dX11_sets_164 (by decide) rfl (fun c14 => ?_) (fun c14 => ?_)
    · skip
      have e57 : (pX11_sets_198_m_vtype m_vtype m_word m_vd m_vs1 m_vs2 zX) = (fX11_typed (pX11_sets_79_L1 m_word m_vs2 zX)) := by rw [pX11_sets_198_m_vtype, if_pos c14]
      rw [e57] at hJ18
      exact k_sub [1, 2, 3, 4, 5, 0] rfl hJ18
    refine k_iload_n X dX11_sets_167 rfl 4 rfl rfl ?_
    refine k_if_lt (tgt := 192) X dX11_sets_168 (by decide) rfl (fun c15 => ?_) (fun c15 => ?_)
    · skip
      refine k_aload_n X dX11_sets_192 rfl 1 rfl rfl ?_
      refine k_ldc X q5_23 dX11_sets_193 rfl ?_
      refine k_put (ws' := [(b_m, .inr (10, [.int m_thrown, .ref b_zX, .ref m_v, .ref m_old, .ref m_memory, .ref m_shut, .long m_choices, .int m_vl, .int (-2147483648 : Int32), .int m_vstart, .int m_vxrm, .int m_vxsat, .int m_done, .int m_illegal, .int m_traps, .int m_trapAddress, .int m_word, .int m_vd, .int m_vs1, .int m_vs2, .int m_f3, .int m_f6, .int m_sew, .int m_l8, .int m_unmasked])), (b_zX, .inl (kI, 32, .inl zX))]) X i_wsX110 tyX11 tyX11_ok nmX11 0 8 q6_0 rfl rfl rfl rfl rfl rfl rfl rfl rfl dX11_sets_195 rfl ?_
      have e58 : (pX11_sets_198_m_vtype m_vtype m_word m_vd m_vs1 m_vs2 zX) = (-2147483648 : Int32) := by rw [pX11_sets_198_m_vtype, if_neg c14, if_pos c15]
      rw [e58] at hJ18
      exact k_sub [1, 2, 3, 4, 5, 0] rfl hJ18
    refine k_aload_n X dX11_sets_171 rfl 1 rfl rfl ?_
    refine k_get X i_wsX110 0 8 q6_0 rfl rfl rfl rfl rfl dX11_sets_172 rfl ?_
    refine k_if_lt (tgt := 192) X dX11_sets_175 (by decide) rfl (fun c16 => ?_) (fun c16 => ?_)
    · skip
      refine k_aload_n X dX11_sets_192 rfl 1 rfl rfl ?_
      refine k_ldc X q5_23 dX11_sets_193 rfl ?_
      refine k_put (ws' := [(b_m, .inr (10, [.int m_thrown, .ref b_zX, .ref m_v, .ref m_old, .ref m_memory, .ref m_shut, .long m_choices, .int m_vl, .int (-2147483648 : Int32), .int m_vstart, .int m_vxrm, .int m_vxsat, .int m_done, .int m_illegal, .int m_traps, .int m_trapAddress, .int m_word, .int m_vd, .int m_vs1, .int m_vs2, .int m_f3, .int m_f6, .int m_sew, .int m_l8, .int m_unmasked])), (b_zX, .inl (kI, 32, .inl zX))]) X i_wsX110 tyX11 tyX11_ok nmX11 0 8 q6_0 rfl rfl rfl rfl rfl rfl rfl rfl rfl dX11_sets_195 rfl ?_
      have e59 : (pX11_sets_198_m_vtype m_vtype m_word m_vd m_vs1 m_vs2 zX) = (-2147483648 : Int32) := by rw [pX11_sets_198_m_vtype, if_neg c14, if_neg c15, if_pos c16]
      rw [e59] at hJ18
      exact k_sub [1, 2, 3, 4, 5, 0] rfl hJ18
    refine k_iload_n X dX11_sets_178 rfl 4 rfl rfl ?_
    refine k_cS1 (st := []) (ws' := [(b_m, .inr (10, [.int m_thrown, .ref b_zX, .ref m_v, .ref m_old, .ref m_memory, .ref m_shut, .long m_choices, .int m_vl, .int (fX11_typed (pX11_sets_79_L1 m_word m_vs2 zX)), .int m_vstart, .int m_vxrm, .int m_vxsat, .int m_done, .int m_illegal, .int m_traps, .int m_trapAddress, .int m_word, .int m_vd, .int m_vs1, .int m_vs2, .int m_f3, .int m_f6, .int m_sew, .int m_l8, .int m_unmasked])), (b_zX, .inl (kI, 32, .inl zX))]) (wr := [(b_m, .inr (10, [.int m_thrown, .ref b_zX, .ref m_v, .ref m_old, .ref m_memory, .ref m_shut, .long m_choices, .int m_vl, .int (fX11_typed (pX11_sets_79_L1 m_word m_vs2 zX)), .int m_vstart, .int m_vxrm, .int m_vxsat, .int m_done, .int m_illegal, .int m_traps, .int m_trapAddress, .int m_word, .int m_vd, .int m_vs1, .int m_vs2, .int m_f3, .int m_f6, .int m_sew, .int m_l8, .int m_unmasked])), (b_zX, .inl (kI, 32, .inl zX))]) X [.int m_vtype] 0 [] [0, 1] [0, 1] (kX11_most l D kI kZ m_vtype (hok.2.2.2.1 c14 c15 c16)) vX11_most q28_13 dX11_sets_179 rfl rfl rfl rfl rfl rfl rfl rfl rfl rfl rfl rfl rfl ?_
    refine k_aload_n X dX11_sets_182 rfl 1 rfl rfl ?_
    refine k_get X i_wsX110 0 8 q6_0 rfl rfl rfl rfl rfl dX11_sets_183 rfl ?_
    refine k_cS1 (st := [.int (fX11_most m_vtype)]) (ws' := [(b_m, .inr (10, [.int m_thrown, .ref b_zX, .ref m_v, .ref m_old, .ref m_memory, .ref m_shut, .long m_choices, .int m_vl, .int (fX11_typed (pX11_sets_79_L1 m_word m_vs2 zX)), .int m_vstart, .int m_vxrm, .int m_vxsat, .int m_done, .int m_illegal, .int m_traps, .int m_trapAddress, .int m_word, .int m_vd, .int m_vs1, .int m_vs2, .int m_f3, .int m_f6, .int m_sew, .int m_l8, .int m_unmasked])), (b_zX, .inl (kI, 32, .inl zX))]) (wr := [(b_m, .inr (10, [.int m_thrown, .ref b_zX, .ref m_v, .ref m_old, .ref m_memory, .ref m_shut, .long m_choices, .int m_vl, .int (fX11_typed (pX11_sets_79_L1 m_word m_vs2 zX)), .int m_vstart, .int m_vxrm, .int m_vxsat, .int m_done, .int m_illegal, .int m_traps, .int m_trapAddress, .int m_word, .int m_vd, .int m_vs1, .int m_vs2, .int m_f3, .int m_f6, .int m_sew, .int m_l8, .int m_unmasked])), (b_zX, .inl (kI, 32, .inl zX))]) X [.int (fX11_typed (pX11_sets_79_L1 m_word m_vs2 zX))] 1 [] [0, 1] [0, 1] (kX11_most l D kI kZ (fX11_typed (pX11_sets_79_L1 m_word m_vs2 zX)) (hok.2.2.2.2.1 c14 c15 c16)) vX11_most q28_13 dX11_sets_186 rfl rfl rfl rfl rfl rfl rfl rfl rfl rfl rfl rfl rfl ?_
    refine k_icmp_eq (tgt := 198) X dX11_sets_189 (by decide) rfl (fun c17 => ?_) (fun c17 => ?_)
    · skip
      have e60 : (pX11_sets_198_m_vtype m_vtype m_word m_vd m_vs1 m_vs2 zX) = (fX11_typed (pX11_sets_79_L1 m_word m_vs2 zX)) := by rw [pX11_sets_198_m_vtype, if_neg c14, if_neg c15, if_neg c16, if_pos c17]
      rw [e60] at hJ18
      exact k_sub [1, 2, 3, 4, 5, 0] rfl hJ18
    refine k_aload_n X dX11_sets_192 rfl 1 rfl rfl ?_
    refine k_ldc X q5_23 dX11_sets_193 rfl ?_
    refine k_put (ws' := [(b_m, .inr (10, [.int m_thrown, .ref b_zX, .ref m_v, .ref m_old, .ref m_memory, .ref m_shut, .long m_choices, .int m_vl, .int (-2147483648 : Int32), .int m_vstart, .int m_vxrm, .int m_vxsat, .int m_done, .int m_illegal, .int m_traps, .int m_trapAddress, .int m_word, .int m_vd, .int m_vs1, .int m_vs2, .int m_f3, .int m_f6, .int m_sew, .int m_l8, .int m_unmasked])), (b_zX, .inl (kI, 32, .inl zX))]) X i_wsX110 tyX11 tyX11_ok nmX11 0 8 q6_0 rfl rfl rfl rfl rfl rfl rfl rfl rfl dX11_sets_195 rfl ?_
    have e61 : (pX11_sets_198_m_vtype m_vtype m_word m_vd m_vs1 m_vs2 zX) = (-2147483648 : Int32) := by rw [pX11_sets_198_m_vtype, if_neg c14, if_neg c15, if_neg c16, if_neg c17]
    rw [e61] at hJ18
    exact k_sub [1, 2, 3, 4, 5, 0] rfl hJ18
  refine k_aload_n X dX11_sets_198 rfl 0 rfl rfl ?_
  refine k_get X i_wsX110 0 8 q6_0 rfl rfl rfl rfl rfl dX11_sets_199 rfl ?_
  refine k_cS1 (st := []) (ws' := [(b_m, .inr (10, [.int m_thrown, .ref b_zX, .ref m_v, .ref m_old, .ref m_memory, .ref m_shut, .long m_choices, .int m_vl, .int (pX11_sets_198_m_vtype m_vtype m_word m_vd m_vs1 m_vs2 zX), .int m_vstart, .int m_vxrm, .int m_vxsat, .int m_done, .int m_illegal, .int m_traps, .int m_trapAddress, .int m_word, .int m_vd, .int m_vs1, .int m_vs2, .int m_f3, .int m_f6, .int m_sew, .int m_l8, .int m_unmasked])), (b_zX, .inl (kI, 32, .inl zX))]) (wr := [(b_m, .inr (10, [.int m_thrown, .ref b_zX, .ref m_v, .ref m_old, .ref m_memory, .ref m_shut, .long m_choices, .int m_vl, .int (pX11_sets_198_m_vtype m_vtype m_word m_vd m_vs1 m_vs2 zX), .int m_vstart, .int m_vxrm, .int m_vxsat, .int m_done, .int m_illegal, .int m_traps, .int m_trapAddress, .int m_word, .int m_vd, .int m_vs1, .int m_vs2, .int m_f3, .int m_f6, .int m_sew, .int m_l8, .int m_unmasked])), (b_zX, .inl (kI, 32, .inl zX))]) X [.int (pX11_sets_198_m_vtype m_vtype m_word m_vd m_vs1 m_vs2 zX)] 0 [] [0, 1] [0, 1] (kX11_most l D kI kZ (pX11_sets_198_m_vtype m_vtype m_word m_vd m_vs1 m_vs2 zX) (hok.2.2.2.2.2.1)) vX11_most q28_13 dX11_sets_202 rfl rfl rfl rfl rfl rfl rfl rfl rfl rfl rfl rfl rfl ?_
  refine k_istore (lv' := [(7, .int (fX11_most (pX11_sets_198_m_vtype m_vtype m_word m_vd m_vs1 m_vs2 zX))), (0, .ref b_m), (1, .int (pX11_sets_79_L1 m_word m_vs2 zX)), (2, .int (pX11_sets_79_L2 m_word)), (3, .int m_vtype), (4, .long (pX11_sets_135_S1 m_word m_vs1 zX)), (6, .int (pX11_sets_160_S1 m_word m_vd m_vs1))]) X dX11_sets_205 rfl rfl rfl ?_
  refine k_aload_n X dX11_sets_207 rfl 1 rfl rfl ?_
  refine k_get X i_wsX110 0 8 q6_0 rfl rfl rfl rfl rfl dX11_sets_208 rfl ?_
  refine k_mid2 [(b_m, .inr (10, [.int m_thrown, .ref b_zX, .ref m_v, .ref m_old, .ref m_memory, .ref m_shut, .long m_choices, .int (pX11_sets_301_m_vl m_choices m_vl m_vtype m_word m_vd m_vs1 m_vs2 zX), .int (pX11_sets_198_m_vtype m_vtype m_word m_vd m_vs1 m_vs2 zX), .int m_vstart, .int m_vxrm, .int m_vxsat, .int m_done, .int m_illegal, .int m_traps, .int m_trapAddress, .int m_word, .int m_vd, .int m_vs1, .int m_vs2, .int m_f3, .int m_f6, .int m_sew, .int m_l8, .int m_unmasked])), (b_zX, .inl (kI, 32, .inl zX))] [(0, .ref b_m), (1, .int (pX11_sets_79_L1 m_word m_vs2 zX)), (2, .int (pX11_sets_79_L2 m_word)), (3, .int m_vtype), (4, .long (pX11_sets_135_S1 m_word m_vs1 zX)), (6, .int (pX11_sets_160_S1 m_word m_vd m_vs1)), (7, .int (fX11_most (pX11_sets_198_m_vtype m_vtype m_word m_vd m_vs1 m_vs2 zX)))] [] 301 (fun hJ23 => ?_) ?_
  · skip
    refine k_if_ge (tgt := 222) X dX11_sets_211 (by decide) rfl (fun c19 => ?_) (fun c19 => ?_)
    · skip
      refine k_iload X dX11_sets_222 6 rfl rfl ?_
      refine k_if_ne (tgt := 301) X dX11_sets_224 (by decide) rfl (fun c20 => ?_) (fun c20 => ?_)
      · skip
        refine k_lload X dX11_sets_227 5 rfl rfl ?_
        refine k_iload X dX11_sets_229 0 rfl rfl ?_
        refine k_i2l X dX11_sets_231 rfl ?_
        refine k_lcmp_gt (tgt := 246) X dX11_sets_232 rfl dX11_sets_233 (by decide) rfl (fun c21 => ?_) (fun c21 => ?_)
        · skip
          refine k_lload X dX11_sets_246 5 rfl rfl ?_
          refine k_ldc2 X q28_8 dX11_sets_248 rfl ?_
          refine k_iload X dX11_sets_251 0 rfl rfl ?_
          refine k_i2l X dX11_sets_253 rfl ?_
          refine k_lmul X dX11_sets_254 rfl ?_
          refine k_lcmp_lt (tgt := 268) X dX11_sets_255 rfl dX11_sets_256 (by decide) rfl (fun c22 => ?_) (fun c22 => ?_)
          · skip
            refine k_lload X dX11_sets_268 5 rfl rfl ?_
            refine k_lconst (v := (1 : Int64)) X dX11_sets_270 rfl rfl ?_
            refine k_ladd X dX11_sets_271 rfl ?_
            refine k_ldc2 X q28_8 dX11_sets_272 rfl ?_
            refine k_ldiv X dX11_sets_275 (by decide) rfl ?_
            refine k_lstore (lv' := [(8, .long (((pX11_sets_135_S1 m_word m_vs1 zX) + (1 : Int64)) / (2 : Int64))), (7, .int (fX11_most (pX11_sets_198_m_vtype m_vtype m_word m_vd m_vs1 m_vs2 zX))), (0, .ref b_m), (1, .int (pX11_sets_79_L1 m_word m_vs2 zX)), (2, .int (pX11_sets_79_L2 m_word)), (3, .int m_vtype), (4, .long (pX11_sets_135_S1 m_word m_vs1 zX)), (6, .int (pX11_sets_160_S1 m_word m_vd m_vs1))]) X dX11_sets_276 rfl rfl rfl ?_
            refine k_aload_n X dX11_sets_278 rfl 2 rfl rfl ?_
            refine k_lload X dX11_sets_279 0 rfl rfl ?_
            refine k_aload_n X dX11_sets_281 rfl 2 rfl rfl ?_
            refine k_get X i_wsX110 0 6 q28_9 rfl rfl rfl rfl rfl dX11_sets_282 rfl ?_
            refine k_iload X dX11_sets_285 1 rfl rfl ?_
            refine k_i2l X dX11_sets_287 rfl ?_
            refine k_lload X dX11_sets_288 0 rfl rfl ?_
            refine k_lsub X dX11_sets_290 rfl ?_
            refine k_lconst (v := (1 : Int64)) X dX11_sets_291 rfl rfl ?_
            refine k_ladd X dX11_sets_292 rfl ?_
            refine k_cS1 (st := [.long (((pX11_sets_135_S1 m_word m_vs1 zX) + (1 : Int64)) / (2 : Int64)), .ref b_m]) (ws' := [(b_m, .inr (10, [.int m_thrown, .ref b_zX, .ref m_v, .ref m_old, .ref m_memory, .ref m_shut, .long m_choices, .int m_vl, .int (pX11_sets_198_m_vtype m_vtype m_word m_vd m_vs1 m_vs2 zX), .int m_vstart, .int m_vxrm, .int m_vxsat, .int m_done, .int m_illegal, .int m_traps, .int m_trapAddress, .int m_word, .int m_vd, .int m_vs1, .int m_vs2, .int m_f3, .int m_f6, .int m_sew, .int m_l8, .int m_unmasked])), (b_zX, .inl (kI, 32, .inl zX))]) (wr := [(b_m, .inr (10, [.int m_thrown, .ref b_zX, .ref m_v, .ref m_old, .ref m_memory, .ref m_shut, .long m_choices, .int m_vl, .int (pX11_sets_198_m_vtype m_vtype m_word m_vd m_vs1 m_vs2 zX), .int m_vstart, .int m_vxrm, .int m_vxsat, .int m_done, .int m_illegal, .int m_traps, .int m_trapAddress, .int m_word, .int m_vd, .int m_vs1, .int m_vs2, .int m_f3, .int m_f6, .int m_sew, .int m_l8, .int m_unmasked])), (b_zX, .inl (kI, 32, .inl zX))]) X [.long m_choices, .long (((Int32.toInt64 (fX11_most (pX11_sets_198_m_vtype m_vtype m_word m_vd m_vs1 m_vs2 zX))) - (((pX11_sets_135_S1 m_word m_vs1 zX) + (1 : Int64)) / (2 : Int64))) + (1 : Int64))] 3 [] [0, 1] [0, 1] (kJ13_remainderUnsigned_f86c9 l D kI kZ m_choices (((Int32.toInt64 (fX11_most (pX11_sets_198_m_vtype m_vtype m_word m_vd m_vs1 m_vs2 zX))) - (((pX11_sets_135_S1 m_word m_vs1 zX) + (1 : Int64)) / (2 : Int64))) + (1 : Int64)) (hok.2.2.2.2.2.2.1 c19 c20 c21 c22)) vJ13_remainderUnsigned_f86c9 q28_16 dX11_sets_293 rfl rfl rfl rfl rfl rfl rfl rfl rfl rfl rfl rfl rfl ?_
            refine k_ladd X dX11_sets_296 rfl ?_
            refine k_l2i X dX11_sets_297 rfl ?_
            refine k_foldi (v := (eX11_sets_298 m_choices m_vtype m_word m_vd m_vs1 m_vs2 zX)) rfl ?_
            refine k_put (ws' := [(b_m, .inr (10, [.int m_thrown, .ref b_zX, .ref m_v, .ref m_old, .ref m_memory, .ref m_shut, .long m_choices, .int (eX11_sets_298 m_choices m_vtype m_word m_vd m_vs1 m_vs2 zX), .int (pX11_sets_198_m_vtype m_vtype m_word m_vd m_vs1 m_vs2 zX), .int m_vstart, .int m_vxrm, .int m_vxsat, .int m_done, .int m_illegal, .int m_traps, .int m_trapAddress, .int m_word, .int m_vd, .int m_vs1, .int m_vs2, .int m_f3, .int m_f6, .int m_sew, .int m_l8, .int m_unmasked])), (b_zX, .inl (kI, 32, .inl zX))]) X i_wsX110 tyX11 tyX11_ok nmX11 0 7 q28_7 rfl rfl rfl rfl rfl rfl rfl rfl rfl dX11_sets_298 rfl ?_
            have e62 : (pX11_sets_301_m_vl m_choices m_vl m_vtype m_word m_vd m_vs1 m_vs2 zX) = (eX11_sets_298 m_choices m_vtype m_word m_vd m_vs1 m_vs2 zX) := by rw [pX11_sets_301_m_vl, if_pos c19, if_pos c20, if_pos c21, if_pos c22]
            rw [e62] at hJ23
            exact k_sub [2, 3, 4, 5, 6, 7, 1] rfl hJ23
          refine k_aload_n X dX11_sets_259 rfl 1 rfl rfl ?_
          refine k_iload X dX11_sets_260 0 rfl rfl ?_
          refine k_put (ws' := [(b_m, .inr (10, [.int m_thrown, .ref b_zX, .ref m_v, .ref m_old, .ref m_memory, .ref m_shut, .long m_choices, .int (fX11_most (pX11_sets_198_m_vtype m_vtype m_word m_vd m_vs1 m_vs2 zX)), .int (pX11_sets_198_m_vtype m_vtype m_word m_vd m_vs1 m_vs2 zX), .int m_vstart, .int m_vxrm, .int m_vxsat, .int m_done, .int m_illegal, .int m_traps, .int m_trapAddress, .int m_word, .int m_vd, .int m_vs1, .int m_vs2, .int m_f3, .int m_f6, .int m_sew, .int m_l8, .int m_unmasked])), (b_zX, .inl (kI, 32, .inl zX))]) X i_wsX110 tyX11 tyX11_ok nmX11 0 7 q28_7 rfl rfl rfl rfl rfl rfl rfl rfl rfl dX11_sets_262 rfl ?_
          refine k_goto (tgt := 301) X dX11_sets_265 (by decide) ?_
          have e63 : (pX11_sets_301_m_vl m_choices m_vl m_vtype m_word m_vd m_vs1 m_vs2 zX) = (fX11_most (pX11_sets_198_m_vtype m_vtype m_word m_vd m_vs1 m_vs2 zX)) := by rw [pX11_sets_301_m_vl, if_pos c19, if_pos c20, if_pos c21, if_neg c22]
          rw [e63] at hJ23
          exact k_sub [1, 2, 3, 4, 5, 6, 0] rfl hJ23
        refine k_aload_n X dX11_sets_236 rfl 1 rfl rfl ?_
        refine k_lload X dX11_sets_237 5 rfl rfl ?_
        refine k_l2i X dX11_sets_239 rfl ?_
        refine k_put (ws' := [(b_m, .inr (10, [.int m_thrown, .ref b_zX, .ref m_v, .ref m_old, .ref m_memory, .ref m_shut, .long m_choices, .int (Int64.toInt32 (pX11_sets_135_S1 m_word m_vs1 zX)), .int (pX11_sets_198_m_vtype m_vtype m_word m_vd m_vs1 m_vs2 zX), .int m_vstart, .int m_vxrm, .int m_vxsat, .int m_done, .int m_illegal, .int m_traps, .int m_trapAddress, .int m_word, .int m_vd, .int m_vs1, .int m_vs2, .int m_f3, .int m_f6, .int m_sew, .int m_l8, .int m_unmasked])), (b_zX, .inl (kI, 32, .inl zX))]) X i_wsX110 tyX11 tyX11_ok nmX11 0 7 q28_7 rfl rfl rfl rfl rfl rfl rfl rfl rfl dX11_sets_240 rfl ?_
        refine k_goto (tgt := 301) X dX11_sets_243 (by decide) ?_
        have e64 : (pX11_sets_301_m_vl m_choices m_vl m_vtype m_word m_vd m_vs1 m_vs2 zX) = (Int64.toInt32 (pX11_sets_135_S1 m_word m_vs1 zX)) := by rw [pX11_sets_301_m_vl, if_pos c19, if_pos c20, if_neg c21]
        rw [e64] at hJ23
        exact k_sub [1, 2, 3, 4, 5, 6, 0] rfl hJ23
      have e65 : (pX11_sets_301_m_vl m_choices m_vl m_vtype m_word m_vd m_vs1 m_vs2 zX) = m_vl := by rw [pX11_sets_301_m_vl, if_pos c19, if_neg c20]
      rw [e65] at hJ23
      exact k_sub [1, 2, 3, 4, 5, 6, 0] rfl hJ23
    refine k_aload_n X dX11_sets_214 rfl 1 rfl rfl ?_
    refine k_iconst X dX11_sets_215 kc_i_0 rfl ?_
    refine k_put (ws' := [(b_m, .inr (10, [.int m_thrown, .ref b_zX, .ref m_v, .ref m_old, .ref m_memory, .ref m_shut, .long m_choices, .int (0 : Int32), .int (pX11_sets_198_m_vtype m_vtype m_word m_vd m_vs1 m_vs2 zX), .int m_vstart, .int m_vxrm, .int m_vxsat, .int m_done, .int m_illegal, .int m_traps, .int m_trapAddress, .int m_word, .int m_vd, .int m_vs1, .int m_vs2, .int m_f3, .int m_f6, .int m_sew, .int m_l8, .int m_unmasked])), (b_zX, .inl (kI, 32, .inl zX))]) X i_wsX110 tyX11 tyX11_ok nmX11 0 7 q28_7 rfl rfl rfl rfl rfl rfl rfl rfl rfl dX11_sets_216 rfl ?_
    refine k_goto (tgt := 301) X dX11_sets_219 (by decide) ?_
    have e66 : (pX11_sets_301_m_vl m_choices m_vl m_vtype m_word m_vd m_vs1 m_vs2 zX) = (0 : Int32) := by rw [pX11_sets_301_m_vl, if_neg c19]
    rw [e66] at hJ23
    exact k_sub [1, 2, 3, 4, 5, 6, 0] rfl hJ23
  refine k_aload_n X dX11_sets_301 rfl 0 rfl rfl ?_
  refine k_get X i_wsX110 0 17 q27_3 rfl rfl rfl rfl rfl dX11_sets_302 rfl ?_
  refine k_mid2 [(b_m, .inr (10, [.int m_thrown, .ref b_zX, .ref m_v, .ref m_old, .ref m_memory, .ref m_shut, .long m_choices, .int (pX11_sets_301_m_vl m_choices m_vl m_vtype m_word m_vd m_vs1 m_vs2 zX), .int (pX11_sets_198_m_vtype m_vtype m_word m_vd m_vs1 m_vs2 zX), .int m_vstart, .int m_vxrm, .int m_vxsat, .int m_done, .int m_illegal, .int m_traps, .int m_trapAddress, .int m_word, .int m_vd, .int m_vs1, .int m_vs2, .int m_f3, .int m_f6, .int m_sew, .int m_l8, .int m_unmasked])), (b_zX, .inl (kI, 32, .inl (pX11_sets_321_zX m_choices m_vl m_vtype m_word m_vd m_vs1 m_vs2 zX)))] [(0, .ref b_m), (1, .int (pX11_sets_79_L1 m_word m_vs2 zX)), (2, .int (pX11_sets_79_L2 m_word)), (3, .int m_vtype), (4, .long (pX11_sets_135_S1 m_word m_vs1 zX)), (6, .int (pX11_sets_160_S1 m_word m_vd m_vs1)), (7, .int (fX11_most (pX11_sets_198_m_vtype m_vtype m_word m_vd m_vs1 m_vs2 zX)))] [] 321 (fun hJ25 => ?_) ?_
  · skip
    refine k_if_le (tgt := 321) X dX11_sets_305 (by decide) rfl (fun c24 => ?_) (fun c24 => ?_)
    · skip
      have e67 : (pX11_sets_321_zX m_choices m_vl m_vtype m_word m_vd m_vs1 m_vs2 zX) = zX := by rw [pX11_sets_321_zX, if_pos c24]
      rw [e67] at hJ25
      exact k_sub [0, 1, 2, 3, 4, 5, 6] rfl hJ25
    refine k_aload_n X dX11_sets_308 rfl 0 rfl rfl ?_
    refine k_get X i_wsX110 0 1 q5_17 rfl rfl rfl rfl rfl dX11_sets_309 rfl ?_
    refine k_aload_n X dX11_sets_312 rfl 0 rfl rfl ?_
    refine k_get X i_wsX110 0 17 q27_3 rfl rfl rfl rfl rfl dX11_sets_313 rfl ?_
    refine k_aload_n X dX11_sets_316 rfl 0 rfl rfl ?_
    refine k_get X i_wsX110 0 7 q28_7 rfl rfl rfl rfl rfl dX11_sets_317 rfl ?_
    refine k_iast (ws' := [(b_m, .inr (10, [.int m_thrown, .ref b_zX, .ref m_v, .ref m_old, .ref m_memory, .ref m_shut, .long m_choices, .int (pX11_sets_301_m_vl m_choices m_vl m_vtype m_word m_vd m_vs1 m_vs2 zX), .int (pX11_sets_198_m_vtype m_vtype m_word m_vd m_vs1 m_vs2 zX), .int m_vstart, .int m_vxrm, .int m_vxsat, .int m_done, .int m_illegal, .int m_traps, .int m_trapAddress, .int m_word, .int m_vd, .int m_vs1, .int m_vs2, .int m_f3, .int m_f6, .int m_sew, .int m_l8, .int m_unmasked])), (b_zX, .inl (kI, 32, .inl (upd zX (Int32.toNatClampNeg m_vd) (pX11_sets_301_m_vl m_choices m_vl m_vtype m_word m_vd m_vs1 m_vs2 zX))))]) X 1 0 rfl rfl (hok.2.2.2.2.2.2.2 c24) rfl dX11_sets_320 rfl ?_
    have e68 : (pX11_sets_321_zX m_choices m_vl m_vtype m_word m_vd m_vs1 m_vs2 zX) = (upd zX (Int32.toNatClampNeg m_vd) (pX11_sets_301_m_vl m_choices m_vl m_vtype m_word m_vd m_vs1 m_vs2 zX)) := by rw [pX11_sets_321_zX, if_neg c24]
    rw [e68] at hJ25
    exact k_sub [0, 1, 2, 3, 4, 5, 6] rfl hJ25
  refine k_iconst X dX11_sets_321 kc_i_0 rfl ?_
  have e69 : rX11_sets_79 = (0 : Int32) := by rw [rX11_sets_79]
  have e70 : (rX11_sets_79__m_vl m_choices m_vl m_vtype m_word m_vd m_vs1 m_vs2 zX) = (pX11_sets_301_m_vl m_choices m_vl m_vtype m_word m_vd m_vs1 m_vs2 zX) := by rw [rX11_sets_79__m_vl]
  have e71 : (rX11_sets_79__m_vtype m_vtype m_word m_vd m_vs1 m_vs2 zX) = (pX11_sets_198_m_vtype m_vtype m_word m_vd m_vs1 m_vs2 zX) := by rw [rX11_sets_79__m_vtype]
  have e72 : (rX11_sets_79__zX m_choices m_vl m_vtype m_word m_vd m_vs1 m_vs2 zX) = (pX11_sets_321_zX m_choices m_vl m_vtype m_word m_vd m_vs1 m_vs2 zX) := by rw [rX11_sets_79__zX]
  exact k_iret9 X hRt hLk e69.symm (by rw [e70, e71, e72]) dX11_sets_322
theorem vX11_sets : kVi yX11_sets cX11_sets 10 (some .int) 0 := ⟨q28_4, q1_5, q28_2, q28_3, by decide, by decide +kernel⟩
noncomputable def pX11_step_85_S2 (u1 : Int32) : Int32 := (if ((shr u1 (25 : Int32)) &&& (1 : Int32)) = (1 : Int32) then (1 : Int32) else (0 : Int32))
theorem zpX11_step_85_S2 (u1 : Int32) : narrow .boolean (.int (pX11_step_85_S2 u1)) = .int (pX11_step_85_S2 u1) := by unfold pX11_step_85_S2; exact (kzi rfl rfl)
noncomputable def pX11_step_119_S2 (m_vtype : Int32) : Int32 := (if (fX11_isIll m_vtype) = (0 : Int32) then (fX11_width m_vtype) else (8 : Int32))
noncomputable def pX11_step_142_S2 (m_vtype : Int32) : Int32 := (if (fX11_isIll m_vtype) = (0 : Int32) then (fX11_eighths m_vtype) else (8 : Int32))
noncomputable def tX11_step_147 (w_L2 : Int32) (w_zO : Nat → Int32) : Prop := (if (512 : Int32) ≤ w_L2 then False else True)
noncomputable def bX11_step_147_L2 (w_L2 : Int32) (w_zO : Nat → Int32) : Int32 := (if (512 : Int32) ≤ w_L2 then w_L2 else (w_L2 + (1 : Int32)))
noncomputable def bX11_step_147_zO (zV : Nat → Int32) (w_L2 : Int32) (w_zO : Nat → Int32) : Nat → Int32 := (if (512 : Int32) ≤ w_L2 then w_zO else (upd w_zO (Int32.toNatClampNeg w_L2) (zV (Int32.toNatClampNeg w_L2))))
noncomputable def LX11_step_147 (zV : Nat → Int32) : Nat → Int32 × (Nat → Int32) → Int32 × (Nat → Int32)
  | 0, s => s
  | n + 1, s => LX11_step_147 zV n ((bX11_step_147_L2 s.1 s.2), (bX11_step_147_zO zV s.1 s.2))
noncomputable def oX11_step_147 (w_L2 : Int32) (w_zO : Nat → Int32) : Prop := (¬ ((512 : Int32) ≤ w_L2) → vp_in w_L2 512)
noncomputable def KX11_step_147 (zV : Nat → Int32) : Nat → Int32 × (Nat → Int32) → Prop
  | 0, _ => True
  | n + 1, s => (tX11_step_147 s.1 s.2 ∧ oX11_step_147 s.1 s.2) ∧ KX11_step_147 zV n ((bX11_step_147_L2 s.1 s.2), (bX11_step_147_zO zV s.1 s.2))
theorem itX11_step_147 (zV : Nat → Int32) {b9 : Nat} (h9 : (512 : Int32) = nI b9) (hb9 : b9 < 2147483648) : ∀ (n a : Nat) (w_zO : Nat → Int32), a + n ≤ b9 → LX11_step_147 zV n (nI a, w_zO) = (nI (a + n), itr (fun k s => ((upd s (Int32.toNatClampNeg (nI k)) (zV (Int32.toNatClampNeg (nI k)))))) n a (w_zO))
  | 0, a, w_zO, _ => rfl
  | n + 1, a, w_zO, h => by
    have hc : ¬ ((512 : Int32) ≤ nI a) := by rw [h9]; exact nI_ge (by omega) hb9
    have e0 : bX11_step_147_L2 (nI a) w_zO = nI (a + 1) := by rw [bX11_step_147_L2, if_neg hc, nI_1]
    have e1 : bX11_step_147_zO zV (nI a) w_zO = (upd w_zO (Int32.toNatClampNeg (nI a)) (zV (Int32.toNatClampNeg (nI a)))) := by rw [bX11_step_147_zO, if_neg hc]
    show LX11_step_147 zV n (bX11_step_147_L2 (nI a) w_zO, bX11_step_147_zO zV (nI a) w_zO) = _
    rw [e0, e1, itX11_step_147 zV h9 hb9 n (a + 1) _ (by omega), show a + (n + 1) = a + 1 + n by omega]; rfl
theorem ktX11_step_147 (zV : Nat → Int32) {b9 : Nat} (h9 : (512 : Int32) = nI b9) (hb9 : b9 < 2147483648) (I : Nat → (Nat → Int32) → Prop) (hI : ∀ (a : Nat) (w_zO : Nat → Int32), I a (w_zO) → a < b9 → oX11_step_147 (nI a) w_zO ∧ I (a + 1) ((upd w_zO (Int32.toNatClampNeg (nI a)) (zV (Int32.toNatClampNeg (nI a)))))) : ∀ (n a : Nat) (w_zO : Nat → Int32), a + n ≤ b9 → I a (w_zO) → KX11_step_147 zV n (nI a, w_zO)
  | 0, a, w_zO, _, _ => True.intro
  | n + 1, a, w_zO, h, hi => by
    have hc : ¬ ((512 : Int32) ≤ nI a) := by rw [h9]; exact nI_ge (by omega) hb9
    have e0 : bX11_step_147_L2 (nI a) w_zO = nI (a + 1) := by rw [bX11_step_147_L2, if_neg hc, nI_1]
    have e1 : bX11_step_147_zO zV (nI a) w_zO = (upd w_zO (Int32.toNatClampNeg (nI a)) (zV (Int32.toNatClampNeg (nI a)))) := by rw [bX11_step_147_zO, if_neg hc]
    obtain ⟨h1, h2⟩ := hI a w_zO hi (by omega)
    show (tX11_step_147 (nI a) w_zO ∧ oX11_step_147 (nI a) w_zO) ∧ KX11_step_147 zV n (bX11_step_147_L2 (nI a) w_zO, bX11_step_147_zO zV (nI a) w_zO)
    refine ⟨⟨by rw [tX11_step_147, if_neg hc]; exact True.intro, h1⟩, ?_⟩
    rw [e0, e1]; exact ktX11_step_147 zV h9 hb9 I hI n (a + 1) _ (by omega) h2
theorem ntX11_step_147 (zV : Nat → Int32) {b9 : Nat} (h9 : (512 : Int32) = nI b9) (hb9 : b9 < 2147483648) (w_zO : Nat → Int32) : ¬ tX11_step_147 (nI b9) w_zO := by rw [tX11_step_147, if_pos (by rw [h9]; exact Int32.le_refl _)]; exact id
noncomputable def eX11_step_264 (m_choices : Int64) (m_vl : Int32) (m_vtype : Int32) (m_vstart : Int32) (zX : Nat → Int32) (zV : Nat → Int32) (zO : Nat → Int32) (zM : Nat → Int32) (zS : Nat → Int32) (u1 : Int32) : Int32 := (fX11_moves m_choices m_vl m_vtype m_vstart u1 ((shr u1 (7 : Int32)) &&& (31 : Int32)) ((shr u1 (15 : Int32)) &&& (31 : Int32)) ((shr u1 (20 : Int32)) &&& (31 : Int32)) ((shr u1 (12 : Int32)) &&& (7 : Int32)) (pX11_step_119_S2 m_vtype) (pX11_step_142_S2 m_vtype) (pX11_step_85_S2 u1) zX zV ((LX11_step_147 zV (kN 512) ((0 : Int32), zO)).2) zM zS (1 : Int32))
noncomputable def eX11_step_273 (m_choices : Int64) (m_vl : Int32) (m_vtype : Int32) (m_vstart : Int32) (zX : Nat → Int32) (zV : Nat → Int32) (zO : Nat → Int32) (zM : Nat → Int32) (zS : Nat → Int32) (u1 : Int32) : Int32 := (fX11_moves m_choices m_vl m_vtype m_vstart u1 ((shr u1 (7 : Int32)) &&& (31 : Int32)) ((shr u1 (15 : Int32)) &&& (31 : Int32)) ((shr u1 (20 : Int32)) &&& (31 : Int32)) ((shr u1 (12 : Int32)) &&& (7 : Int32)) (pX11_step_119_S2 m_vtype) (pX11_step_142_S2 m_vtype) (pX11_step_85_S2 u1) zX zV ((LX11_step_147 zV (kN 512) ((0 : Int32), zO)).2) zM zS (0 : Int32))
noncomputable def pX11_step_255_S1 (m_vtype : Int32) (m_vstart : Int32) (u1 : Int32) : Int32 := (if ((shr u1 (12 : Int32)) &&& (7 : Int32)) = (7 : Int32) then (fX11_sets u1) else (if (fX11_isIll m_vtype) = (0 : Int32) then (if (fX11_works m_vstart ((shr u1 (7 : Int32)) &&& (31 : Int32)) ((shr u1 (15 : Int32)) &&& (31 : Int32)) ((shr u1 (20 : Int32)) &&& (31 : Int32)) ((shr u1 (12 : Int32)) &&& (7 : Int32)) (sru u1 (26 : Int32)) (pX11_step_119_S2 m_vtype) (pX11_step_142_S2 m_vtype) (pX11_step_85_S2 u1)) = (0 : Int32) then (1 : Int32) else (0 : Int32)) else (1 : Int32)))
noncomputable def pX11_step_255_m_vl (m_choices : Int64) (m_vl : Int32) (m_vtype : Int32) (zX : Nat → Int32) (u1 : Int32) : Int32 := (if ((shr u1 (12 : Int32)) &&& (7 : Int32)) = (7 : Int32) then (fX11_sets__m_vl m_choices m_vl m_vtype u1 ((shr u1 (7 : Int32)) &&& (31 : Int32)) ((shr u1 (15 : Int32)) &&& (31 : Int32)) ((shr u1 (20 : Int32)) &&& (31 : Int32)) zX) else m_vl)
noncomputable def pX11_step_255_m_vtype (m_vtype : Int32) (zX : Nat → Int32) (u1 : Int32) : Int32 := (if ((shr u1 (12 : Int32)) &&& (7 : Int32)) = (7 : Int32) then (fX11_sets__m_vtype m_vtype u1 ((shr u1 (7 : Int32)) &&& (31 : Int32)) ((shr u1 (15 : Int32)) &&& (31 : Int32)) ((shr u1 (20 : Int32)) &&& (31 : Int32)) zX) else m_vtype)
noncomputable def pX11_step_255_m_vxsat (m_choices : Int64) (m_vl : Int32) (m_vtype : Int32) (m_vstart : Int32) (m_vxrm : Int32) (m_vxsat : Int32) (zX : Nat → Int32) (zV : Nat → Int32) (zO : Nat → Int32) (u1 : Int32) : Int32 := (if ((shr u1 (12 : Int32)) &&& (7 : Int32)) = (7 : Int32) then m_vxsat else (if (fX11_isIll m_vtype) = (0 : Int32) then (fX11_works__m_vxsat m_choices m_vl m_vtype m_vstart m_vxrm m_vxsat ((shr u1 (7 : Int32)) &&& (31 : Int32)) ((shr u1 (15 : Int32)) &&& (31 : Int32)) ((shr u1 (20 : Int32)) &&& (31 : Int32)) ((shr u1 (12 : Int32)) &&& (7 : Int32)) (sru u1 (26 : Int32)) (pX11_step_119_S2 m_vtype) (pX11_step_142_S2 m_vtype) (pX11_step_85_S2 u1) zX zV ((LX11_step_147 zV (kN 512) ((0 : Int32), zO)).2)) else m_vxsat))
noncomputable def pX11_step_255_zX (m_choices : Int64) (m_vl : Int32) (m_vtype : Int32) (m_vstart : Int32) (zX : Nat → Int32) (zV : Nat → Int32) (zO : Nat → Int32) (u1 : Int32) : Nat → Int32 := (if ((shr u1 (12 : Int32)) &&& (7 : Int32)) = (7 : Int32) then (fX11_sets__zX m_choices m_vl m_vtype u1 ((shr u1 (7 : Int32)) &&& (31 : Int32)) ((shr u1 (15 : Int32)) &&& (31 : Int32)) ((shr u1 (20 : Int32)) &&& (31 : Int32)) zX) else (if (fX11_isIll m_vtype) = (0 : Int32) then (fX11_works__zX m_vl m_vstart ((shr u1 (7 : Int32)) &&& (31 : Int32)) ((shr u1 (15 : Int32)) &&& (31 : Int32)) ((shr u1 (20 : Int32)) &&& (31 : Int32)) ((shr u1 (12 : Int32)) &&& (7 : Int32)) (sru u1 (26 : Int32)) (pX11_step_119_S2 m_vtype) (pX11_step_85_S2 u1) zX ((LX11_step_147 zV (kN 512) ((0 : Int32), zO)).2)) else zX))
noncomputable def pX11_step_255_zV (m_choices : Int64) (m_vl : Int32) (m_vtype : Int32) (m_vstart : Int32) (m_vxrm : Int32) (m_vxsat : Int32) (zX : Nat → Int32) (zV : Nat → Int32) (zO : Nat → Int32) (u1 : Int32) : Nat → Int32 := (if ((shr u1 (12 : Int32)) &&& (7 : Int32)) = (7 : Int32) then zV else (if (fX11_isIll m_vtype) = (0 : Int32) then (fX11_works__zV m_choices m_vl m_vtype m_vstart m_vxrm m_vxsat ((shr u1 (7 : Int32)) &&& (31 : Int32)) ((shr u1 (15 : Int32)) &&& (31 : Int32)) ((shr u1 (20 : Int32)) &&& (31 : Int32)) ((shr u1 (12 : Int32)) &&& (7 : Int32)) (sru u1 (26 : Int32)) (pX11_step_119_S2 m_vtype) (pX11_step_142_S2 m_vtype) (pX11_step_85_S2 u1) zX zV ((LX11_step_147 zV (kN 512) ((0 : Int32), zO)).2)) else zV))
noncomputable def pX11_step_255_zO (m_vtype : Int32) (zV : Nat → Int32) (zO : Nat → Int32) (u1 : Int32) : Nat → Int32 := (if ((shr u1 (12 : Int32)) &&& (7 : Int32)) = (7 : Int32) then (LX11_step_147 zV (kN 512) ((0 : Int32), zO)).2 else (if (fX11_isIll m_vtype) = (0 : Int32) then ((LX11_step_147 zV (kN 512) ((0 : Int32), zO)).2) else (LX11_step_147 zV (kN 512) ((0 : Int32), zO)).2))
noncomputable def pX11_step_277_L2 (m_choices : Int64) (m_vl : Int32) (m_vtype : Int32) (m_vstart : Int32) (zX : Nat → Int32) (zV : Nat → Int32) (zO : Nat → Int32) (zM : Nat → Int32) (zS : Nat → Int32) (u1 : Int32) : Int32 := (if (u1 &&& (127 : Int32)) = (7 : Int32) then (eX11_step_264 m_choices m_vl m_vtype m_vstart zX zV zO zM zS u1) else (if (u1 &&& (127 : Int32)) = (39 : Int32) then (eX11_step_273 m_choices m_vl m_vtype m_vstart zX zV zO zM zS u1) else (if (u1 &&& (127 : Int32)) = (87 : Int32) then (pX11_step_255_S1 m_vtype m_vstart u1) else (1 : Int32))))
noncomputable def pX11_step_277_m_vl (m_choices : Int64) (m_vl : Int32) (m_vtype : Int32) (m_vstart : Int32) (zX : Nat → Int32) (zV : Nat → Int32) (zO : Nat → Int32) (zM : Nat → Int32) (zS : Nat → Int32) (u1 : Int32) : Int32 := (if (u1 &&& (127 : Int32)) = (7 : Int32) then (fX11_moves__m_vl m_choices m_vl m_vtype m_vstart u1 ((shr u1 (7 : Int32)) &&& (31 : Int32)) ((shr u1 (15 : Int32)) &&& (31 : Int32)) ((shr u1 (20 : Int32)) &&& (31 : Int32)) ((shr u1 (12 : Int32)) &&& (7 : Int32)) (pX11_step_119_S2 m_vtype) (pX11_step_142_S2 m_vtype) (pX11_step_85_S2 u1) zX zV ((LX11_step_147 zV (kN 512) ((0 : Int32), zO)).2) zM zS (1 : Int32)) else (if (u1 &&& (127 : Int32)) = (39 : Int32) then (fX11_moves__m_vl m_choices m_vl m_vtype m_vstart u1 ((shr u1 (7 : Int32)) &&& (31 : Int32)) ((shr u1 (15 : Int32)) &&& (31 : Int32)) ((shr u1 (20 : Int32)) &&& (31 : Int32)) ((shr u1 (12 : Int32)) &&& (7 : Int32)) (pX11_step_119_S2 m_vtype) (pX11_step_142_S2 m_vtype) (pX11_step_85_S2 u1) zX zV ((LX11_step_147 zV (kN 512) ((0 : Int32), zO)).2) zM zS (0 : Int32)) else (if (u1 &&& (127 : Int32)) = (87 : Int32) then (pX11_step_255_m_vl m_choices m_vl m_vtype zX u1) else m_vl)))
noncomputable def pX11_step_277_m_vtype (m_vtype : Int32) (zX : Nat → Int32) (u1 : Int32) : Int32 := (if (u1 &&& (127 : Int32)) = (7 : Int32) then m_vtype else (if (u1 &&& (127 : Int32)) = (39 : Int32) then m_vtype else (if (u1 &&& (127 : Int32)) = (87 : Int32) then (pX11_step_255_m_vtype m_vtype zX u1) else m_vtype)))
noncomputable def pX11_step_277_m_vstart (m_choices : Int64) (m_vl : Int32) (m_vtype : Int32) (m_vstart : Int32) (zX : Nat → Int32) (zV : Nat → Int32) (zO : Nat → Int32) (zM : Nat → Int32) (zS : Nat → Int32) (u1 : Int32) : Int32 := (if (u1 &&& (127 : Int32)) = (7 : Int32) then (fX11_moves__m_vstart m_choices m_vl m_vtype m_vstart u1 ((shr u1 (7 : Int32)) &&& (31 : Int32)) ((shr u1 (15 : Int32)) &&& (31 : Int32)) ((shr u1 (20 : Int32)) &&& (31 : Int32)) ((shr u1 (12 : Int32)) &&& (7 : Int32)) (pX11_step_119_S2 m_vtype) (pX11_step_142_S2 m_vtype) (pX11_step_85_S2 u1) zX zV ((LX11_step_147 zV (kN 512) ((0 : Int32), zO)).2) zM zS (1 : Int32)) else (if (u1 &&& (127 : Int32)) = (39 : Int32) then (fX11_moves__m_vstart m_choices m_vl m_vtype m_vstart u1 ((shr u1 (7 : Int32)) &&& (31 : Int32)) ((shr u1 (15 : Int32)) &&& (31 : Int32)) ((shr u1 (20 : Int32)) &&& (31 : Int32)) ((shr u1 (12 : Int32)) &&& (7 : Int32)) (pX11_step_119_S2 m_vtype) (pX11_step_142_S2 m_vtype) (pX11_step_85_S2 u1) zX zV ((LX11_step_147 zV (kN 512) ((0 : Int32), zO)).2) zM zS (0 : Int32)) else m_vstart))
noncomputable def pX11_step_277_m_vxsat (m_choices : Int64) (m_vl : Int32) (m_vtype : Int32) (m_vstart : Int32) (m_vxrm : Int32) (m_vxsat : Int32) (zX : Nat → Int32) (zV : Nat → Int32) (zO : Nat → Int32) (u1 : Int32) : Int32 := (if (u1 &&& (127 : Int32)) = (7 : Int32) then m_vxsat else (if (u1 &&& (127 : Int32)) = (39 : Int32) then m_vxsat else (if (u1 &&& (127 : Int32)) = (87 : Int32) then (pX11_step_255_m_vxsat m_choices m_vl m_vtype m_vstart m_vxrm m_vxsat zX zV zO u1) else m_vxsat)))
noncomputable def pX11_step_277_m_trapAddress (m_choices : Int64) (m_vl : Int32) (m_vtype : Int32) (m_vstart : Int32) (m_trapAddress : Int32) (zX : Nat → Int32) (zV : Nat → Int32) (zO : Nat → Int32) (zM : Nat → Int32) (zS : Nat → Int32) (u1 : Int32) : Int32 := (if (u1 &&& (127 : Int32)) = (7 : Int32) then (fX11_moves__m_trapAddress m_choices m_vl m_vtype m_vstart m_trapAddress u1 ((shr u1 (7 : Int32)) &&& (31 : Int32)) ((shr u1 (15 : Int32)) &&& (31 : Int32)) ((shr u1 (20 : Int32)) &&& (31 : Int32)) ((shr u1 (12 : Int32)) &&& (7 : Int32)) (pX11_step_119_S2 m_vtype) (pX11_step_142_S2 m_vtype) (pX11_step_85_S2 u1) zX zV ((LX11_step_147 zV (kN 512) ((0 : Int32), zO)).2) zM zS (1 : Int32)) else (if (u1 &&& (127 : Int32)) = (39 : Int32) then (fX11_moves__m_trapAddress m_choices m_vl m_vtype m_vstart m_trapAddress u1 ((shr u1 (7 : Int32)) &&& (31 : Int32)) ((shr u1 (15 : Int32)) &&& (31 : Int32)) ((shr u1 (20 : Int32)) &&& (31 : Int32)) ((shr u1 (12 : Int32)) &&& (7 : Int32)) (pX11_step_119_S2 m_vtype) (pX11_step_142_S2 m_vtype) (pX11_step_85_S2 u1) zX zV ((LX11_step_147 zV (kN 512) ((0 : Int32), zO)).2) zM zS (0 : Int32)) else m_trapAddress))
noncomputable def pX11_step_277_zX (m_choices : Int64) (m_vl : Int32) (m_vtype : Int32) (m_vstart : Int32) (zX : Nat → Int32) (zV : Nat → Int32) (zO : Nat → Int32) (u1 : Int32) : Nat → Int32 := (if (u1 &&& (127 : Int32)) = (7 : Int32) then zX else (if (u1 &&& (127 : Int32)) = (39 : Int32) then zX else (if (u1 &&& (127 : Int32)) = (87 : Int32) then (pX11_step_255_zX m_choices m_vl m_vtype m_vstart zX zV zO u1) else zX)))
noncomputable def pX11_step_277_zV (m_choices : Int64) (m_vl : Int32) (m_vtype : Int32) (m_vstart : Int32) (m_vxrm : Int32) (m_vxsat : Int32) (zX : Nat → Int32) (zV : Nat → Int32) (zO : Nat → Int32) (zM : Nat → Int32) (zS : Nat → Int32) (u1 : Int32) : Nat → Int32 := (if (u1 &&& (127 : Int32)) = (7 : Int32) then (fX11_moves__zV m_choices m_vl m_vtype m_vstart u1 ((shr u1 (7 : Int32)) &&& (31 : Int32)) ((shr u1 (15 : Int32)) &&& (31 : Int32)) ((shr u1 (20 : Int32)) &&& (31 : Int32)) ((shr u1 (12 : Int32)) &&& (7 : Int32)) (pX11_step_119_S2 m_vtype) (pX11_step_142_S2 m_vtype) (pX11_step_85_S2 u1) zX zV ((LX11_step_147 zV (kN 512) ((0 : Int32), zO)).2) zM zS (1 : Int32)) else (if (u1 &&& (127 : Int32)) = (39 : Int32) then (fX11_moves__zV m_choices m_vl m_vtype m_vstart u1 ((shr u1 (7 : Int32)) &&& (31 : Int32)) ((shr u1 (15 : Int32)) &&& (31 : Int32)) ((shr u1 (20 : Int32)) &&& (31 : Int32)) ((shr u1 (12 : Int32)) &&& (7 : Int32)) (pX11_step_119_S2 m_vtype) (pX11_step_142_S2 m_vtype) (pX11_step_85_S2 u1) zX zV ((LX11_step_147 zV (kN 512) ((0 : Int32), zO)).2) zM zS (0 : Int32)) else (if (u1 &&& (127 : Int32)) = (87 : Int32) then (pX11_step_255_zV m_choices m_vl m_vtype m_vstart m_vxrm m_vxsat zX zV zO u1) else zV)))
noncomputable def pX11_step_277_zO (m_vtype : Int32) (zV : Nat → Int32) (zO : Nat → Int32) (u1 : Int32) : Nat → Int32 := (if (u1 &&& (127 : Int32)) = (7 : Int32) then ((LX11_step_147 zV (kN 512) ((0 : Int32), zO)).2) else (if (u1 &&& (127 : Int32)) = (39 : Int32) then ((LX11_step_147 zV (kN 512) ((0 : Int32), zO)).2) else (if (u1 &&& (127 : Int32)) = (87 : Int32) then (pX11_step_255_zO m_vtype zV zO u1) else (LX11_step_147 zV (kN 512) ((0 : Int32), zO)).2)))
noncomputable def pX11_step_277_zM (m_choices : Int64) (m_vl : Int32) (m_vtype : Int32) (m_vstart : Int32) (zX : Nat → Int32) (zV : Nat → Int32) (zO : Nat → Int32) (zM : Nat → Int32) (zS : Nat → Int32) (u1 : Int32) : Nat → Int32 := (if (u1 &&& (127 : Int32)) = (7 : Int32) then (fX11_moves__zM m_choices m_vl m_vtype m_vstart u1 ((shr u1 (7 : Int32)) &&& (31 : Int32)) ((shr u1 (15 : Int32)) &&& (31 : Int32)) ((shr u1 (20 : Int32)) &&& (31 : Int32)) ((shr u1 (12 : Int32)) &&& (7 : Int32)) (pX11_step_119_S2 m_vtype) (pX11_step_142_S2 m_vtype) (pX11_step_85_S2 u1) zX zV ((LX11_step_147 zV (kN 512) ((0 : Int32), zO)).2) zM zS (1 : Int32)) else (if (u1 &&& (127 : Int32)) = (39 : Int32) then (fX11_moves__zM m_choices m_vl m_vtype m_vstart u1 ((shr u1 (7 : Int32)) &&& (31 : Int32)) ((shr u1 (15 : Int32)) &&& (31 : Int32)) ((shr u1 (20 : Int32)) &&& (31 : Int32)) ((shr u1 (12 : Int32)) &&& (7 : Int32)) (pX11_step_119_S2 m_vtype) (pX11_step_142_S2 m_vtype) (pX11_step_85_S2 u1) zX zV ((LX11_step_147 zV (kN 512) ((0 : Int32), zO)).2) zM zS (0 : Int32)) else zM))
noncomputable def pX11_step_291_m_done (m_choices : Int64) (m_vl : Int32) (m_vtype : Int32) (m_vstart : Int32) (m_done : Int32) (zX : Nat → Int32) (zV : Nat → Int32) (zO : Nat → Int32) (zM : Nat → Int32) (zS : Nat → Int32) (u1 : Int32) : Int32 := (if (pX11_step_277_L2 m_choices m_vl m_vtype m_vstart zX zV zO zM zS u1) = (0 : Int32) then (m_done + (1 : Int32)) else m_done)
noncomputable def pX11_step_306_m_illegal (m_choices : Int64) (m_vl : Int32) (m_vtype : Int32) (m_vstart : Int32) (m_illegal : Int32) (zX : Nat → Int32) (zV : Nat → Int32) (zO : Nat → Int32) (zM : Nat → Int32) (zS : Nat → Int32) (u1 : Int32) : Int32 := (if (pX11_step_277_L2 m_choices m_vl m_vtype m_vstart zX zV zO zM zS u1) = (1 : Int32) then (m_illegal + (1 : Int32)) else m_illegal)
noncomputable def pX11_step_321_m_traps (m_choices : Int64) (m_vl : Int32) (m_vtype : Int32) (m_vstart : Int32) (m_traps : Int32) (zX : Nat → Int32) (zV : Nat → Int32) (zO : Nat → Int32) (zM : Nat → Int32) (zS : Nat → Int32) (u1 : Int32) : Int32 := (if (pX11_step_277_L2 m_choices m_vl m_vtype m_vstart zX zV zO zM zS u1) = (2 : Int32) then (m_traps + (1 : Int32)) else m_traps)
noncomputable def pX11_step_330_m_vstart (m_choices : Int64) (m_vl : Int32) (m_vtype : Int32) (m_vstart : Int32) (zX : Nat → Int32) (zV : Nat → Int32) (zO : Nat → Int32) (zM : Nat → Int32) (zS : Nat → Int32) (u1 : Int32) : Int32 := (if (pX11_step_277_L2 m_choices m_vl m_vtype m_vstart zX zV zO zM zS u1) = (0 : Int32) then (0 : Int32) else (pX11_step_277_m_vstart m_choices m_vl m_vtype m_vstart zX zV zO zM zS u1))
noncomputable def fX11_step (m_choices : Int64) (m_vl : Int32) (m_vtype : Int32) (m_vstart : Int32) (zX : Nat → Int32) (zV : Nat → Int32) (zO : Nat → Int32) (zM : Nat → Int32) (zS : Nat → Int32) (u1 : Int32) : Int32 := (pX11_step_277_L2 m_choices m_vl m_vtype m_vstart zX zV zO zM zS u1)
noncomputable def fX11_step__m_thrown : Int32 := (0 : Int32)
noncomputable def fX11_step__m_vl (m_choices : Int64) (m_vl : Int32) (m_vtype : Int32) (m_vstart : Int32) (zX : Nat → Int32) (zV : Nat → Int32) (zO : Nat → Int32) (zM : Nat → Int32) (zS : Nat → Int32) (u1 : Int32) : Int32 := (pX11_step_277_m_vl m_choices m_vl m_vtype m_vstart zX zV zO zM zS u1)
noncomputable def fX11_step__m_vtype (m_vtype : Int32) (zX : Nat → Int32) (u1 : Int32) : Int32 := (pX11_step_277_m_vtype m_vtype zX u1)
noncomputable def fX11_step__m_vstart (m_choices : Int64) (m_vl : Int32) (m_vtype : Int32) (m_vstart : Int32) (zX : Nat → Int32) (zV : Nat → Int32) (zO : Nat → Int32) (zM : Nat → Int32) (zS : Nat → Int32) (u1 : Int32) : Int32 := (pX11_step_330_m_vstart m_choices m_vl m_vtype m_vstart zX zV zO zM zS u1)
noncomputable def fX11_step__m_vxsat (m_choices : Int64) (m_vl : Int32) (m_vtype : Int32) (m_vstart : Int32) (m_vxrm : Int32) (m_vxsat : Int32) (zX : Nat → Int32) (zV : Nat → Int32) (zO : Nat → Int32) (u1 : Int32) : Int32 := (pX11_step_277_m_vxsat m_choices m_vl m_vtype m_vstart m_vxrm m_vxsat zX zV zO u1)
noncomputable def fX11_step__m_done (m_choices : Int64) (m_vl : Int32) (m_vtype : Int32) (m_vstart : Int32) (m_done : Int32) (zX : Nat → Int32) (zV : Nat → Int32) (zO : Nat → Int32) (zM : Nat → Int32) (zS : Nat → Int32) (u1 : Int32) : Int32 := (pX11_step_291_m_done m_choices m_vl m_vtype m_vstart m_done zX zV zO zM zS u1)
noncomputable def fX11_step__m_illegal (m_choices : Int64) (m_vl : Int32) (m_vtype : Int32) (m_vstart : Int32) (m_illegal : Int32) (zX : Nat → Int32) (zV : Nat → Int32) (zO : Nat → Int32) (zM : Nat → Int32) (zS : Nat → Int32) (u1 : Int32) : Int32 := (pX11_step_306_m_illegal m_choices m_vl m_vtype m_vstart m_illegal zX zV zO zM zS u1)
noncomputable def fX11_step__m_traps (m_choices : Int64) (m_vl : Int32) (m_vtype : Int32) (m_vstart : Int32) (m_traps : Int32) (zX : Nat → Int32) (zV : Nat → Int32) (zO : Nat → Int32) (zM : Nat → Int32) (zS : Nat → Int32) (u1 : Int32) : Int32 := (pX11_step_321_m_traps m_choices m_vl m_vtype m_vstart m_traps zX zV zO zM zS u1)
noncomputable def fX11_step__m_trapAddress (m_choices : Int64) (m_vl : Int32) (m_vtype : Int32) (m_vstart : Int32) (m_trapAddress : Int32) (zX : Nat → Int32) (zV : Nat → Int32) (zO : Nat → Int32) (zM : Nat → Int32) (zS : Nat → Int32) (u1 : Int32) : Int32 := (pX11_step_277_m_trapAddress m_choices m_vl m_vtype m_vstart m_trapAddress zX zV zO zM zS u1)
noncomputable def fX11_step__m_word (u1 : Int32) : Int32 := u1
noncomputable def fX11_step__m_vd (u1 : Int32) : Int32 := ((shr u1 (7 : Int32)) &&& (31 : Int32))
noncomputable def fX11_step__m_vs1 (u1 : Int32) : Int32 := ((shr u1 (15 : Int32)) &&& (31 : Int32))
noncomputable def fX11_step__m_vs2 (u1 : Int32) : Int32 := ((shr u1 (20 : Int32)) &&& (31 : Int32))
noncomputable def fX11_step__m_f3 (u1 : Int32) : Int32 := ((shr u1 (12 : Int32)) &&& (7 : Int32))
noncomputable def fX11_step__m_f6 (u1 : Int32) : Int32 := (sru u1 (26 : Int32))
noncomputable def fX11_step__m_sew (m_vtype : Int32) : Int32 := (pX11_step_119_S2 m_vtype)
noncomputable def fX11_step__m_l8 (m_vtype : Int32) : Int32 := (pX11_step_142_S2 m_vtype)
noncomputable def fX11_step__m_unmasked (u1 : Int32) : Int32 := (pX11_step_85_S2 u1)
noncomputable def fX11_step__zX (m_choices : Int64) (m_vl : Int32) (m_vtype : Int32) (m_vstart : Int32) (zX : Nat → Int32) (zV : Nat → Int32) (zO : Nat → Int32) (u1 : Int32) : Nat → Int32 := (pX11_step_277_zX m_choices m_vl m_vtype m_vstart zX zV zO u1)
noncomputable def fX11_step__zV (m_choices : Int64) (m_vl : Int32) (m_vtype : Int32) (m_vstart : Int32) (m_vxrm : Int32) (m_vxsat : Int32) (zX : Nat → Int32) (zV : Nat → Int32) (zO : Nat → Int32) (zM : Nat → Int32) (zS : Nat → Int32) (u1 : Int32) : Nat → Int32 := (pX11_step_277_zV m_choices m_vl m_vtype m_vstart m_vxrm m_vxsat zX zV zO zM zS u1)
noncomputable def fX11_step__zO (m_vtype : Int32) (zV : Nat → Int32) (zO : Nat → Int32) (u1 : Int32) : Nat → Int32 := (pX11_step_277_zO m_vtype zV zO u1)
noncomputable def fX11_step__zM (m_choices : Int64) (m_vl : Int32) (m_vtype : Int32) (m_vstart : Int32) (zX : Nat → Int32) (zV : Nat → Int32) (zO : Nat → Int32) (zM : Nat → Int32) (zS : Nat → Int32) (u1 : Int32) : Nat → Int32 := (pX11_step_277_zM m_choices m_vl m_vtype m_vstart zX zV zO zM zS u1)
noncomputable def okX11_step (m_choices : Int64) (m_vl : Int32) (m_vtype : Int32) (m_vstart : Int32) (m_vxrm : Int32) (m_vxsat : Int32) (zX : Nat → Int32) (zV : Nat → Int32) (zO : Nat → Int32) (zM : Nat → Int32) (zS : Nat → Int32) (u1 : Int32) : Prop := (KX11_step_147 zV (kN 512) ((0 : Int32), zO)) ∧ (¬ (tX11_step_147 ((LX11_step_147 zV (kN 512) ((0 : Int32), zO)).1) ((LX11_step_147 zV (kN 512) ((0 : Int32), zO)).2))) ∧ (((512 : Int32) ≤ (LX11_step_147 zV (kN 512) ((0 : Int32), zO)).1) → ((u1 &&& (127 : Int32)) = (7 : Int32)) → okX11_moves m_choices m_vl m_vtype m_vstart u1 ((shr u1 (7 : Int32)) &&& (31 : Int32)) ((shr u1 (15 : Int32)) &&& (31 : Int32)) ((shr u1 (20 : Int32)) &&& (31 : Int32)) ((shr u1 (12 : Int32)) &&& (7 : Int32)) (pX11_step_119_S2 m_vtype) (pX11_step_142_S2 m_vtype) (pX11_step_85_S2 u1) zX zV ((LX11_step_147 zV (kN 512) ((0 : Int32), zO)).2) zM zS (1 : Int32)) ∧ (((512 : Int32) ≤ (LX11_step_147 zV (kN 512) ((0 : Int32), zO)).1) → ¬ ((u1 &&& (127 : Int32)) = (7 : Int32)) → ((u1 &&& (127 : Int32)) = (39 : Int32)) → okX11_moves m_choices m_vl m_vtype m_vstart u1 ((shr u1 (7 : Int32)) &&& (31 : Int32)) ((shr u1 (15 : Int32)) &&& (31 : Int32)) ((shr u1 (20 : Int32)) &&& (31 : Int32)) ((shr u1 (12 : Int32)) &&& (7 : Int32)) (pX11_step_119_S2 m_vtype) (pX11_step_142_S2 m_vtype) (pX11_step_85_S2 u1) zX zV ((LX11_step_147 zV (kN 512) ((0 : Int32), zO)).2) zM zS (0 : Int32)) ∧ (((512 : Int32) ≤ (LX11_step_147 zV (kN 512) ((0 : Int32), zO)).1) → ¬ ((u1 &&& (127 : Int32)) = (7 : Int32)) → ¬ ((u1 &&& (127 : Int32)) = (39 : Int32)) → ((u1 &&& (127 : Int32)) = (87 : Int32)) → (((shr u1 (12 : Int32)) &&& (7 : Int32)) = (7 : Int32)) → okX11_sets m_vtype u1 ((shr u1 (7 : Int32)) &&& (31 : Int32)) ((shr u1 (15 : Int32)) &&& (31 : Int32)) ((shr u1 (20 : Int32)) &&& (31 : Int32)) zX) ∧ (((512 : Int32) ≤ (LX11_step_147 zV (kN 512) ((0 : Int32), zO)).1) → ¬ ((u1 &&& (127 : Int32)) = (7 : Int32)) → ¬ ((u1 &&& (127 : Int32)) = (39 : Int32)) → ((u1 &&& (127 : Int32)) = (87 : Int32)) → ¬ (((shr u1 (12 : Int32)) &&& (7 : Int32)) = (7 : Int32)) → ((fX11_isIll m_vtype) = (0 : Int32)) → okX11_works m_choices m_vl m_vtype m_vstart m_vxrm m_vxsat ((shr u1 (7 : Int32)) &&& (31 : Int32)) ((shr u1 (15 : Int32)) &&& (31 : Int32)) ((shr u1 (20 : Int32)) &&& (31 : Int32)) ((shr u1 (12 : Int32)) &&& (7 : Int32)) (sru u1 (26 : Int32)) (pX11_step_119_S2 m_vtype) (pX11_step_142_S2 m_vtype) (pX11_step_85_S2 u1) zX zV ((LX11_step_147 zV (kN 512) ((0 : Int32), zO)).2)) ∧ (¬ ((512 : Int32) ≤ (LX11_step_147 zV (kN 512) ((0 : Int32), zO)).1) → vp_in ((LX11_step_147 zV (kN 512) ((0 : Int32), zO)).1) 512)
set_option maxRecDepth 100000 in
set_option maxHeartbeats 4000000 in
theorem kX11_step (l : Launch) (D : va_G) (kI kZ : ClassId) (b_m : Nat) (b_zX : Nat) (b_zV : Nat) (b_zO : Nat) (b_zM : Nat) (b_zS : Nat) (m_thrown : Int32) (m_choices : Int64) (m_vl : Int32) (m_vtype : Int32) (m_vstart : Int32) (m_vxrm : Int32) (m_vxsat : Int32) (m_done : Int32) (m_illegal : Int32) (m_traps : Int32) (m_trapAddress : Int32) (m_word : Int32) (m_vd : Int32) (m_vs1 : Int32) (m_vs2 : Int32) (m_f3 : Int32) (m_f6 : Int32) (m_sew : Int32) (m_l8 : Int32) (m_unmasked : Int32) (zX : Nat → Int32) (zV : Nat → Int32) (zO : Nat → Int32) (zM : Nat → Int32) (zS : Nat → Int32) (u1 : Int32) (hok : okX11_step m_choices m_vl m_vtype m_vstart m_vxrm m_vxsat zX zV zO zM zS u1) : kM l yX11_step cX11_step 3 (some .int) 7 117 0 0 D [(kI, .int), (kZ, .boolean)] [.ref b_m, .int u1] [(b_m, .inr (10, [.int m_thrown, .ref b_zX, .ref b_zV, .ref b_zO, .ref b_zM, .ref b_zS, .long m_choices, .int m_vl, .int m_vtype, .int m_vstart, .int m_vxrm, .int m_vxsat, .int m_done, .int m_illegal, .int m_traps, .int m_trapAddress, .int m_word, .int m_vd, .int m_vs1, .int m_vs2, .int m_f3, .int m_f6, .int m_sew, .int m_l8, .int m_unmasked])), (b_zX, .inl (kI, 32, .inl zX)), (b_zV, .inl (kI, 512, .inl zV)), (b_zO, .inl (kI, 512, .inl zO)), (b_zM, .inl (kI, 1024, .inl zM)), (b_zS, .inl (kZ, 16, .inl zS))] (some (.int (fX11_step m_choices m_vl m_vtype m_vstart zX zV zO zM zS u1))) [(b_m, .inr (10, [.int fX11_step__m_thrown, .ref b_zX, .ref b_zV, .ref b_zO, .ref b_zM, .ref b_zS, .long m_choices, .int (fX11_step__m_vl m_choices m_vl m_vtype m_vstart zX zV zO zM zS u1), .int (fX11_step__m_vtype m_vtype zX u1), .int (fX11_step__m_vstart m_choices m_vl m_vtype m_vstart zX zV zO zM zS u1), .int m_vxrm, .int (fX11_step__m_vxsat m_choices m_vl m_vtype m_vstart m_vxrm m_vxsat zX zV zO u1), .int (fX11_step__m_done m_choices m_vl m_vtype m_vstart m_done zX zV zO zM zS u1), .int (fX11_step__m_illegal m_choices m_vl m_vtype m_vstart m_illegal zX zV zO zM zS u1), .int (fX11_step__m_traps m_choices m_vl m_vtype m_vstart m_traps zX zV zO zM zS u1), .int (fX11_step__m_trapAddress m_choices m_vl m_vtype m_vstart m_trapAddress zX zV zO zM zS u1), .int (fX11_step__m_word u1), .int (fX11_step__m_vd u1), .int (fX11_step__m_vs1 u1), .int (fX11_step__m_vs2 u1), .int (fX11_step__m_f3 u1), .int (fX11_step__m_f6 u1), .int (fX11_step__m_sew m_vtype), .int (fX11_step__m_l8 m_vtype), .int (fX11_step__m_unmasked u1)])), (b_zX, .inl (kI, 32, .inl (fX11_step__zX m_choices m_vl m_vtype m_vstart zX zV zO u1))), (b_zV, .inl (kI, 512, .inl (fX11_step__zV m_choices m_vl m_vtype m_vstart m_vxrm m_vxsat zX zV zO zM zS u1))), (b_zO, .inl (kI, 512, .inl (fX11_step__zO m_vtype zV zO u1))), (b_zM, .inl (kI, 1024, .inl (fX11_step__zM m_choices m_vl m_vtype m_vstart zX zV zO zM zS u1))), (b_zS, .inl (kZ, 16, .inl zS))] := by
  refine kM.of (by decide) rfl ?_
  intro p e R s m args below meth c A X _ _ hRt hLk
  refine k_sub [0, 1] (lv' := [(0, .ref b_m), (1, .int u1)]) rfl ?_
  unfold okX11_step at hok
  refine k_aload_n X dX11_step_0 rfl 0 rfl rfl ?_
  refine k_iconst X dX11_step_1 kc_i_0 rfl ?_
  refine k_put (ws' := [(b_m, .inr (10, [.int (0 : Int32), .ref b_zX, .ref b_zV, .ref b_zO, .ref b_zM, .ref b_zS, .long m_choices, .int m_vl, .int m_vtype, .int m_vstart, .int m_vxrm, .int m_vxsat, .int m_done, .int m_illegal, .int m_traps, .int m_trapAddress, .int m_word, .int m_vd, .int m_vs1, .int m_vs2, .int m_f3, .int m_f6, .int m_sew, .int m_l8, .int m_unmasked])), (b_zX, .inl (kI, 32, .inl zX)), (b_zV, .inl (kI, 512, .inl zV)), (b_zO, .inl (kI, 512, .inl zO)), (b_zM, .inl (kI, 1024, .inl zM)), (b_zS, .inl (kZ, 16, .inl zS))]) X i_wsX110 tyX11 tyX11_ok nmX11 0 0 q27_1 rfl rfl rfl rfl rfl rfl rfl rfl rfl dX11_step_2 rfl ?_
  refine k_aload_n X dX11_step_5 rfl 0 rfl rfl ?_
  refine k_iload_n X dX11_step_6 rfl 1 rfl rfl ?_
  refine k_put (ws' := [(b_m, .inr (10, [.int (0 : Int32), .ref b_zX, .ref b_zV, .ref b_zO, .ref b_zM, .ref b_zS, .long m_choices, .int m_vl, .int m_vtype, .int m_vstart, .int m_vxrm, .int m_vxsat, .int m_done, .int m_illegal, .int m_traps, .int m_trapAddress, .int u1, .int m_vd, .int m_vs1, .int m_vs2, .int m_f3, .int m_f6, .int m_sew, .int m_l8, .int m_unmasked])), (b_zX, .inl (kI, 32, .inl zX)), (b_zV, .inl (kI, 512, .inl zV)), (b_zO, .inl (kI, 512, .inl zO)), (b_zM, .inl (kI, 1024, .inl zM)), (b_zS, .inl (kZ, 16, .inl zS))]) X i_wsX110 tyX11 tyX11_ok nmX11 0 16 q27_2 rfl rfl rfl rfl rfl rfl rfl rfl rfl dX11_step_7 rfl ?_
  refine k_aload_n X dX11_step_10 rfl 0 rfl rfl ?_
  refine k_aload_n X dX11_step_11 rfl 0 rfl rfl ?_
  refine k_get X i_wsX110 0 16 q27_2 rfl rfl rfl rfl rfl dX11_step_12 rfl ?_
  refine k_bipush X dX11_step_15 kc_b_7 rfl ?_
  refine k_ishr X dX11_step_17 rfl ?_
  refine k_bipush X dX11_step_18 kc_b_31 rfl ?_
  refine k_iand X dX11_step_20 rfl ?_
  refine k_put (ws' := [(b_m, .inr (10, [.int (0 : Int32), .ref b_zX, .ref b_zV, .ref b_zO, .ref b_zM, .ref b_zS, .long m_choices, .int m_vl, .int m_vtype, .int m_vstart, .int m_vxrm, .int m_vxsat, .int m_done, .int m_illegal, .int m_traps, .int m_trapAddress, .int u1, .int ((shr u1 (7 : Int32)) &&& (31 : Int32)), .int m_vs1, .int m_vs2, .int m_f3, .int m_f6, .int m_sew, .int m_l8, .int m_unmasked])), (b_zX, .inl (kI, 32, .inl zX)), (b_zV, .inl (kI, 512, .inl zV)), (b_zO, .inl (kI, 512, .inl zO)), (b_zM, .inl (kI, 1024, .inl zM)), (b_zS, .inl (kZ, 16, .inl zS))]) X i_wsX110 tyX11 tyX11_ok nmX11 0 17 q27_3 rfl rfl rfl rfl rfl rfl rfl rfl rfl dX11_step_21 rfl ?_
  refine k_aload_n X dX11_step_24 rfl 0 rfl rfl ?_
  refine k_aload_n X dX11_step_25 rfl 0 rfl rfl ?_
  refine k_get X i_wsX110 0 16 q27_2 rfl rfl rfl rfl rfl dX11_step_26 rfl ?_
  refine k_bipush X dX11_step_29 kc_b_12 rfl ?_
  refine k_ishr X dX11_step_31 rfl ?_
  refine k_bipush X dX11_step_32 kc_b_7 rfl ?_
  refine k_iand X dX11_step_34 rfl ?_
  refine k_put (ws' := [(b_m, .inr (10, [.int (0 : Int32), .ref b_zX, .ref b_zV, .ref b_zO, .ref b_zM, .ref b_zS, .long m_choices, .int m_vl, .int m_vtype, .int m_vstart, .int m_vxrm, .int m_vxsat, .int m_done, .int m_illegal, .int m_traps, .int m_trapAddress, .int u1, .int ((shr u1 (7 : Int32)) &&& (31 : Int32)), .int m_vs1, .int m_vs2, .int ((shr u1 (12 : Int32)) &&& (7 : Int32)), .int m_f6, .int m_sew, .int m_l8, .int m_unmasked])), (b_zX, .inl (kI, 32, .inl zX)), (b_zV, .inl (kI, 512, .inl zV)), (b_zO, .inl (kI, 512, .inl zO)), (b_zM, .inl (kI, 1024, .inl zM)), (b_zS, .inl (kZ, 16, .inl zS))]) X i_wsX110 tyX11 tyX11_ok nmX11 0 20 q27_4 rfl rfl rfl rfl rfl rfl rfl rfl rfl dX11_step_35 rfl ?_
  refine k_aload_n X dX11_step_38 rfl 0 rfl rfl ?_
  refine k_aload_n X dX11_step_39 rfl 0 rfl rfl ?_
  refine k_get X i_wsX110 0 16 q27_2 rfl rfl rfl rfl rfl dX11_step_40 rfl ?_
  refine k_bipush X dX11_step_43 kc_b_15 rfl ?_
  refine k_ishr X dX11_step_45 rfl ?_
  refine k_bipush X dX11_step_46 kc_b_31 rfl ?_
  refine k_iand X dX11_step_48 rfl ?_
  refine k_put (ws' := [(b_m, .inr (10, [.int (0 : Int32), .ref b_zX, .ref b_zV, .ref b_zO, .ref b_zM, .ref b_zS, .long m_choices, .int m_vl, .int m_vtype, .int m_vstart, .int m_vxrm, .int m_vxsat, .int m_done, .int m_illegal, .int m_traps, .int m_trapAddress, .int u1, .int ((shr u1 (7 : Int32)) &&& (31 : Int32)), .int ((shr u1 (15 : Int32)) &&& (31 : Int32)), .int m_vs2, .int ((shr u1 (12 : Int32)) &&& (7 : Int32)), .int m_f6, .int m_sew, .int m_l8, .int m_unmasked])), (b_zX, .inl (kI, 32, .inl zX)), (b_zV, .inl (kI, 512, .inl zV)), (b_zO, .inl (kI, 512, .inl zO)), (b_zM, .inl (kI, 1024, .inl zM)), (b_zS, .inl (kZ, 16, .inl zS))]) X i_wsX110 tyX11 tyX11_ok nmX11 0 18 q27_5 rfl rfl rfl rfl rfl rfl rfl rfl rfl dX11_step_49 rfl ?_
  refine k_aload_n X dX11_step_52 rfl 0 rfl rfl ?_
  refine k_aload_n X dX11_step_53 rfl 0 rfl rfl ?_
  refine k_get X i_wsX110 0 16 q27_2 rfl rfl rfl rfl rfl dX11_step_54 rfl ?_
  refine k_bipush X dX11_step_57 kc_b_20 rfl ?_
  refine k_ishr X dX11_step_59 rfl ?_
  refine k_bipush X dX11_step_60 kc_b_31 rfl ?_
  refine k_iand X dX11_step_62 rfl ?_
  refine k_put (ws' := [(b_m, .inr (10, [.int (0 : Int32), .ref b_zX, .ref b_zV, .ref b_zO, .ref b_zM, .ref b_zS, .long m_choices, .int m_vl, .int m_vtype, .int m_vstart, .int m_vxrm, .int m_vxsat, .int m_done, .int m_illegal, .int m_traps, .int m_trapAddress, .int u1, .int ((shr u1 (7 : Int32)) &&& (31 : Int32)), .int ((shr u1 (15 : Int32)) &&& (31 : Int32)), .int ((shr u1 (20 : Int32)) &&& (31 : Int32)), .int ((shr u1 (12 : Int32)) &&& (7 : Int32)), .int m_f6, .int m_sew, .int m_l8, .int m_unmasked])), (b_zX, .inl (kI, 32, .inl zX)), (b_zV, .inl (kI, 512, .inl zV)), (b_zO, .inl (kI, 512, .inl zO)), (b_zM, .inl (kI, 1024, .inl zM)), (b_zS, .inl (kZ, 16, .inl zS))]) X i_wsX110 tyX11 tyX11_ok nmX11 0 19 q27_6 rfl rfl rfl rfl rfl rfl rfl rfl rfl dX11_step_63 rfl ?_
  refine k_aload_n X dX11_step_66 rfl 0 rfl rfl ?_
  refine k_aload_n X dX11_step_67 rfl 0 rfl rfl ?_
  refine k_get X i_wsX110 0 16 q27_2 rfl rfl rfl rfl rfl dX11_step_68 rfl ?_
  refine k_bipush X dX11_step_71 kc_b_25 rfl ?_
  refine k_ishr X dX11_step_73 rfl ?_
  refine k_iconst X dX11_step_74 kc_i_1 rfl ?_
  refine k_iand X dX11_step_75 rfl ?_
  refine k_iconst X dX11_step_76 kc_i_1 rfl ?_
  refine k_mid2 [(b_m, .inr (10, [.int (0 : Int32), .ref b_zX, .ref b_zV, .ref b_zO, .ref b_zM, .ref b_zS, .long m_choices, .int m_vl, .int m_vtype, .int m_vstart, .int m_vxrm, .int m_vxsat, .int m_done, .int m_illegal, .int m_traps, .int m_trapAddress, .int u1, .int ((shr u1 (7 : Int32)) &&& (31 : Int32)), .int ((shr u1 (15 : Int32)) &&& (31 : Int32)), .int ((shr u1 (20 : Int32)) &&& (31 : Int32)), .int ((shr u1 (12 : Int32)) &&& (7 : Int32)), .int m_f6, .int m_sew, .int m_l8, .int m_unmasked])), (b_zX, .inl (kI, 32, .inl zX)), (b_zV, .inl (kI, 512, .inl zV)), (b_zO, .inl (kI, 512, .inl zO)), (b_zM, .inl (kI, 1024, .inl zM)), (b_zS, .inl (kZ, 16, .inl zS))] [(0, .ref b_m), (1, .int u1)] [.int (pX11_step_85_S2 u1), .ref b_m] 85 (fun hJ2 => ?_) ?_
  · skip
    refine k_icmp_ne (tgt := 84) X dX11_step_77 (by decide) rfl (fun c1 => ?_) (fun c1 => ?_)
    · skip
      refine k_iconst X dX11_step_80 kc_i_1 rfl ?_
      refine k_goto (tgt := 85) X dX11_step_81 (by decide) ?_
      have e25 : (pX11_step_85_S2 u1) = (1 : Int32) := by rw [pX11_step_85_S2, if_pos c1]
      rw [e25] at hJ2
      exact k_sub [0, 1] rfl hJ2
    refine k_iconst X dX11_step_84 kc_i_0 rfl ?_
    have e26 : (pX11_step_85_S2 u1) = (0 : Int32) := by rw [pX11_step_85_S2, if_neg c1]
    rw [e26] at hJ2
    exact k_sub [0, 1] rfl hJ2
  refine k_put (ws' := [(b_m, .inr (10, [.int (0 : Int32), .ref b_zX, .ref b_zV, .ref b_zO, .ref b_zM, .ref b_zS, .long m_choices, .int m_vl, .int m_vtype, .int m_vstart, .int m_vxrm, .int m_vxsat, .int m_done, .int m_illegal, .int m_traps, .int m_trapAddress, .int u1, .int ((shr u1 (7 : Int32)) &&& (31 : Int32)), .int ((shr u1 (15 : Int32)) &&& (31 : Int32)), .int ((shr u1 (20 : Int32)) &&& (31 : Int32)), .int ((shr u1 (12 : Int32)) &&& (7 : Int32)), .int m_f6, .int m_sew, .int m_l8, .int (pX11_step_85_S2 u1)])), (b_zX, .inl (kI, 32, .inl zX)), (b_zV, .inl (kI, 512, .inl zV)), (b_zO, .inl (kI, 512, .inl zO)), (b_zM, .inl (kI, 1024, .inl zM)), (b_zS, .inl (kZ, 16, .inl zS))]) X i_wsX110 tyX11 tyX11_ok nmX11 0 24 q27_7 rfl rfl rfl rfl rfl (zpX11_step_85_S2 u1) (kFz (zpX11_step_85_S2 u1)) rfl rfl dX11_step_85 rfl ?_
  refine k_aload_n X dX11_step_88 rfl 0 rfl rfl ?_
  refine k_aload_n X dX11_step_89 rfl 0 rfl rfl ?_
  refine k_get X i_wsX110 0 16 q27_2 rfl rfl rfl rfl rfl dX11_step_90 rfl ?_
  refine k_bipush X dX11_step_93 kc_b_26 rfl ?_
  refine k_iushr X dX11_step_95 rfl ?_
  refine k_put (ws' := [(b_m, .inr (10, [.int (0 : Int32), .ref b_zX, .ref b_zV, .ref b_zO, .ref b_zM, .ref b_zS, .long m_choices, .int m_vl, .int m_vtype, .int m_vstart, .int m_vxrm, .int m_vxsat, .int m_done, .int m_illegal, .int m_traps, .int m_trapAddress, .int u1, .int ((shr u1 (7 : Int32)) &&& (31 : Int32)), .int ((shr u1 (15 : Int32)) &&& (31 : Int32)), .int ((shr u1 (20 : Int32)) &&& (31 : Int32)), .int ((shr u1 (12 : Int32)) &&& (7 : Int32)), .int (sru u1 (26 : Int32)), .int m_sew, .int m_l8, .int (pX11_step_85_S2 u1)])), (b_zX, .inl (kI, 32, .inl zX)), (b_zV, .inl (kI, 512, .inl zV)), (b_zO, .inl (kI, 512, .inl zO)), (b_zM, .inl (kI, 1024, .inl zM)), (b_zS, .inl (kZ, 16, .inl zS))]) X i_wsX110 tyX11 tyX11_ok nmX11 0 21 q27_8 rfl rfl rfl rfl rfl rfl rfl rfl rfl dX11_step_96 rfl ?_
  refine k_aload_n X dX11_step_99 rfl 0 rfl rfl ?_
  refine k_aload_n X dX11_step_100 rfl 0 rfl rfl ?_
  refine k_cV1 (st := [.ref b_m]) (ws' := [(b_m, .inr (10, [.int (0 : Int32), .ref b_zX, .ref b_zV, .ref b_zO, .ref b_zM, .ref b_zS, .long m_choices, .int m_vl, .int m_vtype, .int m_vstart, .int m_vxrm, .int m_vxsat, .int m_done, .int m_illegal, .int m_traps, .int m_trapAddress, .int u1, .int ((shr u1 (7 : Int32)) &&& (31 : Int32)), .int ((shr u1 (15 : Int32)) &&& (31 : Int32)), .int ((shr u1 (20 : Int32)) &&& (31 : Int32)), .int ((shr u1 (12 : Int32)) &&& (7 : Int32)), .int (sru u1 (26 : Int32)), .int m_sew, .int m_l8, .int (pX11_step_85_S2 u1)])), (b_zX, .inl (kI, 32, .inl zX)), (b_zV, .inl (kI, 512, .inl zV)), (b_zO, .inl (kI, 512, .inl zO)), (b_zM, .inl (kI, 1024, .inl zM)), (b_zS, .inl (kZ, 16, .inl zS))]) (wr := [(b_zX, .inl (kI, 32, .inl zX)), (b_zV, .inl (kI, 512, .inl zV)), (b_zO, .inl (kI, 512, .inl zO)), (b_zM, .inl (kI, 1024, .inl zM)), (b_zS, .inl (kZ, 16, .inl zS))]) (ci := 10) (q9 := 0) X [] 1 [0] [1, 2, 3, 4, 5] [5, 0, 1, 2, 3, 4] (kX11_isIll l D kI kZ b_m (0 : Int32) b_zX b_zV b_zO b_zM b_zS m_choices m_vl m_vtype m_vstart m_vxrm m_vxsat m_done m_illegal m_traps m_trapAddress u1 ((shr u1 (7 : Int32)) &&& (31 : Int32)) ((shr u1 (15 : Int32)) &&& (31 : Int32)) ((shr u1 (20 : Int32)) &&& (31 : Int32)) ((shr u1 (12 : Int32)) &&& (7 : Int32)) (sru u1 (26 : Int32)) m_sew m_l8 (pX11_step_85_S2 u1)) vX11_isIll q27_15 dX11_step_101 rfl rfl rfl rfl rfl rfl rfl rfl rfl rfl rfl rfl rfl rfl rfl ?_
  refine k_mid2 [(b_m, .inr (10, [.int (0 : Int32), .ref b_zX, .ref b_zV, .ref b_zO, .ref b_zM, .ref b_zS, .long m_choices, .int m_vl, .int m_vtype, .int m_vstart, .int m_vxrm, .int m_vxsat, .int m_done, .int m_illegal, .int m_traps, .int m_trapAddress, .int u1, .int ((shr u1 (7 : Int32)) &&& (31 : Int32)), .int ((shr u1 (15 : Int32)) &&& (31 : Int32)), .int ((shr u1 (20 : Int32)) &&& (31 : Int32)), .int ((shr u1 (12 : Int32)) &&& (7 : Int32)), .int (sru u1 (26 : Int32)), .int m_sew, .int m_l8, .int (pX11_step_85_S2 u1)])), (b_zX, .inl (kI, 32, .inl zX)), (b_zV, .inl (kI, 512, .inl zV)), (b_zO, .inl (kI, 512, .inl zO)), (b_zM, .inl (kI, 1024, .inl zM)), (b_zS, .inl (kZ, 16, .inl zS))] [(0, .ref b_m), (1, .int u1)] [.int (pX11_step_119_S2 m_vtype), .ref b_m] 119 (fun hJ4 => ?_) ?_
  · skip
    refine k_if_eq (tgt := 112) X dX11_step_104 (by decide) rfl (fun c3 => ?_) (fun c3 => ?_)
    · skip
      refine k_aload_n X dX11_step_112 rfl 0 rfl rfl ?_
      refine k_get X i_wsX110 0 8 q6_0 rfl rfl rfl rfl rfl dX11_step_113 rfl ?_
      refine k_cS1 (st := [.ref b_m]) (ws' := [(b_m, .inr (10, [.int (0 : Int32), .ref b_zX, .ref b_zV, .ref b_zO, .ref b_zM, .ref b_zS, .long m_choices, .int m_vl, .int m_vtype, .int m_vstart, .int m_vxrm, .int m_vxsat, .int m_done, .int m_illegal, .int m_traps, .int m_trapAddress, .int u1, .int ((shr u1 (7 : Int32)) &&& (31 : Int32)), .int ((shr u1 (15 : Int32)) &&& (31 : Int32)), .int ((shr u1 (20 : Int32)) &&& (31 : Int32)), .int ((shr u1 (12 : Int32)) &&& (7 : Int32)), .int (sru u1 (26 : Int32)), .int m_sew, .int m_l8, .int (pX11_step_85_S2 u1)])), (b_zX, .inl (kI, 32, .inl zX)), (b_zV, .inl (kI, 512, .inl zV)), (b_zO, .inl (kI, 512, .inl zO)), (b_zM, .inl (kI, 1024, .inl zM)), (b_zS, .inl (kZ, 16, .inl zS))]) (wr := [(b_m, .inr (10, [.int (0 : Int32), .ref b_zX, .ref b_zV, .ref b_zO, .ref b_zM, .ref b_zS, .long m_choices, .int m_vl, .int m_vtype, .int m_vstart, .int m_vxrm, .int m_vxsat, .int m_done, .int m_illegal, .int m_traps, .int m_trapAddress, .int u1, .int ((shr u1 (7 : Int32)) &&& (31 : Int32)), .int ((shr u1 (15 : Int32)) &&& (31 : Int32)), .int ((shr u1 (20 : Int32)) &&& (31 : Int32)), .int ((shr u1 (12 : Int32)) &&& (7 : Int32)), .int (sru u1 (26 : Int32)), .int m_sew, .int m_l8, .int (pX11_step_85_S2 u1)])), (b_zX, .inl (kI, 32, .inl zX)), (b_zV, .inl (kI, 512, .inl zV)), (b_zO, .inl (kI, 512, .inl zO)), (b_zM, .inl (kI, 1024, .inl zM)), (b_zS, .inl (kZ, 16, .inl zS))]) X [.int m_vtype] 1 [] [0, 1, 2, 3, 4, 5] [0, 1, 2, 3, 4, 5] (kX11_width l D kI kZ m_vtype) vX11_width q27_19 dX11_step_116 rfl rfl rfl rfl rfl rfl rfl rfl rfl rfl rfl rfl rfl ?_
      have e27 : (pX11_step_119_S2 m_vtype) = (fX11_width m_vtype) := by rw [pX11_step_119_S2, if_pos c3]
      rw [e27] at hJ4
      exact k_sub [0, 1] rfl hJ4
    refine k_bipush X dX11_step_107 kc_b_8 rfl ?_
    refine k_goto (tgt := 119) X dX11_step_109 (by decide) ?_
    have e28 : (pX11_step_119_S2 m_vtype) = (8 : Int32) := by rw [pX11_step_119_S2, if_neg c3]
    rw [e28] at hJ4
    exact k_sub [0, 1] rfl hJ4
  refine k_put (ws' := [(b_m, .inr (10, [.int (0 : Int32), .ref b_zX, .ref b_zV, .ref b_zO, .ref b_zM, .ref b_zS, .long m_choices, .int m_vl, .int m_vtype, .int m_vstart, .int m_vxrm, .int m_vxsat, .int m_done, .int m_illegal, .int m_traps, .int m_trapAddress, .int u1, .int ((shr u1 (7 : Int32)) &&& (31 : Int32)), .int ((shr u1 (15 : Int32)) &&& (31 : Int32)), .int ((shr u1 (20 : Int32)) &&& (31 : Int32)), .int ((shr u1 (12 : Int32)) &&& (7 : Int32)), .int (sru u1 (26 : Int32)), .int (pX11_step_119_S2 m_vtype), .int m_l8, .int (pX11_step_85_S2 u1)])), (b_zX, .inl (kI, 32, .inl zX)), (b_zV, .inl (kI, 512, .inl zV)), (b_zO, .inl (kI, 512, .inl zO)), (b_zM, .inl (kI, 1024, .inl zM)), (b_zS, .inl (kZ, 16, .inl zS))]) X i_wsX110 tyX11 tyX11_ok nmX11 0 22 q27_9 rfl rfl rfl rfl rfl rfl rfl rfl rfl dX11_step_119 rfl ?_
  refine k_aload_n X dX11_step_122 rfl 0 rfl rfl ?_
  refine k_aload_n X dX11_step_123 rfl 0 rfl rfl ?_
  refine k_cV1 (st := [.ref b_m]) (ws' := [(b_m, .inr (10, [.int (0 : Int32), .ref b_zX, .ref b_zV, .ref b_zO, .ref b_zM, .ref b_zS, .long m_choices, .int m_vl, .int m_vtype, .int m_vstart, .int m_vxrm, .int m_vxsat, .int m_done, .int m_illegal, .int m_traps, .int m_trapAddress, .int u1, .int ((shr u1 (7 : Int32)) &&& (31 : Int32)), .int ((shr u1 (15 : Int32)) &&& (31 : Int32)), .int ((shr u1 (20 : Int32)) &&& (31 : Int32)), .int ((shr u1 (12 : Int32)) &&& (7 : Int32)), .int (sru u1 (26 : Int32)), .int (pX11_step_119_S2 m_vtype), .int m_l8, .int (pX11_step_85_S2 u1)])), (b_zX, .inl (kI, 32, .inl zX)), (b_zV, .inl (kI, 512, .inl zV)), (b_zO, .inl (kI, 512, .inl zO)), (b_zM, .inl (kI, 1024, .inl zM)), (b_zS, .inl (kZ, 16, .inl zS))]) (wr := [(b_zX, .inl (kI, 32, .inl zX)), (b_zV, .inl (kI, 512, .inl zV)), (b_zO, .inl (kI, 512, .inl zO)), (b_zM, .inl (kI, 1024, .inl zM)), (b_zS, .inl (kZ, 16, .inl zS))]) (ci := 10) (q9 := 0) X [] 1 [0] [1, 2, 3, 4, 5] [5, 0, 1, 2, 3, 4] (kX11_isIll l D kI kZ b_m (0 : Int32) b_zX b_zV b_zO b_zM b_zS m_choices m_vl m_vtype m_vstart m_vxrm m_vxsat m_done m_illegal m_traps m_trapAddress u1 ((shr u1 (7 : Int32)) &&& (31 : Int32)) ((shr u1 (15 : Int32)) &&& (31 : Int32)) ((shr u1 (20 : Int32)) &&& (31 : Int32)) ((shr u1 (12 : Int32)) &&& (7 : Int32)) (sru u1 (26 : Int32)) (pX11_step_119_S2 m_vtype) m_l8 (pX11_step_85_S2 u1)) vX11_isIll q27_15 dX11_step_124 rfl rfl rfl rfl rfl rfl rfl rfl rfl rfl rfl rfl rfl rfl rfl ?_
  refine k_mid2 [(b_m, .inr (10, [.int (0 : Int32), .ref b_zX, .ref b_zV, .ref b_zO, .ref b_zM, .ref b_zS, .long m_choices, .int m_vl, .int m_vtype, .int m_vstart, .int m_vxrm, .int m_vxsat, .int m_done, .int m_illegal, .int m_traps, .int m_trapAddress, .int u1, .int ((shr u1 (7 : Int32)) &&& (31 : Int32)), .int ((shr u1 (15 : Int32)) &&& (31 : Int32)), .int ((shr u1 (20 : Int32)) &&& (31 : Int32)), .int ((shr u1 (12 : Int32)) &&& (7 : Int32)), .int (sru u1 (26 : Int32)), .int (pX11_step_119_S2 m_vtype), .int m_l8, .int (pX11_step_85_S2 u1)])), (b_zX, .inl (kI, 32, .inl zX)), (b_zV, .inl (kI, 512, .inl zV)), (b_zO, .inl (kI, 512, .inl zO)), (b_zM, .inl (kI, 1024, .inl zM)), (b_zS, .inl (kZ, 16, .inl zS))] [(0, .ref b_m), (1, .int u1)] [.int (pX11_step_142_S2 m_vtype), .ref b_m] 142 (fun hJ6 => ?_) ?_
  · skip
    refine k_if_eq (tgt := 135) X dX11_step_127 (by decide) rfl (fun c5 => ?_) (fun c5 => ?_)
    · skip
      refine k_aload_n X dX11_step_135 rfl 0 rfl rfl ?_
      refine k_get X i_wsX110 0 8 q6_0 rfl rfl rfl rfl rfl dX11_step_136 rfl ?_
      refine k_cS1 (st := [.ref b_m]) (ws' := [(b_m, .inr (10, [.int (0 : Int32), .ref b_zX, .ref b_zV, .ref b_zO, .ref b_zM, .ref b_zS, .long m_choices, .int m_vl, .int m_vtype, .int m_vstart, .int m_vxrm, .int m_vxsat, .int m_done, .int m_illegal, .int m_traps, .int m_trapAddress, .int u1, .int ((shr u1 (7 : Int32)) &&& (31 : Int32)), .int ((shr u1 (15 : Int32)) &&& (31 : Int32)), .int ((shr u1 (20 : Int32)) &&& (31 : Int32)), .int ((shr u1 (12 : Int32)) &&& (7 : Int32)), .int (sru u1 (26 : Int32)), .int (pX11_step_119_S2 m_vtype), .int m_l8, .int (pX11_step_85_S2 u1)])), (b_zX, .inl (kI, 32, .inl zX)), (b_zV, .inl (kI, 512, .inl zV)), (b_zO, .inl (kI, 512, .inl zO)), (b_zM, .inl (kI, 1024, .inl zM)), (b_zS, .inl (kZ, 16, .inl zS))]) (wr := [(b_m, .inr (10, [.int (0 : Int32), .ref b_zX, .ref b_zV, .ref b_zO, .ref b_zM, .ref b_zS, .long m_choices, .int m_vl, .int m_vtype, .int m_vstart, .int m_vxrm, .int m_vxsat, .int m_done, .int m_illegal, .int m_traps, .int m_trapAddress, .int u1, .int ((shr u1 (7 : Int32)) &&& (31 : Int32)), .int ((shr u1 (15 : Int32)) &&& (31 : Int32)), .int ((shr u1 (20 : Int32)) &&& (31 : Int32)), .int ((shr u1 (12 : Int32)) &&& (7 : Int32)), .int (sru u1 (26 : Int32)), .int (pX11_step_119_S2 m_vtype), .int m_l8, .int (pX11_step_85_S2 u1)])), (b_zX, .inl (kI, 32, .inl zX)), (b_zV, .inl (kI, 512, .inl zV)), (b_zO, .inl (kI, 512, .inl zO)), (b_zM, .inl (kI, 1024, .inl zM)), (b_zS, .inl (kZ, 16, .inl zS))]) X [.int m_vtype] 1 [] [0, 1, 2, 3, 4, 5] [0, 1, 2, 3, 4, 5] (kX11_eighths l D kI kZ m_vtype) vX11_eighths q27_22 dX11_step_139 rfl rfl rfl rfl rfl rfl rfl rfl rfl rfl rfl rfl rfl ?_
      have e29 : (pX11_step_142_S2 m_vtype) = (fX11_eighths m_vtype) := by rw [pX11_step_142_S2, if_pos c5]
      rw [e29] at hJ6
      exact k_sub [0, 1] rfl hJ6
    refine k_bipush X dX11_step_130 kc_b_8 rfl ?_
    refine k_goto (tgt := 142) X dX11_step_132 (by decide) ?_
    have e30 : (pX11_step_142_S2 m_vtype) = (8 : Int32) := by rw [pX11_step_142_S2, if_neg c5]
    rw [e30] at hJ6
    exact k_sub [0, 1] rfl hJ6
  refine k_put (ws' := [(b_m, .inr (10, [.int (0 : Int32), .ref b_zX, .ref b_zV, .ref b_zO, .ref b_zM, .ref b_zS, .long m_choices, .int m_vl, .int m_vtype, .int m_vstart, .int m_vxrm, .int m_vxsat, .int m_done, .int m_illegal, .int m_traps, .int m_trapAddress, .int u1, .int ((shr u1 (7 : Int32)) &&& (31 : Int32)), .int ((shr u1 (15 : Int32)) &&& (31 : Int32)), .int ((shr u1 (20 : Int32)) &&& (31 : Int32)), .int ((shr u1 (12 : Int32)) &&& (7 : Int32)), .int (sru u1 (26 : Int32)), .int (pX11_step_119_S2 m_vtype), .int (pX11_step_142_S2 m_vtype), .int (pX11_step_85_S2 u1)])), (b_zX, .inl (kI, 32, .inl zX)), (b_zV, .inl (kI, 512, .inl zV)), (b_zO, .inl (kI, 512, .inl zO)), (b_zM, .inl (kI, 1024, .inl zM)), (b_zS, .inl (kZ, 16, .inl zS))]) X i_wsX110 tyX11 tyX11_ok nmX11 0 23 q27_10 rfl rfl rfl rfl rfl rfl rfl rfl rfl dX11_step_142 rfl ?_
  refine k_iconst X dX11_step_145 kc_i_0 rfl ?_
  refine k_istore_n (lv' := [(2, .int (0 : Int32)), (0, .ref b_m), (1, .int u1)]) X dX11_step_146 rfl rfl rfl rfl ?_
  refine k_sub [1, 2, 0] (lv' := [(0, .ref b_m), (1, .int u1), (2, .int (0 : Int32))]) rfl ?_
  refine k_loop (KX11_step_147 zV) (LX11_step_147 zV) (fun s9 => (bX11_step_147_L2 s9.1 s9.2, bX11_step_147_zO zV s9.1 s9.2)) (fun s9 => tX11_step_147 s9.1 s9.2 ∧ oX11_step_147 s9.1 s9.2) (fun s9 => [(b_m, .inr (10, [.int (0 : Int32), .ref b_zX, .ref b_zV, .ref b_zO, .ref b_zM, .ref b_zS, .long m_choices, .int m_vl, .int m_vtype, .int m_vstart, .int m_vxrm, .int m_vxsat, .int m_done, .int m_illegal, .int m_traps, .int m_trapAddress, .int u1, .int ((shr u1 (7 : Int32)) &&& (31 : Int32)), .int ((shr u1 (15 : Int32)) &&& (31 : Int32)), .int ((shr u1 (20 : Int32)) &&& (31 : Int32)), .int ((shr u1 (12 : Int32)) &&& (7 : Int32)), .int (sru u1 (26 : Int32)), .int (pX11_step_119_S2 m_vtype), .int (pX11_step_142_S2 m_vtype), .int (pX11_step_85_S2 u1)])), (b_zX, .inl (kI, 32, .inl zX)), (b_zV, .inl (kI, 512, .inl zV)), (b_zO, .inl (kI, 512, .inl s9.2)), (b_zM, .inl (kI, 1024, .inl zM)), (b_zS, .inl (kZ, 16, .inl zS))]) (fun s9 => [(0, .ref b_m), (1, .int u1), (2, .int s9.1)]) 147 (fun _ => rfl) (fun _ _ => rfl) (fun _ _ h => h) ?_ (kN 512) ((0 : Int32), zO) (hok.1) ?_
  · rintro ⟨w_L2, w_zO⟩ ⟨hlat, hob⟩ g0
    try dsimp only at hlat hob g0 ⊢
    unfold oX11_step_147 at hob
    refine k_iload_n X dX11_step_147 rfl 2 rfl rfl ?_
    refine k_sipush X dX11_step_148 kc_s_512 rfl ?_
    refine k_icmp_ge (tgt := 172) X dX11_step_151 (by decide) rfl (fun c7 => ?_) (fun c7 => ?_)
    · skip
      exact absurd hlat (by rw [tX11_step_147, if_pos c7]; exact id)
    refine k_aload_n X dX11_step_154 rfl 0 rfl rfl ?_
    refine k_get X i_wsX110 0 3 q5_19 rfl rfl rfl rfl rfl dX11_step_155 rfl ?_
    refine k_iload_n X dX11_step_158 rfl 2 rfl rfl ?_
    refine k_aload_n X dX11_step_159 rfl 0 rfl rfl ?_
    refine k_get X i_wsX110 0 2 q5_18 rfl rfl rfl rfl rfl dX11_step_160 rfl ?_
    refine k_iload_n X dX11_step_163 rfl 2 rfl rfl ?_
    refine k_iald X 2 0 rfl rfl (hob c7) dX11_step_164 rfl ?_
    refine k_iast (ws' := [(b_m, .inr (10, [.int (0 : Int32), .ref b_zX, .ref b_zV, .ref b_zO, .ref b_zM, .ref b_zS, .long m_choices, .int m_vl, .int m_vtype, .int m_vstart, .int m_vxrm, .int m_vxsat, .int m_done, .int m_illegal, .int m_traps, .int m_trapAddress, .int u1, .int ((shr u1 (7 : Int32)) &&& (31 : Int32)), .int ((shr u1 (15 : Int32)) &&& (31 : Int32)), .int ((shr u1 (20 : Int32)) &&& (31 : Int32)), .int ((shr u1 (12 : Int32)) &&& (7 : Int32)), .int (sru u1 (26 : Int32)), .int (pX11_step_119_S2 m_vtype), .int (pX11_step_142_S2 m_vtype), .int (pX11_step_85_S2 u1)])), (b_zX, .inl (kI, 32, .inl zX)), (b_zV, .inl (kI, 512, .inl zV)), (b_zO, .inl (kI, 512, .inl (upd w_zO (Int32.toNatClampNeg w_L2) (zV (Int32.toNatClampNeg w_L2))))), (b_zM, .inl (kI, 1024, .inl zM)), (b_zS, .inl (kZ, 16, .inl zS))]) X 3 0 rfl rfl (hob c7) rfl dX11_step_165 rfl ?_
    refine k_iinc (lv' := [(2, .int (w_L2 + (1 : Int32))), (0, .ref b_m), (1, .int u1)]) X dX11_step_166 2 rfl kc_i_1 rfl rfl rfl ?_
    refine k_goto (tgt := 147) X dX11_step_169 (by decide) ?_
    have e31 : bX11_step_147_L2 w_L2 w_zO = (w_L2 + (1 : Int32)) := by rw [bX11_step_147_L2, if_neg c7]
    rw [e31] at g0
    have e32 : bX11_step_147_zO zV w_L2 w_zO = (upd w_zO (Int32.toNatClampNeg w_L2) (zV (Int32.toNatClampNeg w_L2))) := by rw [bX11_step_147_zO, if_neg c7]
    rw [e32] at g0
    exact k_sub [1, 2, 0] rfl g0
  try dsimp only
  refine k_iload_n X dX11_step_147 rfl 2 rfl rfl ?_
  refine k_sipush X dX11_step_148 kc_s_512 rfl ?_
  refine k_icmp_ge (tgt := 172) X dX11_step_151 (by decide) rfl (fun c8 => ?_) (fun c8 => ?_)
  · skip
    refine k_iconst X dX11_step_172 kc_i_1 rfl ?_
    refine k_istore_n (lv' := [(2, .int (1 : Int32)), (0, .ref b_m), (1, .int u1)]) X dX11_step_173 rfl rfl rfl rfl ?_
    refine k_aload_n X dX11_step_174 rfl 1 rfl rfl ?_
    refine k_get X i_wsX110 0 16 q27_2 rfl rfl rfl rfl rfl dX11_step_175 rfl ?_
    refine k_bipush X dX11_step_178 kc_b_127 rfl ?_
    refine k_iand X dX11_step_180 rfl ?_
    refine k_mid2 [(b_m, .inr (10, [.int (0 : Int32), .ref b_zX, .ref b_zV, .ref b_zO, .ref b_zM, .ref b_zS, .long m_choices, .int (pX11_step_277_m_vl m_choices m_vl m_vtype m_vstart zX zV zO zM zS u1), .int (pX11_step_277_m_vtype m_vtype zX u1), .int (pX11_step_277_m_vstart m_choices m_vl m_vtype m_vstart zX zV zO zM zS u1), .int m_vxrm, .int (pX11_step_277_m_vxsat m_choices m_vl m_vtype m_vstart m_vxrm m_vxsat zX zV zO u1), .int m_done, .int m_illegal, .int m_traps, .int (pX11_step_277_m_trapAddress m_choices m_vl m_vtype m_vstart m_trapAddress zX zV zO zM zS u1), .int u1, .int ((shr u1 (7 : Int32)) &&& (31 : Int32)), .int ((shr u1 (15 : Int32)) &&& (31 : Int32)), .int ((shr u1 (20 : Int32)) &&& (31 : Int32)), .int ((shr u1 (12 : Int32)) &&& (7 : Int32)), .int (sru u1 (26 : Int32)), .int (pX11_step_119_S2 m_vtype), .int (pX11_step_142_S2 m_vtype), .int (pX11_step_85_S2 u1)])), (b_zX, .inl (kI, 32, .inl (pX11_step_277_zX m_choices m_vl m_vtype m_vstart zX zV zO u1))), (b_zV, .inl (kI, 512, .inl (pX11_step_277_zV m_choices m_vl m_vtype m_vstart m_vxrm m_vxsat zX zV zO zM zS u1))), (b_zO, .inl (kI, 512, .inl (pX11_step_277_zO m_vtype zV zO u1))), (b_zM, .inl (kI, 1024, .inl (pX11_step_277_zM m_choices m_vl m_vtype m_vstart zX zV zO zM zS u1))), (b_zS, .inl (kZ, 16, .inl zS))] [(0, .ref b_m), (1, .int u1), (2, .int (pX11_step_277_L2 m_choices m_vl m_vtype m_vstart zX zV zO zM zS u1))] [] 277 (fun hJ16 => ?_) ?_
    · skip
      by_cases c9 : (u1 &&& (127 : Int32)) = (7 : Int32)
      · refine k_lkI (tgt := 259) X dX11_step_181 (by decide) c9 rfl (by decide) ?_
        refine k_aload_n X dX11_step_259 rfl 1 rfl rfl ?_
        refine k_iconst X dX11_step_260 kc_i_1 rfl ?_
        refine k_cV1 (st := []) (ws' := [(b_m, .inr (10, [.int (0 : Int32), .ref b_zX, .ref b_zV, .ref b_zO, .ref b_zM, .ref b_zS, .long m_choices, .int (fX11_moves__m_vl m_choices m_vl m_vtype m_vstart u1 ((shr u1 (7 : Int32)) &&& (31 : Int32)) ((shr u1 (15 : Int32)) &&& (31 : Int32)) ((shr u1 (20 : Int32)) &&& (31 : Int32)) ((shr u1 (12 : Int32)) &&& (7 : Int32)) (pX11_step_119_S2 m_vtype) (pX11_step_142_S2 m_vtype) (pX11_step_85_S2 u1) zX zV ((LX11_step_147 zV (kN 512) ((0 : Int32), zO)).2) zM zS (1 : Int32)), .int m_vtype, .int (fX11_moves__m_vstart m_choices m_vl m_vtype m_vstart u1 ((shr u1 (7 : Int32)) &&& (31 : Int32)) ((shr u1 (15 : Int32)) &&& (31 : Int32)) ((shr u1 (20 : Int32)) &&& (31 : Int32)) ((shr u1 (12 : Int32)) &&& (7 : Int32)) (pX11_step_119_S2 m_vtype) (pX11_step_142_S2 m_vtype) (pX11_step_85_S2 u1) zX zV ((LX11_step_147 zV (kN 512) ((0 : Int32), zO)).2) zM zS (1 : Int32)), .int m_vxrm, .int m_vxsat, .int m_done, .int m_illegal, .int m_traps, .int (fX11_moves__m_trapAddress m_choices m_vl m_vtype m_vstart m_trapAddress u1 ((shr u1 (7 : Int32)) &&& (31 : Int32)) ((shr u1 (15 : Int32)) &&& (31 : Int32)) ((shr u1 (20 : Int32)) &&& (31 : Int32)) ((shr u1 (12 : Int32)) &&& (7 : Int32)) (pX11_step_119_S2 m_vtype) (pX11_step_142_S2 m_vtype) (pX11_step_85_S2 u1) zX zV ((LX11_step_147 zV (kN 512) ((0 : Int32), zO)).2) zM zS (1 : Int32)), .int u1, .int ((shr u1 (7 : Int32)) &&& (31 : Int32)), .int ((shr u1 (15 : Int32)) &&& (31 : Int32)), .int ((shr u1 (20 : Int32)) &&& (31 : Int32)), .int ((shr u1 (12 : Int32)) &&& (7 : Int32)), .int (sru u1 (26 : Int32)), .int (pX11_step_119_S2 m_vtype), .int (pX11_step_142_S2 m_vtype), .int (pX11_step_85_S2 u1)])), (b_zX, .inl (kI, 32, .inl zX)), (b_zV, .inl (kI, 512, .inl (fX11_moves__zV m_choices m_vl m_vtype m_vstart u1 ((shr u1 (7 : Int32)) &&& (31 : Int32)) ((shr u1 (15 : Int32)) &&& (31 : Int32)) ((shr u1 (20 : Int32)) &&& (31 : Int32)) ((shr u1 (12 : Int32)) &&& (7 : Int32)) (pX11_step_119_S2 m_vtype) (pX11_step_142_S2 m_vtype) (pX11_step_85_S2 u1) zX zV ((LX11_step_147 zV (kN 512) ((0 : Int32), zO)).2) zM zS (1 : Int32)))), (b_zO, .inl (kI, 512, .inl ((LX11_step_147 zV (kN 512) ((0 : Int32), zO)).2))), (b_zM, .inl (kI, 1024, .inl (fX11_moves__zM m_choices m_vl m_vtype m_vstart u1 ((shr u1 (7 : Int32)) &&& (31 : Int32)) ((shr u1 (15 : Int32)) &&& (31 : Int32)) ((shr u1 (20 : Int32)) &&& (31 : Int32)) ((shr u1 (12 : Int32)) &&& (7 : Int32)) (pX11_step_119_S2 m_vtype) (pX11_step_142_S2 m_vtype) (pX11_step_85_S2 u1) zX zV ((LX11_step_147 zV (kN 512) ((0 : Int32), zO)).2) zM zS (1 : Int32)))), (b_zS, .inl (kZ, 16, .inl zS))]) (wr := []) (ci := 10) (q9 := 0) X [.int (1 : Int32)] 0 [0, 1, 2, 3, 4, 5] [] [0, 1, 2, 3, 4, 5] (kX11_moves l D kI kZ b_m b_zX b_zV b_zO b_zM b_zS (0 : Int32) m_choices m_vl m_vtype m_vstart m_vxrm m_vxsat m_done m_illegal m_traps m_trapAddress u1 ((shr u1 (7 : Int32)) &&& (31 : Int32)) ((shr u1 (15 : Int32)) &&& (31 : Int32)) ((shr u1 (20 : Int32)) &&& (31 : Int32)) ((shr u1 (12 : Int32)) &&& (7 : Int32)) (sru u1 (26 : Int32)) (pX11_step_119_S2 m_vtype) (pX11_step_142_S2 m_vtype) (pX11_step_85_S2 u1) zX zV ((LX11_step_147 zV (kN 512) ((0 : Int32), zO)).2) zM zS (1 : Int32) (hok.2.2.1 c8 c9)) vX11_moves q39_7 dX11_step_261 rfl rfl rfl rfl rfl rfl rfl rfl rfl rfl rfl rfl rfl rfl rfl ?_
        refine k_foldi (v := (eX11_step_264 m_choices m_vl m_vtype m_vstart zX zV zO zM zS u1)) rfl ?_
        refine k_istore_n (lv' := [(2, .int (eX11_step_264 m_choices m_vl m_vtype m_vstart zX zV zO zM zS u1)), (0, .ref b_m), (1, .int u1)]) X dX11_step_264 rfl rfl rfl rfl ?_
        refine k_goto (tgt := 277) X dX11_step_265 (by decide) ?_
        have e33 : (pX11_step_277_L2 m_choices m_vl m_vtype m_vstart zX zV zO zM zS u1) = (eX11_step_264 m_choices m_vl m_vtype m_vstart zX zV zO zM zS u1) := by rw [pX11_step_277_L2, if_pos c9]
        rw [e33] at hJ16
        have e34 : (pX11_step_277_m_vl m_choices m_vl m_vtype m_vstart zX zV zO zM zS u1) = (fX11_moves__m_vl m_choices m_vl m_vtype m_vstart u1 ((shr u1 (7 : Int32)) &&& (31 : Int32)) ((shr u1 (15 : Int32)) &&& (31 : Int32)) ((shr u1 (20 : Int32)) &&& (31 : Int32)) ((shr u1 (12 : Int32)) &&& (7 : Int32)) (pX11_step_119_S2 m_vtype) (pX11_step_142_S2 m_vtype) (pX11_step_85_S2 u1) zX zV ((LX11_step_147 zV (kN 512) ((0 : Int32), zO)).2) zM zS (1 : Int32)) := by rw [pX11_step_277_m_vl, if_pos c9]
        rw [e34] at hJ16
        have e35 : (pX11_step_277_m_vtype m_vtype zX u1) = m_vtype := by rw [pX11_step_277_m_vtype, if_pos c9]
        rw [e35] at hJ16
        have e36 : (pX11_step_277_m_vstart m_choices m_vl m_vtype m_vstart zX zV zO zM zS u1) = (fX11_moves__m_vstart m_choices m_vl m_vtype m_vstart u1 ((shr u1 (7 : Int32)) &&& (31 : Int32)) ((shr u1 (15 : Int32)) &&& (31 : Int32)) ((shr u1 (20 : Int32)) &&& (31 : Int32)) ((shr u1 (12 : Int32)) &&& (7 : Int32)) (pX11_step_119_S2 m_vtype) (pX11_step_142_S2 m_vtype) (pX11_step_85_S2 u1) zX zV ((LX11_step_147 zV (kN 512) ((0 : Int32), zO)).2) zM zS (1 : Int32)) := by rw [pX11_step_277_m_vstart, if_pos c9]
        rw [e36] at hJ16
        have e37 : (pX11_step_277_m_vxsat m_choices m_vl m_vtype m_vstart m_vxrm m_vxsat zX zV zO u1) = m_vxsat := by rw [pX11_step_277_m_vxsat, if_pos c9]
        rw [e37] at hJ16
        have e38 : (pX11_step_277_m_trapAddress m_choices m_vl m_vtype m_vstart m_trapAddress zX zV zO zM zS u1) = (fX11_moves__m_trapAddress m_choices m_vl m_vtype m_vstart m_trapAddress u1 ((shr u1 (7 : Int32)) &&& (31 : Int32)) ((shr u1 (15 : Int32)) &&& (31 : Int32)) ((shr u1 (20 : Int32)) &&& (31 : Int32)) ((shr u1 (12 : Int32)) &&& (7 : Int32)) (pX11_step_119_S2 m_vtype) (pX11_step_142_S2 m_vtype) (pX11_step_85_S2 u1) zX zV ((LX11_step_147 zV (kN 512) ((0 : Int32), zO)).2) zM zS (1 : Int32)) := by rw [pX11_step_277_m_trapAddress, if_pos c9]
        rw [e38] at hJ16
        have e39 : (pX11_step_277_zX m_choices m_vl m_vtype m_vstart zX zV zO u1) = zX := by rw [pX11_step_277_zX, if_pos c9]
        rw [e39] at hJ16
        have e40 : (pX11_step_277_zV m_choices m_vl m_vtype m_vstart m_vxrm m_vxsat zX zV zO zM zS u1) = (fX11_moves__zV m_choices m_vl m_vtype m_vstart u1 ((shr u1 (7 : Int32)) &&& (31 : Int32)) ((shr u1 (15 : Int32)) &&& (31 : Int32)) ((shr u1 (20 : Int32)) &&& (31 : Int32)) ((shr u1 (12 : Int32)) &&& (7 : Int32)) (pX11_step_119_S2 m_vtype) (pX11_step_142_S2 m_vtype) (pX11_step_85_S2 u1) zX zV ((LX11_step_147 zV (kN 512) ((0 : Int32), zO)).2) zM zS (1 : Int32)) := by rw [pX11_step_277_zV, if_pos c9]
        rw [e40] at hJ16
        have e41 : (pX11_step_277_zO m_vtype zV zO u1) = ((LX11_step_147 zV (kN 512) ((0 : Int32), zO)).2) := by rw [pX11_step_277_zO, if_pos c9]
        rw [e41] at hJ16
        have e42 : (pX11_step_277_zM m_choices m_vl m_vtype m_vstart zX zV zO zM zS u1) = (fX11_moves__zM m_choices m_vl m_vtype m_vstart u1 ((shr u1 (7 : Int32)) &&& (31 : Int32)) ((shr u1 (15 : Int32)) &&& (31 : Int32)) ((shr u1 (20 : Int32)) &&& (31 : Int32)) ((shr u1 (12 : Int32)) &&& (7 : Int32)) (pX11_step_119_S2 m_vtype) (pX11_step_142_S2 m_vtype) (pX11_step_85_S2 u1) zX zV ((LX11_step_147 zV (kN 512) ((0 : Int32), zO)).2) zM zS (1 : Int32)) := by rw [pX11_step_277_zM, if_pos c9]
        rw [e42] at hJ16
        exact k_sub [1, 2, 0] rfl hJ16
      by_cases c10 : (u1 &&& (127 : Int32)) = (39 : Int32)
      · refine k_lkI (tgt := 268) X dX11_step_181 (by decide) c10 rfl (by decide) ?_
        refine k_aload_n X dX11_step_268 rfl 1 rfl rfl ?_
        refine k_iconst X dX11_step_269 kc_i_0 rfl ?_
        refine k_cV1 (st := []) (ws' := [(b_m, .inr (10, [.int (0 : Int32), .ref b_zX, .ref b_zV, .ref b_zO, .ref b_zM, .ref b_zS, .long m_choices, .int (fX11_moves__m_vl m_choices m_vl m_vtype m_vstart u1 ((shr u1 (7 : Int32)) &&& (31 : Int32)) ((shr u1 (15 : Int32)) &&& (31 : Int32)) ((shr u1 (20 : Int32)) &&& (31 : Int32)) ((shr u1 (12 : Int32)) &&& (7 : Int32)) (pX11_step_119_S2 m_vtype) (pX11_step_142_S2 m_vtype) (pX11_step_85_S2 u1) zX zV ((LX11_step_147 zV (kN 512) ((0 : Int32), zO)).2) zM zS (0 : Int32)), .int m_vtype, .int (fX11_moves__m_vstart m_choices m_vl m_vtype m_vstart u1 ((shr u1 (7 : Int32)) &&& (31 : Int32)) ((shr u1 (15 : Int32)) &&& (31 : Int32)) ((shr u1 (20 : Int32)) &&& (31 : Int32)) ((shr u1 (12 : Int32)) &&& (7 : Int32)) (pX11_step_119_S2 m_vtype) (pX11_step_142_S2 m_vtype) (pX11_step_85_S2 u1) zX zV ((LX11_step_147 zV (kN 512) ((0 : Int32), zO)).2) zM zS (0 : Int32)), .int m_vxrm, .int m_vxsat, .int m_done, .int m_illegal, .int m_traps, .int (fX11_moves__m_trapAddress m_choices m_vl m_vtype m_vstart m_trapAddress u1 ((shr u1 (7 : Int32)) &&& (31 : Int32)) ((shr u1 (15 : Int32)) &&& (31 : Int32)) ((shr u1 (20 : Int32)) &&& (31 : Int32)) ((shr u1 (12 : Int32)) &&& (7 : Int32)) (pX11_step_119_S2 m_vtype) (pX11_step_142_S2 m_vtype) (pX11_step_85_S2 u1) zX zV ((LX11_step_147 zV (kN 512) ((0 : Int32), zO)).2) zM zS (0 : Int32)), .int u1, .int ((shr u1 (7 : Int32)) &&& (31 : Int32)), .int ((shr u1 (15 : Int32)) &&& (31 : Int32)), .int ((shr u1 (20 : Int32)) &&& (31 : Int32)), .int ((shr u1 (12 : Int32)) &&& (7 : Int32)), .int (sru u1 (26 : Int32)), .int (pX11_step_119_S2 m_vtype), .int (pX11_step_142_S2 m_vtype), .int (pX11_step_85_S2 u1)])), (b_zX, .inl (kI, 32, .inl zX)), (b_zV, .inl (kI, 512, .inl (fX11_moves__zV m_choices m_vl m_vtype m_vstart u1 ((shr u1 (7 : Int32)) &&& (31 : Int32)) ((shr u1 (15 : Int32)) &&& (31 : Int32)) ((shr u1 (20 : Int32)) &&& (31 : Int32)) ((shr u1 (12 : Int32)) &&& (7 : Int32)) (pX11_step_119_S2 m_vtype) (pX11_step_142_S2 m_vtype) (pX11_step_85_S2 u1) zX zV ((LX11_step_147 zV (kN 512) ((0 : Int32), zO)).2) zM zS (0 : Int32)))), (b_zO, .inl (kI, 512, .inl ((LX11_step_147 zV (kN 512) ((0 : Int32), zO)).2))), (b_zM, .inl (kI, 1024, .inl (fX11_moves__zM m_choices m_vl m_vtype m_vstart u1 ((shr u1 (7 : Int32)) &&& (31 : Int32)) ((shr u1 (15 : Int32)) &&& (31 : Int32)) ((shr u1 (20 : Int32)) &&& (31 : Int32)) ((shr u1 (12 : Int32)) &&& (7 : Int32)) (pX11_step_119_S2 m_vtype) (pX11_step_142_S2 m_vtype) (pX11_step_85_S2 u1) zX zV ((LX11_step_147 zV (kN 512) ((0 : Int32), zO)).2) zM zS (0 : Int32)))), (b_zS, .inl (kZ, 16, .inl zS))]) (wr := []) (ci := 10) (q9 := 0) X [.int (0 : Int32)] 0 [0, 1, 2, 3, 4, 5] [] [0, 1, 2, 3, 4, 5] (kX11_moves l D kI kZ b_m b_zX b_zV b_zO b_zM b_zS (0 : Int32) m_choices m_vl m_vtype m_vstart m_vxrm m_vxsat m_done m_illegal m_traps m_trapAddress u1 ((shr u1 (7 : Int32)) &&& (31 : Int32)) ((shr u1 (15 : Int32)) &&& (31 : Int32)) ((shr u1 (20 : Int32)) &&& (31 : Int32)) ((shr u1 (12 : Int32)) &&& (7 : Int32)) (sru u1 (26 : Int32)) (pX11_step_119_S2 m_vtype) (pX11_step_142_S2 m_vtype) (pX11_step_85_S2 u1) zX zV ((LX11_step_147 zV (kN 512) ((0 : Int32), zO)).2) zM zS (0 : Int32) (hok.2.2.2.1 c8 c9 c10)) vX11_moves q39_7 dX11_step_270 rfl rfl rfl rfl rfl rfl rfl rfl rfl rfl rfl rfl rfl rfl rfl ?_
        refine k_foldi (v := (eX11_step_273 m_choices m_vl m_vtype m_vstart zX zV zO zM zS u1)) rfl ?_
        refine k_istore_n (lv' := [(2, .int (eX11_step_273 m_choices m_vl m_vtype m_vstart zX zV zO zM zS u1)), (0, .ref b_m), (1, .int u1)]) X dX11_step_273 rfl rfl rfl rfl ?_
        refine k_goto (tgt := 277) X dX11_step_274 (by decide) ?_
        have e43 : (pX11_step_277_L2 m_choices m_vl m_vtype m_vstart zX zV zO zM zS u1) = (eX11_step_273 m_choices m_vl m_vtype m_vstart zX zV zO zM zS u1) := by rw [pX11_step_277_L2, if_neg c9, if_pos c10]
        rw [e43] at hJ16
        have e44 : (pX11_step_277_m_vl m_choices m_vl m_vtype m_vstart zX zV zO zM zS u1) = (fX11_moves__m_vl m_choices m_vl m_vtype m_vstart u1 ((shr u1 (7 : Int32)) &&& (31 : Int32)) ((shr u1 (15 : Int32)) &&& (31 : Int32)) ((shr u1 (20 : Int32)) &&& (31 : Int32)) ((shr u1 (12 : Int32)) &&& (7 : Int32)) (pX11_step_119_S2 m_vtype) (pX11_step_142_S2 m_vtype) (pX11_step_85_S2 u1) zX zV ((LX11_step_147 zV (kN 512) ((0 : Int32), zO)).2) zM zS (0 : Int32)) := by rw [pX11_step_277_m_vl, if_neg c9, if_pos c10]
        rw [e44] at hJ16
        have e45 : (pX11_step_277_m_vtype m_vtype zX u1) = m_vtype := by rw [pX11_step_277_m_vtype, if_neg c9, if_pos c10]
        rw [e45] at hJ16
        have e46 : (pX11_step_277_m_vstart m_choices m_vl m_vtype m_vstart zX zV zO zM zS u1) = (fX11_moves__m_vstart m_choices m_vl m_vtype m_vstart u1 ((shr u1 (7 : Int32)) &&& (31 : Int32)) ((shr u1 (15 : Int32)) &&& (31 : Int32)) ((shr u1 (20 : Int32)) &&& (31 : Int32)) ((shr u1 (12 : Int32)) &&& (7 : Int32)) (pX11_step_119_S2 m_vtype) (pX11_step_142_S2 m_vtype) (pX11_step_85_S2 u1) zX zV ((LX11_step_147 zV (kN 512) ((0 : Int32), zO)).2) zM zS (0 : Int32)) := by rw [pX11_step_277_m_vstart, if_neg c9, if_pos c10]
        rw [e46] at hJ16
        have e47 : (pX11_step_277_m_vxsat m_choices m_vl m_vtype m_vstart m_vxrm m_vxsat zX zV zO u1) = m_vxsat := by rw [pX11_step_277_m_vxsat, if_neg c9, if_pos c10]
        rw [e47] at hJ16
        have e48 : (pX11_step_277_m_trapAddress m_choices m_vl m_vtype m_vstart m_trapAddress zX zV zO zM zS u1) = (fX11_moves__m_trapAddress m_choices m_vl m_vtype m_vstart m_trapAddress u1 ((shr u1 (7 : Int32)) &&& (31 : Int32)) ((shr u1 (15 : Int32)) &&& (31 : Int32)) ((shr u1 (20 : Int32)) &&& (31 : Int32)) ((shr u1 (12 : Int32)) &&& (7 : Int32)) (pX11_step_119_S2 m_vtype) (pX11_step_142_S2 m_vtype) (pX11_step_85_S2 u1) zX zV ((LX11_step_147 zV (kN 512) ((0 : Int32), zO)).2) zM zS (0 : Int32)) := by rw [pX11_step_277_m_trapAddress, if_neg c9, if_pos c10]
        rw [e48] at hJ16
        have e49 : (pX11_step_277_zX m_choices m_vl m_vtype m_vstart zX zV zO u1) = zX := by rw [pX11_step_277_zX, if_neg c9, if_pos c10]
        rw [e49] at hJ16
        have e50 : (pX11_step_277_zV m_choices m_vl m_vtype m_vstart m_vxrm m_vxsat zX zV zO zM zS u1) = (fX11_moves__zV m_choices m_vl m_vtype m_vstart u1 ((shr u1 (7 : Int32)) &&& (31 : Int32)) ((shr u1 (15 : Int32)) &&& (31 : Int32)) ((shr u1 (20 : Int32)) &&& (31 : Int32)) ((shr u1 (12 : Int32)) &&& (7 : Int32)) (pX11_step_119_S2 m_vtype) (pX11_step_142_S2 m_vtype) (pX11_step_85_S2 u1) zX zV ((LX11_step_147 zV (kN 512) ((0 : Int32), zO)).2) zM zS (0 : Int32)) := by rw [pX11_step_277_zV, if_neg c9, if_pos c10]
        rw [e50] at hJ16
        have e51 : (pX11_step_277_zO m_vtype zV zO u1) = ((LX11_step_147 zV (kN 512) ((0 : Int32), zO)).2) := by rw [pX11_step_277_zO, if_neg c9, if_pos c10]
        rw [e51] at hJ16
        have e52 : (pX11_step_277_zM m_choices m_vl m_vtype m_vstart zX zV zO zM zS u1) = (fX11_moves__zM m_choices m_vl m_vtype m_vstart u1 ((shr u1 (7 : Int32)) &&& (31 : Int32)) ((shr u1 (15 : Int32)) &&& (31 : Int32)) ((shr u1 (20 : Int32)) &&& (31 : Int32)) ((shr u1 (12 : Int32)) &&& (7 : Int32)) (pX11_step_119_S2 m_vtype) (pX11_step_142_S2 m_vtype) (pX11_step_85_S2 u1) zX zV ((LX11_step_147 zV (kN 512) ((0 : Int32), zO)).2) zM zS (0 : Int32)) := by rw [pX11_step_277_zM, if_neg c9, if_pos c10]
        rw [e52] at hJ16
        exact k_sub [1, 2, 0] rfl hJ16
      by_cases c11 : (u1 &&& (127 : Int32)) = (87 : Int32)
      · refine k_lkI (tgt := 216) X dX11_step_181 (by decide) c11 rfl (by decide) ?_
        refine k_aload_n X dX11_step_216 rfl 1 rfl rfl ?_
        refine k_get X i_wsX110 0 20 q27_4 rfl rfl rfl rfl rfl dX11_step_217 rfl ?_
        refine k_bipush X dX11_step_220 kc_b_7 rfl ?_
        refine k_mid2 [(b_m, .inr (10, [.int (0 : Int32), .ref b_zX, .ref b_zV, .ref b_zO, .ref b_zM, .ref b_zS, .long m_choices, .int (pX11_step_255_m_vl m_choices m_vl m_vtype zX u1), .int (pX11_step_255_m_vtype m_vtype zX u1), .int m_vstart, .int m_vxrm, .int (pX11_step_255_m_vxsat m_choices m_vl m_vtype m_vstart m_vxrm m_vxsat zX zV zO u1), .int m_done, .int m_illegal, .int m_traps, .int m_trapAddress, .int u1, .int ((shr u1 (7 : Int32)) &&& (31 : Int32)), .int ((shr u1 (15 : Int32)) &&& (31 : Int32)), .int ((shr u1 (20 : Int32)) &&& (31 : Int32)), .int ((shr u1 (12 : Int32)) &&& (7 : Int32)), .int (sru u1 (26 : Int32)), .int (pX11_step_119_S2 m_vtype), .int (pX11_step_142_S2 m_vtype), .int (pX11_step_85_S2 u1)])), (b_zX, .inl (kI, 32, .inl (pX11_step_255_zX m_choices m_vl m_vtype m_vstart zX zV zO u1))), (b_zV, .inl (kI, 512, .inl (pX11_step_255_zV m_choices m_vl m_vtype m_vstart m_vxrm m_vxsat zX zV zO u1))), (b_zO, .inl (kI, 512, .inl (pX11_step_255_zO m_vtype zV zO u1))), (b_zM, .inl (kI, 1024, .inl zM)), (b_zS, .inl (kZ, 16, .inl zS))] [(0, .ref b_m), (1, .int u1), (2, .int (1 : Int32))] [.int (pX11_step_255_S1 m_vtype m_vstart u1)] 255 (fun hJ15 => ?_) ?_
        · skip
          refine k_icmp_ne (tgt := 232) X dX11_step_222 (by decide) rfl (fun c12 => ?_) (fun c12 => ?_)
          · skip
            refine k_aload_n X dX11_step_225 rfl 1 rfl rfl ?_
            refine k_cV1 (st := []) (ws' := [(b_m, .inr (10, [.int (0 : Int32), .ref b_zX, .ref b_zV, .ref b_zO, .ref b_zM, .ref b_zS, .long m_choices, .int (fX11_sets__m_vl m_choices m_vl m_vtype u1 ((shr u1 (7 : Int32)) &&& (31 : Int32)) ((shr u1 (15 : Int32)) &&& (31 : Int32)) ((shr u1 (20 : Int32)) &&& (31 : Int32)) zX), .int (fX11_sets__m_vtype m_vtype u1 ((shr u1 (7 : Int32)) &&& (31 : Int32)) ((shr u1 (15 : Int32)) &&& (31 : Int32)) ((shr u1 (20 : Int32)) &&& (31 : Int32)) zX), .int m_vstart, .int m_vxrm, .int m_vxsat, .int m_done, .int m_illegal, .int m_traps, .int m_trapAddress, .int u1, .int ((shr u1 (7 : Int32)) &&& (31 : Int32)), .int ((shr u1 (15 : Int32)) &&& (31 : Int32)), .int ((shr u1 (20 : Int32)) &&& (31 : Int32)), .int ((shr u1 (12 : Int32)) &&& (7 : Int32)), .int (sru u1 (26 : Int32)), .int (pX11_step_119_S2 m_vtype), .int (pX11_step_142_S2 m_vtype), .int (pX11_step_85_S2 u1)])), (b_zX, .inl (kI, 32, .inl (fX11_sets__zX m_choices m_vl m_vtype u1 ((shr u1 (7 : Int32)) &&& (31 : Int32)) ((shr u1 (15 : Int32)) &&& (31 : Int32)) ((shr u1 (20 : Int32)) &&& (31 : Int32)) zX))), (b_zV, .inl (kI, 512, .inl zV)), (b_zO, .inl (kI, 512, .inl ((LX11_step_147 zV (kN 512) ((0 : Int32), zO)).2))), (b_zM, .inl (kI, 1024, .inl zM)), (b_zS, .inl (kZ, 16, .inl zS))]) (wr := [(b_zV, .inl (kI, 512, .inl zV)), (b_zO, .inl (kI, 512, .inl ((LX11_step_147 zV (kN 512) ((0 : Int32), zO)).2))), (b_zM, .inl (kI, 1024, .inl zM)), (b_zS, .inl (kZ, 16, .inl zS))]) (ci := 10) (q9 := 0) X [] 0 [0, 1] [2, 3, 4, 5] [4, 5, 0, 1, 2, 3] (kX11_sets l D kI kZ b_m b_zX (0 : Int32) b_zV b_zO b_zM b_zS m_choices m_vl m_vtype m_vstart m_vxrm m_vxsat m_done m_illegal m_traps m_trapAddress u1 ((shr u1 (7 : Int32)) &&& (31 : Int32)) ((shr u1 (15 : Int32)) &&& (31 : Int32)) ((shr u1 (20 : Int32)) &&& (31 : Int32)) ((shr u1 (12 : Int32)) &&& (7 : Int32)) (sru u1 (26 : Int32)) (pX11_step_119_S2 m_vtype) (pX11_step_142_S2 m_vtype) (pX11_step_85_S2 u1) zX (hok.2.2.2.2.1 c8 c9 c10 c11 c12)) vX11_sets q28_1 dX11_step_226 rfl rfl rfl rfl rfl rfl rfl rfl rfl rfl rfl rfl rfl rfl rfl ?_
            refine k_goto (tgt := 255) X dX11_step_229 (by decide) ?_
            have e53 : (pX11_step_255_S1 m_vtype m_vstart u1) = (fX11_sets u1) := by rw [pX11_step_255_S1, if_pos c12]
            rw [e53] at hJ15
            have e54 : (pX11_step_255_m_vl m_choices m_vl m_vtype zX u1) = (fX11_sets__m_vl m_choices m_vl m_vtype u1 ((shr u1 (7 : Int32)) &&& (31 : Int32)) ((shr u1 (15 : Int32)) &&& (31 : Int32)) ((shr u1 (20 : Int32)) &&& (31 : Int32)) zX) := by rw [pX11_step_255_m_vl, if_pos c12]
            rw [e54] at hJ15
            have e55 : (pX11_step_255_m_vtype m_vtype zX u1) = (fX11_sets__m_vtype m_vtype u1 ((shr u1 (7 : Int32)) &&& (31 : Int32)) ((shr u1 (15 : Int32)) &&& (31 : Int32)) ((shr u1 (20 : Int32)) &&& (31 : Int32)) zX) := by rw [pX11_step_255_m_vtype, if_pos c12]
            rw [e55] at hJ15
            have e56 : (pX11_step_255_m_vxsat m_choices m_vl m_vtype m_vstart m_vxrm m_vxsat zX zV zO u1) = m_vxsat := by rw [pX11_step_255_m_vxsat, if_pos c12]
            rw [e56] at hJ15
            have e57 : (pX11_step_255_zX m_choices m_vl m_vtype m_vstart zX zV zO u1) = (fX11_sets__zX m_choices m_vl m_vtype u1 ((shr u1 (7 : Int32)) &&& (31 : Int32)) ((shr u1 (15 : Int32)) &&& (31 : Int32)) ((shr u1 (20 : Int32)) &&& (31 : Int32)) zX) := by rw [pX11_step_255_zX, if_pos c12]
            rw [e57] at hJ15
            have e58 : (pX11_step_255_zV m_choices m_vl m_vtype m_vstart m_vxrm m_vxsat zX zV zO u1) = zV := by rw [pX11_step_255_zV, if_pos c12]
            rw [e58] at hJ15
            have e59 : (pX11_step_255_zO m_vtype zV zO u1) = (LX11_step_147 zV (kN 512) ((0 : Int32), zO)).2 := by rw [pX11_step_255_zO, if_pos c12]
            rw [e59] at hJ15
            exact k_sub [1, 2, 0] rfl hJ15
          refine k_aload_n X dX11_step_232 rfl 1 rfl rfl ?_
          refine k_cV1 (st := []) (ws' := [(b_m, .inr (10, [.int (0 : Int32), .ref b_zX, .ref b_zV, .ref b_zO, .ref b_zM, .ref b_zS, .long m_choices, .int m_vl, .int m_vtype, .int m_vstart, .int m_vxrm, .int m_vxsat, .int m_done, .int m_illegal, .int m_traps, .int m_trapAddress, .int u1, .int ((shr u1 (7 : Int32)) &&& (31 : Int32)), .int ((shr u1 (15 : Int32)) &&& (31 : Int32)), .int ((shr u1 (20 : Int32)) &&& (31 : Int32)), .int ((shr u1 (12 : Int32)) &&& (7 : Int32)), .int (sru u1 (26 : Int32)), .int (pX11_step_119_S2 m_vtype), .int (pX11_step_142_S2 m_vtype), .int (pX11_step_85_S2 u1)])), (b_zX, .inl (kI, 32, .inl zX)), (b_zV, .inl (kI, 512, .inl zV)), (b_zO, .inl (kI, 512, .inl ((LX11_step_147 zV (kN 512) ((0 : Int32), zO)).2))), (b_zM, .inl (kI, 1024, .inl zM)), (b_zS, .inl (kZ, 16, .inl zS))]) (wr := [(b_zX, .inl (kI, 32, .inl zX)), (b_zV, .inl (kI, 512, .inl zV)), (b_zO, .inl (kI, 512, .inl ((LX11_step_147 zV (kN 512) ((0 : Int32), zO)).2))), (b_zM, .inl (kI, 1024, .inl zM)), (b_zS, .inl (kZ, 16, .inl zS))]) (ci := 10) (q9 := 0) X [] 0 [0] [1, 2, 3, 4, 5] [5, 0, 1, 2, 3, 4] (kX11_isIll l D kI kZ b_m (0 : Int32) b_zX b_zV b_zO b_zM b_zS m_choices m_vl m_vtype m_vstart m_vxrm m_vxsat m_done m_illegal m_traps m_trapAddress u1 ((shr u1 (7 : Int32)) &&& (31 : Int32)) ((shr u1 (15 : Int32)) &&& (31 : Int32)) ((shr u1 (20 : Int32)) &&& (31 : Int32)) ((shr u1 (12 : Int32)) &&& (7 : Int32)) (sru u1 (26 : Int32)) (pX11_step_119_S2 m_vtype) (pX11_step_142_S2 m_vtype) (pX11_step_85_S2 u1)) vX11_isIll q27_15 dX11_step_233 rfl rfl rfl rfl rfl rfl rfl rfl rfl rfl rfl rfl rfl rfl rfl ?_
          refine k_if_eq (tgt := 243) X dX11_step_236 (by decide) rfl (fun c13 => ?_) (fun c13 => ?_)
          · skip
            refine k_aload_n X dX11_step_243 rfl 1 rfl rfl ?_
            refine k_cV1 (st := []) (ws' := [(b_m, .inr (10, [.int (0 : Int32), .ref b_zX, .ref b_zV, .ref b_zO, .ref b_zM, .ref b_zS, .long m_choices, .int m_vl, .int m_vtype, .int m_vstart, .int m_vxrm, .int (fX11_works__m_vxsat m_choices m_vl m_vtype m_vstart m_vxrm m_vxsat ((shr u1 (7 : Int32)) &&& (31 : Int32)) ((shr u1 (15 : Int32)) &&& (31 : Int32)) ((shr u1 (20 : Int32)) &&& (31 : Int32)) ((shr u1 (12 : Int32)) &&& (7 : Int32)) (sru u1 (26 : Int32)) (pX11_step_119_S2 m_vtype) (pX11_step_142_S2 m_vtype) (pX11_step_85_S2 u1) zX zV ((LX11_step_147 zV (kN 512) ((0 : Int32), zO)).2)), .int m_done, .int m_illegal, .int m_traps, .int m_trapAddress, .int u1, .int ((shr u1 (7 : Int32)) &&& (31 : Int32)), .int ((shr u1 (15 : Int32)) &&& (31 : Int32)), .int ((shr u1 (20 : Int32)) &&& (31 : Int32)), .int ((shr u1 (12 : Int32)) &&& (7 : Int32)), .int (sru u1 (26 : Int32)), .int (pX11_step_119_S2 m_vtype), .int (pX11_step_142_S2 m_vtype), .int (pX11_step_85_S2 u1)])), (b_zX, .inl (kI, 32, .inl (fX11_works__zX m_vl m_vstart ((shr u1 (7 : Int32)) &&& (31 : Int32)) ((shr u1 (15 : Int32)) &&& (31 : Int32)) ((shr u1 (20 : Int32)) &&& (31 : Int32)) ((shr u1 (12 : Int32)) &&& (7 : Int32)) (sru u1 (26 : Int32)) (pX11_step_119_S2 m_vtype) (pX11_step_85_S2 u1) zX ((LX11_step_147 zV (kN 512) ((0 : Int32), zO)).2)))), (b_zV, .inl (kI, 512, .inl (fX11_works__zV m_choices m_vl m_vtype m_vstart m_vxrm m_vxsat ((shr u1 (7 : Int32)) &&& (31 : Int32)) ((shr u1 (15 : Int32)) &&& (31 : Int32)) ((shr u1 (20 : Int32)) &&& (31 : Int32)) ((shr u1 (12 : Int32)) &&& (7 : Int32)) (sru u1 (26 : Int32)) (pX11_step_119_S2 m_vtype) (pX11_step_142_S2 m_vtype) (pX11_step_85_S2 u1) zX zV ((LX11_step_147 zV (kN 512) ((0 : Int32), zO)).2)))), (b_zO, .inl (kI, 512, .inl ((LX11_step_147 zV (kN 512) ((0 : Int32), zO)).2))), (b_zM, .inl (kI, 1024, .inl zM)), (b_zS, .inl (kZ, 16, .inl zS))]) (wr := [(b_zM, .inl (kI, 1024, .inl zM)), (b_zS, .inl (kZ, 16, .inl zS))]) (ci := 10) (q9 := 0) X [] 0 [0, 1, 2, 3] [4, 5] [2, 3, 4, 5, 0, 1] (kX11_works l D kI kZ b_m b_zX b_zV b_zO (0 : Int32) b_zM b_zS m_choices m_vl m_vtype m_vstart m_vxrm m_vxsat m_done m_illegal m_traps m_trapAddress u1 ((shr u1 (7 : Int32)) &&& (31 : Int32)) ((shr u1 (15 : Int32)) &&& (31 : Int32)) ((shr u1 (20 : Int32)) &&& (31 : Int32)) ((shr u1 (12 : Int32)) &&& (7 : Int32)) (sru u1 (26 : Int32)) (pX11_step_119_S2 m_vtype) (pX11_step_142_S2 m_vtype) (pX11_step_85_S2 u1) zX zV ((LX11_step_147 zV (kN 512) ((0 : Int32), zO)).2) (hok.2.2.2.2.2.1 c8 c9 c10 c11 c12 c13)) vX11_works q28_21 dX11_step_244 rfl rfl rfl rfl rfl rfl rfl rfl rfl rfl rfl rfl rfl rfl rfl ?_
            refine k_if_eq (tgt := 254) X dX11_step_247 (by decide) rfl (fun c14 => ?_) (fun c14 => ?_)
            · skip
              refine k_iconst X dX11_step_254 kc_i_1 rfl ?_
              have e60 : (pX11_step_255_S1 m_vtype m_vstart u1) = (1 : Int32) := by rw [pX11_step_255_S1, if_neg c12, if_pos c13, if_pos c14]
              rw [e60] at hJ15
              have e61 : (pX11_step_255_m_vl m_choices m_vl m_vtype zX u1) = m_vl := by rw [pX11_step_255_m_vl, if_neg c12]
              rw [e61] at hJ15
              have e62 : (pX11_step_255_m_vtype m_vtype zX u1) = m_vtype := by rw [pX11_step_255_m_vtype, if_neg c12]
              rw [e62] at hJ15
              have e63 : (pX11_step_255_m_vxsat m_choices m_vl m_vtype m_vstart m_vxrm m_vxsat zX zV zO u1) = (fX11_works__m_vxsat m_choices m_vl m_vtype m_vstart m_vxrm m_vxsat ((shr u1 (7 : Int32)) &&& (31 : Int32)) ((shr u1 (15 : Int32)) &&& (31 : Int32)) ((shr u1 (20 : Int32)) &&& (31 : Int32)) ((shr u1 (12 : Int32)) &&& (7 : Int32)) (sru u1 (26 : Int32)) (pX11_step_119_S2 m_vtype) (pX11_step_142_S2 m_vtype) (pX11_step_85_S2 u1) zX zV ((LX11_step_147 zV (kN 512) ((0 : Int32), zO)).2)) := by rw [pX11_step_255_m_vxsat, if_neg c12, if_pos c13]
              rw [e63] at hJ15
              have e64 : (pX11_step_255_zX m_choices m_vl m_vtype m_vstart zX zV zO u1) = (fX11_works__zX m_vl m_vstart ((shr u1 (7 : Int32)) &&& (31 : Int32)) ((shr u1 (15 : Int32)) &&& (31 : Int32)) ((shr u1 (20 : Int32)) &&& (31 : Int32)) ((shr u1 (12 : Int32)) &&& (7 : Int32)) (sru u1 (26 : Int32)) (pX11_step_119_S2 m_vtype) (pX11_step_85_S2 u1) zX ((LX11_step_147 zV (kN 512) ((0 : Int32), zO)).2)) := by rw [pX11_step_255_zX, if_neg c12, if_pos c13]
              rw [e64] at hJ15
              have e65 : (pX11_step_255_zV m_choices m_vl m_vtype m_vstart m_vxrm m_vxsat zX zV zO u1) = (fX11_works__zV m_choices m_vl m_vtype m_vstart m_vxrm m_vxsat ((shr u1 (7 : Int32)) &&& (31 : Int32)) ((shr u1 (15 : Int32)) &&& (31 : Int32)) ((shr u1 (20 : Int32)) &&& (31 : Int32)) ((shr u1 (12 : Int32)) &&& (7 : Int32)) (sru u1 (26 : Int32)) (pX11_step_119_S2 m_vtype) (pX11_step_142_S2 m_vtype) (pX11_step_85_S2 u1) zX zV ((LX11_step_147 zV (kN 512) ((0 : Int32), zO)).2)) := by rw [pX11_step_255_zV, if_neg c12, if_pos c13]
              rw [e65] at hJ15
              have e66 : (pX11_step_255_zO m_vtype zV zO u1) = ((LX11_step_147 zV (kN 512) ((0 : Int32), zO)).2) := by rw [pX11_step_255_zO, if_neg c12, if_pos c13]
              rw [e66] at hJ15
              exact k_sub [1, 2, 0] rfl hJ15
            refine k_iconst X dX11_step_250 kc_i_0 rfl ?_
            refine k_goto (tgt := 255) X dX11_step_251 (by decide) ?_
            have e67 : (pX11_step_255_S1 m_vtype m_vstart u1) = (0 : Int32) := by rw [pX11_step_255_S1, if_neg c12, if_pos c13, if_neg c14]
            rw [e67] at hJ15
            have e68 : (pX11_step_255_m_vl m_choices m_vl m_vtype zX u1) = m_vl := by rw [pX11_step_255_m_vl, if_neg c12]
            rw [e68] at hJ15
            have e69 : (pX11_step_255_m_vtype m_vtype zX u1) = m_vtype := by rw [pX11_step_255_m_vtype, if_neg c12]
            rw [e69] at hJ15
            have e70 : (pX11_step_255_m_vxsat m_choices m_vl m_vtype m_vstart m_vxrm m_vxsat zX zV zO u1) = (fX11_works__m_vxsat m_choices m_vl m_vtype m_vstart m_vxrm m_vxsat ((shr u1 (7 : Int32)) &&& (31 : Int32)) ((shr u1 (15 : Int32)) &&& (31 : Int32)) ((shr u1 (20 : Int32)) &&& (31 : Int32)) ((shr u1 (12 : Int32)) &&& (7 : Int32)) (sru u1 (26 : Int32)) (pX11_step_119_S2 m_vtype) (pX11_step_142_S2 m_vtype) (pX11_step_85_S2 u1) zX zV ((LX11_step_147 zV (kN 512) ((0 : Int32), zO)).2)) := by rw [pX11_step_255_m_vxsat, if_neg c12, if_pos c13]
            rw [e70] at hJ15
            have e71 : (pX11_step_255_zX m_choices m_vl m_vtype m_vstart zX zV zO u1) = (fX11_works__zX m_vl m_vstart ((shr u1 (7 : Int32)) &&& (31 : Int32)) ((shr u1 (15 : Int32)) &&& (31 : Int32)) ((shr u1 (20 : Int32)) &&& (31 : Int32)) ((shr u1 (12 : Int32)) &&& (7 : Int32)) (sru u1 (26 : Int32)) (pX11_step_119_S2 m_vtype) (pX11_step_85_S2 u1) zX ((LX11_step_147 zV (kN 512) ((0 : Int32), zO)).2)) := by rw [pX11_step_255_zX, if_neg c12, if_pos c13]
            rw [e71] at hJ15
            have e72 : (pX11_step_255_zV m_choices m_vl m_vtype m_vstart m_vxrm m_vxsat zX zV zO u1) = (fX11_works__zV m_choices m_vl m_vtype m_vstart m_vxrm m_vxsat ((shr u1 (7 : Int32)) &&& (31 : Int32)) ((shr u1 (15 : Int32)) &&& (31 : Int32)) ((shr u1 (20 : Int32)) &&& (31 : Int32)) ((shr u1 (12 : Int32)) &&& (7 : Int32)) (sru u1 (26 : Int32)) (pX11_step_119_S2 m_vtype) (pX11_step_142_S2 m_vtype) (pX11_step_85_S2 u1) zX zV ((LX11_step_147 zV (kN 512) ((0 : Int32), zO)).2)) := by rw [pX11_step_255_zV, if_neg c12, if_pos c13]
            rw [e72] at hJ15
            have e73 : (pX11_step_255_zO m_vtype zV zO u1) = ((LX11_step_147 zV (kN 512) ((0 : Int32), zO)).2) := by rw [pX11_step_255_zO, if_neg c12, if_pos c13]
            rw [e73] at hJ15
            exact k_sub [1, 2, 0] rfl hJ15
          refine k_iconst X dX11_step_239 kc_i_1 rfl ?_
          refine k_goto (tgt := 255) X dX11_step_240 (by decide) ?_
          have e74 : (pX11_step_255_S1 m_vtype m_vstart u1) = (1 : Int32) := by rw [pX11_step_255_S1, if_neg c12, if_neg c13]
          rw [e74] at hJ15
          have e75 : (pX11_step_255_m_vl m_choices m_vl m_vtype zX u1) = m_vl := by rw [pX11_step_255_m_vl, if_neg c12]
          rw [e75] at hJ15
          have e76 : (pX11_step_255_m_vtype m_vtype zX u1) = m_vtype := by rw [pX11_step_255_m_vtype, if_neg c12]
          rw [e76] at hJ15
          have e77 : (pX11_step_255_m_vxsat m_choices m_vl m_vtype m_vstart m_vxrm m_vxsat zX zV zO u1) = m_vxsat := by rw [pX11_step_255_m_vxsat, if_neg c12, if_neg c13]
          rw [e77] at hJ15
          have e78 : (pX11_step_255_zX m_choices m_vl m_vtype m_vstart zX zV zO u1) = zX := by rw [pX11_step_255_zX, if_neg c12, if_neg c13]
          rw [e78] at hJ15
          have e79 : (pX11_step_255_zV m_choices m_vl m_vtype m_vstart m_vxrm m_vxsat zX zV zO u1) = zV := by rw [pX11_step_255_zV, if_neg c12, if_neg c13]
          rw [e79] at hJ15
          have e80 : (pX11_step_255_zO m_vtype zV zO u1) = (LX11_step_147 zV (kN 512) ((0 : Int32), zO)).2 := by rw [pX11_step_255_zO, if_neg c12, if_neg c13]
          rw [e80] at hJ15
          exact k_sub [1, 2, 0] rfl hJ15
        refine k_istore_n (lv' := [(2, .int (pX11_step_255_S1 m_vtype m_vstart u1)), (0, .ref b_m), (1, .int u1)]) X dX11_step_255 rfl rfl rfl rfl ?_
        refine k_goto (tgt := 277) X dX11_step_256 (by decide) ?_
        have e81 : (pX11_step_277_L2 m_choices m_vl m_vtype m_vstart zX zV zO zM zS u1) = (pX11_step_255_S1 m_vtype m_vstart u1) := by rw [pX11_step_277_L2, if_neg c9, if_neg c10, if_pos c11]
        rw [e81] at hJ16
        have e82 : (pX11_step_277_m_vl m_choices m_vl m_vtype m_vstart zX zV zO zM zS u1) = (pX11_step_255_m_vl m_choices m_vl m_vtype zX u1) := by rw [pX11_step_277_m_vl, if_neg c9, if_neg c10, if_pos c11]
        rw [e82] at hJ16
        have e83 : (pX11_step_277_m_vtype m_vtype zX u1) = (pX11_step_255_m_vtype m_vtype zX u1) := by rw [pX11_step_277_m_vtype, if_neg c9, if_neg c10, if_pos c11]
        rw [e83] at hJ16
        have e84 : (pX11_step_277_m_vstart m_choices m_vl m_vtype m_vstart zX zV zO zM zS u1) = m_vstart := by rw [pX11_step_277_m_vstart, if_neg c9, if_neg c10]
        rw [e84] at hJ16
        have e85 : (pX11_step_277_m_vxsat m_choices m_vl m_vtype m_vstart m_vxrm m_vxsat zX zV zO u1) = (pX11_step_255_m_vxsat m_choices m_vl m_vtype m_vstart m_vxrm m_vxsat zX zV zO u1) := by rw [pX11_step_277_m_vxsat, if_neg c9, if_neg c10, if_pos c11]
        rw [e85] at hJ16
        have e86 : (pX11_step_277_m_trapAddress m_choices m_vl m_vtype m_vstart m_trapAddress zX zV zO zM zS u1) = m_trapAddress := by rw [pX11_step_277_m_trapAddress, if_neg c9, if_neg c10]
        rw [e86] at hJ16
        have e87 : (pX11_step_277_zX m_choices m_vl m_vtype m_vstart zX zV zO u1) = (pX11_step_255_zX m_choices m_vl m_vtype m_vstart zX zV zO u1) := by rw [pX11_step_277_zX, if_neg c9, if_neg c10, if_pos c11]
        rw [e87] at hJ16
        have e88 : (pX11_step_277_zV m_choices m_vl m_vtype m_vstart m_vxrm m_vxsat zX zV zO zM zS u1) = (pX11_step_255_zV m_choices m_vl m_vtype m_vstart m_vxrm m_vxsat zX zV zO u1) := by rw [pX11_step_277_zV, if_neg c9, if_neg c10, if_pos c11]
        rw [e88] at hJ16
        have e89 : (pX11_step_277_zO m_vtype zV zO u1) = (pX11_step_255_zO m_vtype zV zO u1) := by rw [pX11_step_277_zO, if_neg c9, if_neg c10, if_pos c11]
        rw [e89] at hJ16
        have e90 : (pX11_step_277_zM m_choices m_vl m_vtype m_vstart zX zV zO zM zS u1) = zM := by rw [pX11_step_277_zM, if_neg c9, if_neg c10]
        rw [e90] at hJ16
        exact k_sub [1, 2, 0] rfl hJ16
      refine k_lkD (tgt := 277) X dX11_step_181 (by decide) [(7 : Int32), (39 : Int32), (87 : Int32)] (List.forall_mem_cons.mpr ⟨c9, (List.forall_mem_cons.mpr ⟨c10, (List.forall_mem_cons.mpr ⟨c11, (fun _ h => absurd h List.not_mem_nil)⟩)⟩)⟩) (by decide +kernel) (by decide) ?_
      have e91 : (pX11_step_277_L2 m_choices m_vl m_vtype m_vstart zX zV zO zM zS u1) = (1 : Int32) := by rw [pX11_step_277_L2, if_neg c9, if_neg c10, if_neg c11]
      rw [e91] at hJ16
      have e92 : (pX11_step_277_m_vl m_choices m_vl m_vtype m_vstart zX zV zO zM zS u1) = m_vl := by rw [pX11_step_277_m_vl, if_neg c9, if_neg c10, if_neg c11]
      rw [e92] at hJ16
      have e93 : (pX11_step_277_m_vtype m_vtype zX u1) = m_vtype := by rw [pX11_step_277_m_vtype, if_neg c9, if_neg c10, if_neg c11]
      rw [e93] at hJ16
      have e94 : (pX11_step_277_m_vstart m_choices m_vl m_vtype m_vstart zX zV zO zM zS u1) = m_vstart := by rw [pX11_step_277_m_vstart, if_neg c9, if_neg c10]
      rw [e94] at hJ16
      have e95 : (pX11_step_277_m_vxsat m_choices m_vl m_vtype m_vstart m_vxrm m_vxsat zX zV zO u1) = m_vxsat := by rw [pX11_step_277_m_vxsat, if_neg c9, if_neg c10, if_neg c11]
      rw [e95] at hJ16
      have e96 : (pX11_step_277_m_trapAddress m_choices m_vl m_vtype m_vstart m_trapAddress zX zV zO zM zS u1) = m_trapAddress := by rw [pX11_step_277_m_trapAddress, if_neg c9, if_neg c10]
      rw [e96] at hJ16
      have e97 : (pX11_step_277_zX m_choices m_vl m_vtype m_vstart zX zV zO u1) = zX := by rw [pX11_step_277_zX, if_neg c9, if_neg c10, if_neg c11]
      rw [e97] at hJ16
      have e98 : (pX11_step_277_zV m_choices m_vl m_vtype m_vstart m_vxrm m_vxsat zX zV zO zM zS u1) = zV := by rw [pX11_step_277_zV, if_neg c9, if_neg c10, if_neg c11]
      rw [e98] at hJ16
      have e99 : (pX11_step_277_zO m_vtype zV zO u1) = (LX11_step_147 zV (kN 512) ((0 : Int32), zO)).2 := by rw [pX11_step_277_zO, if_neg c9, if_neg c10, if_neg c11]
      rw [e99] at hJ16
      have e100 : (pX11_step_277_zM m_choices m_vl m_vtype m_vstart zX zV zO zM zS u1) = zM := by rw [pX11_step_277_zM, if_neg c9, if_neg c10]
      rw [e100] at hJ16
      exact k_sub [1, 2, 0] rfl hJ16
    refine k_iload_n X dX11_step_277 rfl 2 rfl rfl ?_
    refine k_mid2 [(b_m, .inr (10, [.int (0 : Int32), .ref b_zX, .ref b_zV, .ref b_zO, .ref b_zM, .ref b_zS, .long m_choices, .int (pX11_step_277_m_vl m_choices m_vl m_vtype m_vstart zX zV zO zM zS u1), .int (pX11_step_277_m_vtype m_vtype zX u1), .int (pX11_step_277_m_vstart m_choices m_vl m_vtype m_vstart zX zV zO zM zS u1), .int m_vxrm, .int (pX11_step_277_m_vxsat m_choices m_vl m_vtype m_vstart m_vxrm m_vxsat zX zV zO u1), .int (pX11_step_291_m_done m_choices m_vl m_vtype m_vstart m_done zX zV zO zM zS u1), .int m_illegal, .int m_traps, .int (pX11_step_277_m_trapAddress m_choices m_vl m_vtype m_vstart m_trapAddress zX zV zO zM zS u1), .int u1, .int ((shr u1 (7 : Int32)) &&& (31 : Int32)), .int ((shr u1 (15 : Int32)) &&& (31 : Int32)), .int ((shr u1 (20 : Int32)) &&& (31 : Int32)), .int ((shr u1 (12 : Int32)) &&& (7 : Int32)), .int (sru u1 (26 : Int32)), .int (pX11_step_119_S2 m_vtype), .int (pX11_step_142_S2 m_vtype), .int (pX11_step_85_S2 u1)])), (b_zX, .inl (kI, 32, .inl (pX11_step_277_zX m_choices m_vl m_vtype m_vstart zX zV zO u1))), (b_zV, .inl (kI, 512, .inl (pX11_step_277_zV m_choices m_vl m_vtype m_vstart m_vxrm m_vxsat zX zV zO zM zS u1))), (b_zO, .inl (kI, 512, .inl (pX11_step_277_zO m_vtype zV zO u1))), (b_zM, .inl (kI, 1024, .inl (pX11_step_277_zM m_choices m_vl m_vtype m_vstart zX zV zO zM zS u1))), (b_zS, .inl (kZ, 16, .inl zS))] [(0, .ref b_m), (1, .int u1), (2, .int (pX11_step_277_L2 m_choices m_vl m_vtype m_vstart zX zV zO zM zS u1))] [] 291 (fun hJ18 => ?_) ?_
    · skip
      refine k_if_ne (tgt := 291) X dX11_step_278 (by decide) rfl (fun c17 => ?_) (fun c17 => ?_)
      · skip
        refine k_aload_n X dX11_step_281 rfl 0 rfl rfl ?_
        refine k_dup X dX11_step_282 rfl rfl ?_
        refine k_get X i_wsX110 0 12 q27_11 rfl rfl rfl rfl rfl dX11_step_283 rfl ?_
        refine k_iconst X dX11_step_286 kc_i_1 rfl ?_
        refine k_iadd X dX11_step_287 rfl ?_
        refine k_put (ws' := [(b_m, .inr (10, [.int (0 : Int32), .ref b_zX, .ref b_zV, .ref b_zO, .ref b_zM, .ref b_zS, .long m_choices, .int (pX11_step_277_m_vl m_choices m_vl m_vtype m_vstart zX zV zO zM zS u1), .int (pX11_step_277_m_vtype m_vtype zX u1), .int (pX11_step_277_m_vstart m_choices m_vl m_vtype m_vstart zX zV zO zM zS u1), .int m_vxrm, .int (pX11_step_277_m_vxsat m_choices m_vl m_vtype m_vstart m_vxrm m_vxsat zX zV zO u1), .int (m_done + (1 : Int32)), .int m_illegal, .int m_traps, .int (pX11_step_277_m_trapAddress m_choices m_vl m_vtype m_vstart m_trapAddress zX zV zO zM zS u1), .int u1, .int ((shr u1 (7 : Int32)) &&& (31 : Int32)), .int ((shr u1 (15 : Int32)) &&& (31 : Int32)), .int ((shr u1 (20 : Int32)) &&& (31 : Int32)), .int ((shr u1 (12 : Int32)) &&& (7 : Int32)), .int (sru u1 (26 : Int32)), .int (pX11_step_119_S2 m_vtype), .int (pX11_step_142_S2 m_vtype), .int (pX11_step_85_S2 u1)])), (b_zX, .inl (kI, 32, .inl (pX11_step_277_zX m_choices m_vl m_vtype m_vstart zX zV zO u1))), (b_zV, .inl (kI, 512, .inl (pX11_step_277_zV m_choices m_vl m_vtype m_vstart m_vxrm m_vxsat zX zV zO zM zS u1))), (b_zO, .inl (kI, 512, .inl (pX11_step_277_zO m_vtype zV zO u1))), (b_zM, .inl (kI, 1024, .inl (pX11_step_277_zM m_choices m_vl m_vtype m_vstart zX zV zO zM zS u1))), (b_zS, .inl (kZ, 16, .inl zS))]) X i_wsX110 tyX11 tyX11_ok nmX11 0 12 q27_11 rfl rfl rfl rfl rfl rfl rfl rfl rfl dX11_step_288 rfl ?_
        have e101 : (pX11_step_291_m_done m_choices m_vl m_vtype m_vstart m_done zX zV zO zM zS u1) = (m_done + (1 : Int32)) := by rw [pX11_step_291_m_done, if_pos c17]
        rw [e101] at hJ18
        exact k_sub [0, 1, 2] rfl hJ18
      have e102 : (pX11_step_291_m_done m_choices m_vl m_vtype m_vstart m_done zX zV zO zM zS u1) = m_done := by rw [pX11_step_291_m_done, if_neg c17]
      rw [e102] at hJ18
      exact k_sub [0, 1, 2] rfl hJ18
    refine k_iload_n X dX11_step_291 rfl 2 rfl rfl ?_
    refine k_iconst X dX11_step_292 kc_i_1 rfl ?_
    refine k_mid2 [(b_m, .inr (10, [.int (0 : Int32), .ref b_zX, .ref b_zV, .ref b_zO, .ref b_zM, .ref b_zS, .long m_choices, .int (pX11_step_277_m_vl m_choices m_vl m_vtype m_vstart zX zV zO zM zS u1), .int (pX11_step_277_m_vtype m_vtype zX u1), .int (pX11_step_277_m_vstart m_choices m_vl m_vtype m_vstart zX zV zO zM zS u1), .int m_vxrm, .int (pX11_step_277_m_vxsat m_choices m_vl m_vtype m_vstart m_vxrm m_vxsat zX zV zO u1), .int (pX11_step_291_m_done m_choices m_vl m_vtype m_vstart m_done zX zV zO zM zS u1), .int (pX11_step_306_m_illegal m_choices m_vl m_vtype m_vstart m_illegal zX zV zO zM zS u1), .int m_traps, .int (pX11_step_277_m_trapAddress m_choices m_vl m_vtype m_vstart m_trapAddress zX zV zO zM zS u1), .int u1, .int ((shr u1 (7 : Int32)) &&& (31 : Int32)), .int ((shr u1 (15 : Int32)) &&& (31 : Int32)), .int ((shr u1 (20 : Int32)) &&& (31 : Int32)), .int ((shr u1 (12 : Int32)) &&& (7 : Int32)), .int (sru u1 (26 : Int32)), .int (pX11_step_119_S2 m_vtype), .int (pX11_step_142_S2 m_vtype), .int (pX11_step_85_S2 u1)])), (b_zX, .inl (kI, 32, .inl (pX11_step_277_zX m_choices m_vl m_vtype m_vstart zX zV zO u1))), (b_zV, .inl (kI, 512, .inl (pX11_step_277_zV m_choices m_vl m_vtype m_vstart m_vxrm m_vxsat zX zV zO zM zS u1))), (b_zO, .inl (kI, 512, .inl (pX11_step_277_zO m_vtype zV zO u1))), (b_zM, .inl (kI, 1024, .inl (pX11_step_277_zM m_choices m_vl m_vtype m_vstart zX zV zO zM zS u1))), (b_zS, .inl (kZ, 16, .inl zS))] [(0, .ref b_m), (1, .int u1), (2, .int (pX11_step_277_L2 m_choices m_vl m_vtype m_vstart zX zV zO zM zS u1))] [] 306 (fun hJ20 => ?_) ?_
    · skip
      refine k_icmp_ne (tgt := 306) X dX11_step_293 (by decide) rfl (fun c19 => ?_) (fun c19 => ?_)
      · skip
        refine k_aload_n X dX11_step_296 rfl 0 rfl rfl ?_
        refine k_dup X dX11_step_297 rfl rfl ?_
        refine k_get X i_wsX110 0 13 q27_12 rfl rfl rfl rfl rfl dX11_step_298 rfl ?_
        refine k_iconst X dX11_step_301 kc_i_1 rfl ?_
        refine k_iadd X dX11_step_302 rfl ?_
        refine k_put (ws' := [(b_m, .inr (10, [.int (0 : Int32), .ref b_zX, .ref b_zV, .ref b_zO, .ref b_zM, .ref b_zS, .long m_choices, .int (pX11_step_277_m_vl m_choices m_vl m_vtype m_vstart zX zV zO zM zS u1), .int (pX11_step_277_m_vtype m_vtype zX u1), .int (pX11_step_277_m_vstart m_choices m_vl m_vtype m_vstart zX zV zO zM zS u1), .int m_vxrm, .int (pX11_step_277_m_vxsat m_choices m_vl m_vtype m_vstart m_vxrm m_vxsat zX zV zO u1), .int (pX11_step_291_m_done m_choices m_vl m_vtype m_vstart m_done zX zV zO zM zS u1), .int (m_illegal + (1 : Int32)), .int m_traps, .int (pX11_step_277_m_trapAddress m_choices m_vl m_vtype m_vstart m_trapAddress zX zV zO zM zS u1), .int u1, .int ((shr u1 (7 : Int32)) &&& (31 : Int32)), .int ((shr u1 (15 : Int32)) &&& (31 : Int32)), .int ((shr u1 (20 : Int32)) &&& (31 : Int32)), .int ((shr u1 (12 : Int32)) &&& (7 : Int32)), .int (sru u1 (26 : Int32)), .int (pX11_step_119_S2 m_vtype), .int (pX11_step_142_S2 m_vtype), .int (pX11_step_85_S2 u1)])), (b_zX, .inl (kI, 32, .inl (pX11_step_277_zX m_choices m_vl m_vtype m_vstart zX zV zO u1))), (b_zV, .inl (kI, 512, .inl (pX11_step_277_zV m_choices m_vl m_vtype m_vstart m_vxrm m_vxsat zX zV zO zM zS u1))), (b_zO, .inl (kI, 512, .inl (pX11_step_277_zO m_vtype zV zO u1))), (b_zM, .inl (kI, 1024, .inl (pX11_step_277_zM m_choices m_vl m_vtype m_vstart zX zV zO zM zS u1))), (b_zS, .inl (kZ, 16, .inl zS))]) X i_wsX110 tyX11 tyX11_ok nmX11 0 13 q27_12 rfl rfl rfl rfl rfl rfl rfl rfl rfl dX11_step_303 rfl ?_
        have e103 : (pX11_step_306_m_illegal m_choices m_vl m_vtype m_vstart m_illegal zX zV zO zM zS u1) = (m_illegal + (1 : Int32)) := by rw [pX11_step_306_m_illegal, if_pos c19]
        rw [e103] at hJ20
        exact k_sub [0, 1, 2] rfl hJ20
      have e104 : (pX11_step_306_m_illegal m_choices m_vl m_vtype m_vstart m_illegal zX zV zO zM zS u1) = m_illegal := by rw [pX11_step_306_m_illegal, if_neg c19]
      rw [e104] at hJ20
      exact k_sub [0, 1, 2] rfl hJ20
    refine k_iload_n X dX11_step_306 rfl 2 rfl rfl ?_
    refine k_iconst X dX11_step_307 kc_i_2 rfl ?_
    refine k_mid2 [(b_m, .inr (10, [.int (0 : Int32), .ref b_zX, .ref b_zV, .ref b_zO, .ref b_zM, .ref b_zS, .long m_choices, .int (pX11_step_277_m_vl m_choices m_vl m_vtype m_vstart zX zV zO zM zS u1), .int (pX11_step_277_m_vtype m_vtype zX u1), .int (pX11_step_277_m_vstart m_choices m_vl m_vtype m_vstart zX zV zO zM zS u1), .int m_vxrm, .int (pX11_step_277_m_vxsat m_choices m_vl m_vtype m_vstart m_vxrm m_vxsat zX zV zO u1), .int (pX11_step_291_m_done m_choices m_vl m_vtype m_vstart m_done zX zV zO zM zS u1), .int (pX11_step_306_m_illegal m_choices m_vl m_vtype m_vstart m_illegal zX zV zO zM zS u1), .int (pX11_step_321_m_traps m_choices m_vl m_vtype m_vstart m_traps zX zV zO zM zS u1), .int (pX11_step_277_m_trapAddress m_choices m_vl m_vtype m_vstart m_trapAddress zX zV zO zM zS u1), .int u1, .int ((shr u1 (7 : Int32)) &&& (31 : Int32)), .int ((shr u1 (15 : Int32)) &&& (31 : Int32)), .int ((shr u1 (20 : Int32)) &&& (31 : Int32)), .int ((shr u1 (12 : Int32)) &&& (7 : Int32)), .int (sru u1 (26 : Int32)), .int (pX11_step_119_S2 m_vtype), .int (pX11_step_142_S2 m_vtype), .int (pX11_step_85_S2 u1)])), (b_zX, .inl (kI, 32, .inl (pX11_step_277_zX m_choices m_vl m_vtype m_vstart zX zV zO u1))), (b_zV, .inl (kI, 512, .inl (pX11_step_277_zV m_choices m_vl m_vtype m_vstart m_vxrm m_vxsat zX zV zO zM zS u1))), (b_zO, .inl (kI, 512, .inl (pX11_step_277_zO m_vtype zV zO u1))), (b_zM, .inl (kI, 1024, .inl (pX11_step_277_zM m_choices m_vl m_vtype m_vstart zX zV zO zM zS u1))), (b_zS, .inl (kZ, 16, .inl zS))] [(0, .ref b_m), (1, .int u1), (2, .int (pX11_step_277_L2 m_choices m_vl m_vtype m_vstart zX zV zO zM zS u1))] [] 321 (fun hJ22 => ?_) ?_
    · skip
      refine k_icmp_ne (tgt := 321) X dX11_step_308 (by decide) rfl (fun c21 => ?_) (fun c21 => ?_)
      · skip
        refine k_aload_n X dX11_step_311 rfl 0 rfl rfl ?_
        refine k_dup X dX11_step_312 rfl rfl ?_
        refine k_get X i_wsX110 0 14 q27_13 rfl rfl rfl rfl rfl dX11_step_313 rfl ?_
        refine k_iconst X dX11_step_316 kc_i_1 rfl ?_
        refine k_iadd X dX11_step_317 rfl ?_
        refine k_put (ws' := [(b_m, .inr (10, [.int (0 : Int32), .ref b_zX, .ref b_zV, .ref b_zO, .ref b_zM, .ref b_zS, .long m_choices, .int (pX11_step_277_m_vl m_choices m_vl m_vtype m_vstart zX zV zO zM zS u1), .int (pX11_step_277_m_vtype m_vtype zX u1), .int (pX11_step_277_m_vstart m_choices m_vl m_vtype m_vstart zX zV zO zM zS u1), .int m_vxrm, .int (pX11_step_277_m_vxsat m_choices m_vl m_vtype m_vstart m_vxrm m_vxsat zX zV zO u1), .int (pX11_step_291_m_done m_choices m_vl m_vtype m_vstart m_done zX zV zO zM zS u1), .int (pX11_step_306_m_illegal m_choices m_vl m_vtype m_vstart m_illegal zX zV zO zM zS u1), .int (m_traps + (1 : Int32)), .int (pX11_step_277_m_trapAddress m_choices m_vl m_vtype m_vstart m_trapAddress zX zV zO zM zS u1), .int u1, .int ((shr u1 (7 : Int32)) &&& (31 : Int32)), .int ((shr u1 (15 : Int32)) &&& (31 : Int32)), .int ((shr u1 (20 : Int32)) &&& (31 : Int32)), .int ((shr u1 (12 : Int32)) &&& (7 : Int32)), .int (sru u1 (26 : Int32)), .int (pX11_step_119_S2 m_vtype), .int (pX11_step_142_S2 m_vtype), .int (pX11_step_85_S2 u1)])), (b_zX, .inl (kI, 32, .inl (pX11_step_277_zX m_choices m_vl m_vtype m_vstart zX zV zO u1))), (b_zV, .inl (kI, 512, .inl (pX11_step_277_zV m_choices m_vl m_vtype m_vstart m_vxrm m_vxsat zX zV zO zM zS u1))), (b_zO, .inl (kI, 512, .inl (pX11_step_277_zO m_vtype zV zO u1))), (b_zM, .inl (kI, 1024, .inl (pX11_step_277_zM m_choices m_vl m_vtype m_vstart zX zV zO zM zS u1))), (b_zS, .inl (kZ, 16, .inl zS))]) X i_wsX110 tyX11 tyX11_ok nmX11 0 14 q27_13 rfl rfl rfl rfl rfl rfl rfl rfl rfl dX11_step_318 rfl ?_
        have e105 : (pX11_step_321_m_traps m_choices m_vl m_vtype m_vstart m_traps zX zV zO zM zS u1) = (m_traps + (1 : Int32)) := by rw [pX11_step_321_m_traps, if_pos c21]
        rw [e105] at hJ22
        exact k_sub [0, 1, 2] rfl hJ22
      have e106 : (pX11_step_321_m_traps m_choices m_vl m_vtype m_vstart m_traps zX zV zO zM zS u1) = m_traps := by rw [pX11_step_321_m_traps, if_neg c21]
      rw [e106] at hJ22
      exact k_sub [0, 1, 2] rfl hJ22
    refine k_iload_n X dX11_step_321 rfl 2 rfl rfl ?_
    refine k_mid2 [(b_m, .inr (10, [.int (0 : Int32), .ref b_zX, .ref b_zV, .ref b_zO, .ref b_zM, .ref b_zS, .long m_choices, .int (pX11_step_277_m_vl m_choices m_vl m_vtype m_vstart zX zV zO zM zS u1), .int (pX11_step_277_m_vtype m_vtype zX u1), .int (pX11_step_330_m_vstart m_choices m_vl m_vtype m_vstart zX zV zO zM zS u1), .int m_vxrm, .int (pX11_step_277_m_vxsat m_choices m_vl m_vtype m_vstart m_vxrm m_vxsat zX zV zO u1), .int (pX11_step_291_m_done m_choices m_vl m_vtype m_vstart m_done zX zV zO zM zS u1), .int (pX11_step_306_m_illegal m_choices m_vl m_vtype m_vstart m_illegal zX zV zO zM zS u1), .int (pX11_step_321_m_traps m_choices m_vl m_vtype m_vstart m_traps zX zV zO zM zS u1), .int (pX11_step_277_m_trapAddress m_choices m_vl m_vtype m_vstart m_trapAddress zX zV zO zM zS u1), .int u1, .int ((shr u1 (7 : Int32)) &&& (31 : Int32)), .int ((shr u1 (15 : Int32)) &&& (31 : Int32)), .int ((shr u1 (20 : Int32)) &&& (31 : Int32)), .int ((shr u1 (12 : Int32)) &&& (7 : Int32)), .int (sru u1 (26 : Int32)), .int (pX11_step_119_S2 m_vtype), .int (pX11_step_142_S2 m_vtype), .int (pX11_step_85_S2 u1)])), (b_zX, .inl (kI, 32, .inl (pX11_step_277_zX m_choices m_vl m_vtype m_vstart zX zV zO u1))), (b_zV, .inl (kI, 512, .inl (pX11_step_277_zV m_choices m_vl m_vtype m_vstart m_vxrm m_vxsat zX zV zO zM zS u1))), (b_zO, .inl (kI, 512, .inl (pX11_step_277_zO m_vtype zV zO u1))), (b_zM, .inl (kI, 1024, .inl (pX11_step_277_zM m_choices m_vl m_vtype m_vstart zX zV zO zM zS u1))), (b_zS, .inl (kZ, 16, .inl zS))] [(0, .ref b_m), (1, .int u1), (2, .int (pX11_step_277_L2 m_choices m_vl m_vtype m_vstart zX zV zO zM zS u1))] [] 330 (fun hJ24 => ?_) ?_
    · skip
      refine k_if_ne (tgt := 330) X dX11_step_322 (by decide) rfl (fun c23 => ?_) (fun c23 => ?_)
      · skip
        refine k_aload_n X dX11_step_325 rfl 0 rfl rfl ?_
        refine k_iconst X dX11_step_326 kc_i_0 rfl ?_
        refine k_put (ws' := [(b_m, .inr (10, [.int (0 : Int32), .ref b_zX, .ref b_zV, .ref b_zO, .ref b_zM, .ref b_zS, .long m_choices, .int (pX11_step_277_m_vl m_choices m_vl m_vtype m_vstart zX zV zO zM zS u1), .int (pX11_step_277_m_vtype m_vtype zX u1), .int (0 : Int32), .int m_vxrm, .int (pX11_step_277_m_vxsat m_choices m_vl m_vtype m_vstart m_vxrm m_vxsat zX zV zO u1), .int (pX11_step_291_m_done m_choices m_vl m_vtype m_vstart m_done zX zV zO zM zS u1), .int (pX11_step_306_m_illegal m_choices m_vl m_vtype m_vstart m_illegal zX zV zO zM zS u1), .int (pX11_step_321_m_traps m_choices m_vl m_vtype m_vstart m_traps zX zV zO zM zS u1), .int (pX11_step_277_m_trapAddress m_choices m_vl m_vtype m_vstart m_trapAddress zX zV zO zM zS u1), .int u1, .int ((shr u1 (7 : Int32)) &&& (31 : Int32)), .int ((shr u1 (15 : Int32)) &&& (31 : Int32)), .int ((shr u1 (20 : Int32)) &&& (31 : Int32)), .int ((shr u1 (12 : Int32)) &&& (7 : Int32)), .int (sru u1 (26 : Int32)), .int (pX11_step_119_S2 m_vtype), .int (pX11_step_142_S2 m_vtype), .int (pX11_step_85_S2 u1)])), (b_zX, .inl (kI, 32, .inl (pX11_step_277_zX m_choices m_vl m_vtype m_vstart zX zV zO u1))), (b_zV, .inl (kI, 512, .inl (pX11_step_277_zV m_choices m_vl m_vtype m_vstart m_vxrm m_vxsat zX zV zO zM zS u1))), (b_zO, .inl (kI, 512, .inl (pX11_step_277_zO m_vtype zV zO u1))), (b_zM, .inl (kI, 1024, .inl (pX11_step_277_zM m_choices m_vl m_vtype m_vstart zX zV zO zM zS u1))), (b_zS, .inl (kZ, 16, .inl zS))]) X i_wsX110 tyX11 tyX11_ok nmX11 0 9 q27_14 rfl rfl rfl rfl rfl rfl rfl rfl rfl dX11_step_327 rfl ?_
        have e107 : (pX11_step_330_m_vstart m_choices m_vl m_vtype m_vstart zX zV zO zM zS u1) = (0 : Int32) := by rw [pX11_step_330_m_vstart, if_pos c23]
        rw [e107] at hJ24
        exact k_sub [0, 1, 2] rfl hJ24
      have e108 : (pX11_step_330_m_vstart m_choices m_vl m_vtype m_vstart zX zV zO zM zS u1) = (pX11_step_277_m_vstart m_choices m_vl m_vtype m_vstart zX zV zO zM zS u1) := by rw [pX11_step_330_m_vstart, if_neg c23]
      rw [e108] at hJ24
      exact k_sub [0, 1, 2] rfl hJ24
    refine k_iload_n X dX11_step_330 rfl 2 rfl rfl ?_
    have e109 : (fX11_step m_choices m_vl m_vtype m_vstart zX zV zO zM zS u1) = (pX11_step_277_L2 m_choices m_vl m_vtype m_vstart zX zV zO zM zS u1) := by rw [fX11_step]
    have e110 : fX11_step__m_thrown = (0 : Int32) := by rw [fX11_step__m_thrown]
    have e111 : (fX11_step__m_vl m_choices m_vl m_vtype m_vstart zX zV zO zM zS u1) = (pX11_step_277_m_vl m_choices m_vl m_vtype m_vstart zX zV zO zM zS u1) := by rw [fX11_step__m_vl]
    have e112 : (fX11_step__m_vtype m_vtype zX u1) = (pX11_step_277_m_vtype m_vtype zX u1) := by rw [fX11_step__m_vtype]
    have e113 : (fX11_step__m_vstart m_choices m_vl m_vtype m_vstart zX zV zO zM zS u1) = (pX11_step_330_m_vstart m_choices m_vl m_vtype m_vstart zX zV zO zM zS u1) := by rw [fX11_step__m_vstart]
    have e114 : (fX11_step__m_vxsat m_choices m_vl m_vtype m_vstart m_vxrm m_vxsat zX zV zO u1) = (pX11_step_277_m_vxsat m_choices m_vl m_vtype m_vstart m_vxrm m_vxsat zX zV zO u1) := by rw [fX11_step__m_vxsat]
    have e115 : (fX11_step__m_done m_choices m_vl m_vtype m_vstart m_done zX zV zO zM zS u1) = (pX11_step_291_m_done m_choices m_vl m_vtype m_vstart m_done zX zV zO zM zS u1) := by rw [fX11_step__m_done]
    have e116 : (fX11_step__m_illegal m_choices m_vl m_vtype m_vstart m_illegal zX zV zO zM zS u1) = (pX11_step_306_m_illegal m_choices m_vl m_vtype m_vstart m_illegal zX zV zO zM zS u1) := by rw [fX11_step__m_illegal]
    have e117 : (fX11_step__m_traps m_choices m_vl m_vtype m_vstart m_traps zX zV zO zM zS u1) = (pX11_step_321_m_traps m_choices m_vl m_vtype m_vstart m_traps zX zV zO zM zS u1) := by rw [fX11_step__m_traps]
    have e118 : (fX11_step__m_trapAddress m_choices m_vl m_vtype m_vstart m_trapAddress zX zV zO zM zS u1) = (pX11_step_277_m_trapAddress m_choices m_vl m_vtype m_vstart m_trapAddress zX zV zO zM zS u1) := by rw [fX11_step__m_trapAddress]
    have e119 : (fX11_step__m_word u1) = u1 := by rw [fX11_step__m_word]
    have e120 : (fX11_step__m_vd u1) = ((shr u1 (7 : Int32)) &&& (31 : Int32)) := by rw [fX11_step__m_vd]
    have e121 : (fX11_step__m_vs1 u1) = ((shr u1 (15 : Int32)) &&& (31 : Int32)) := by rw [fX11_step__m_vs1]
    have e122 : (fX11_step__m_vs2 u1) = ((shr u1 (20 : Int32)) &&& (31 : Int32)) := by rw [fX11_step__m_vs2]
    have e123 : (fX11_step__m_f3 u1) = ((shr u1 (12 : Int32)) &&& (7 : Int32)) := by rw [fX11_step__m_f3]
    have e124 : (fX11_step__m_f6 u1) = (sru u1 (26 : Int32)) := by rw [fX11_step__m_f6]
    have e125 : (fX11_step__m_sew m_vtype) = (pX11_step_119_S2 m_vtype) := by rw [fX11_step__m_sew]
    have e126 : (fX11_step__m_l8 m_vtype) = (pX11_step_142_S2 m_vtype) := by rw [fX11_step__m_l8]
    have e127 : (fX11_step__m_unmasked u1) = (pX11_step_85_S2 u1) := by rw [fX11_step__m_unmasked]
    have e128 : (fX11_step__zX m_choices m_vl m_vtype m_vstart zX zV zO u1) = (pX11_step_277_zX m_choices m_vl m_vtype m_vstart zX zV zO u1) := by rw [fX11_step__zX]
    have e129 : (fX11_step__zV m_choices m_vl m_vtype m_vstart m_vxrm m_vxsat zX zV zO zM zS u1) = (pX11_step_277_zV m_choices m_vl m_vtype m_vstart m_vxrm m_vxsat zX zV zO zM zS u1) := by rw [fX11_step__zV]
    have e130 : (fX11_step__zO m_vtype zV zO u1) = (pX11_step_277_zO m_vtype zV zO u1) := by rw [fX11_step__zO]
    have e131 : (fX11_step__zM m_choices m_vl m_vtype m_vstart zX zV zO zM zS u1) = (pX11_step_277_zM m_choices m_vl m_vtype m_vstart zX zV zO zM zS u1) := by rw [fX11_step__zM]
    exact k_iret9 X hRt hLk e109.symm (by rw [e110, e111, e112, e113, e114, e115, e116, e117, e118, e119, e120, e121, e122, e123, e124, e125, e126, e127, e128, e129, e130, e131]) dX11_step_331
  refine k_aload_n X dX11_step_154 rfl 0 rfl rfl ?_
  refine k_get X i_wsX110 0 3 q5_19 rfl rfl rfl rfl rfl dX11_step_155 rfl ?_
  refine k_iload_n X dX11_step_158 rfl 2 rfl rfl ?_
  refine k_aload_n X dX11_step_159 rfl 0 rfl rfl ?_
  refine k_get X i_wsX110 0 2 q5_18 rfl rfl rfl rfl rfl dX11_step_160 rfl ?_
  refine k_iload_n X dX11_step_163 rfl 2 rfl rfl ?_
  refine k_iald X 2 0 rfl rfl (hok.2.2.2.2.2.2 c8) dX11_step_164 rfl ?_
  refine k_iast (ws' := [(b_m, .inr (10, [.int (0 : Int32), .ref b_zX, .ref b_zV, .ref b_zO, .ref b_zM, .ref b_zS, .long m_choices, .int m_vl, .int m_vtype, .int m_vstart, .int m_vxrm, .int m_vxsat, .int m_done, .int m_illegal, .int m_traps, .int m_trapAddress, .int u1, .int ((shr u1 (7 : Int32)) &&& (31 : Int32)), .int ((shr u1 (15 : Int32)) &&& (31 : Int32)), .int ((shr u1 (20 : Int32)) &&& (31 : Int32)), .int ((shr u1 (12 : Int32)) &&& (7 : Int32)), .int (sru u1 (26 : Int32)), .int (pX11_step_119_S2 m_vtype), .int (pX11_step_142_S2 m_vtype), .int (pX11_step_85_S2 u1)])), (b_zX, .inl (kI, 32, .inl zX)), (b_zV, .inl (kI, 512, .inl zV)), (b_zO, .inl (kI, 512, .inl (upd ((LX11_step_147 zV (kN 512) ((0 : Int32), zO)).2) (Int32.toNatClampNeg ((LX11_step_147 zV (kN 512) ((0 : Int32), zO)).1)) (zV (Int32.toNatClampNeg ((LX11_step_147 zV (kN 512) ((0 : Int32), zO)).1)))))), (b_zM, .inl (kI, 1024, .inl zM)), (b_zS, .inl (kZ, 16, .inl zS))]) X 3 0 rfl rfl (hok.2.2.2.2.2.2 c8) rfl dX11_step_165 rfl ?_
  refine k_iinc (lv' := [(2, .int ((LX11_step_147 zV (kN 512) ((0 : Int32), zO)).1 + (1 : Int32))), (0, .ref b_m), (1, .int u1)]) X dX11_step_166 2 rfl kc_i_1 rfl rfl rfl ?_
  refine k_goto (tgt := 147) X dX11_step_169 (by decide) ?_
  exact absurd (show tX11_step_147 ((LX11_step_147 zV (kN 512) ((0 : Int32), zO)).1) ((LX11_step_147 zV (kN 512) ((0 : Int32), zO)).2) from by rw [tX11_step_147, if_neg c8]; exact True.intro) (hok.2.1)
theorem vX11_step : kVi yX11_step cX11_step 3 (some .int) 1 := ⟨q27_0, q1_5, q26_22, q26_23, by decide, by decide +kernel⟩
