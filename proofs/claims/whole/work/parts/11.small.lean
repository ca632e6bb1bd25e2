noncomputable def pX3_take_72_S2 (u1 : Int32) : Int32 := (if ((sru u1 (25 : Int32)) &&& (1 : Int32)) = (0 : Int32) then (1 : Int32) else (0 : Int32))
theorem zpX3_take_72_S2 (u1 : Int32) : narrow .boolean (.int (pX3_take_72_S2 u1)) = .int (pX3_take_72_S2 u1) := by unfold pX3_take_72_S2; exact (kzi rfl rfl)
noncomputable def fX3_take__i_bits (u1 : Int32) : Int32 := u1
noncomputable def fX3_take__i_code (u1 : Int32) : Int32 := (u1 &&& (127 : Int32))
noncomputable def fX3_take__i_form (u1 : Int32) : Int32 := ((sru u1 (12 : Int32)) &&& (7 : Int32))
noncomputable def fX3_take__i_rd (u1 : Int32) : Int32 := ((sru u1 (7 : Int32)) &&& (31 : Int32))
noncomputable def fX3_take__i_rs1 (u1 : Int32) : Int32 := ((sru u1 (15 : Int32)) &&& (31 : Int32))
noncomputable def fX3_take__i_rs2 (u1 : Int32) : Int32 := ((sru u1 (20 : Int32)) &&& (31 : Int32))
noncomputable def fX3_take__i_high (u1 : Int32) : Int32 := (sru u1 (26 : Int32))
noncomputable def fX3_take__i_masked (u1 : Int32) : Int32 := (pX3_take_72_S2 u1)
set_option maxRecDepth 100000 in
set_option maxHeartbeats 4000000 in
theorem kX3_take (l : Launch) (D : va_G) (kI kZ : ClassId) (b_i : Nat) (i_bits : Int32) (i_code : Int32) (i_form : Int32) (i_rd : Int32) (i_rs1 : Int32) (i_rs2 : Int32) (i_high : Int32) (i_masked : Int32) (u1 : Int32) : kM l yX3_take cX3_take 2 none 0 0 0 0 D [(kI, .int), (kZ, .boolean)] [.ref b_i, .int u1] [(b_i, .inr (2, [.int i_bits, .int i_code, .int i_form, .int i_rd, .int i_rs1, .int i_rs2, .int i_high, .int i_masked]))] none [(b_i, .inr (2, [.int (fX3_take__i_bits u1), .int (fX3_take__i_code u1), .int (fX3_take__i_form u1), .int (fX3_take__i_rd u1), .int (fX3_take__i_rs1 u1), .int (fX3_take__i_rs2 u1), .int (fX3_take__i_high u1), .int (fX3_take__i_masked u1)]))] := by
  refine kM.of (by decide) rfl ?_
  intro p e R s m args below meth c A X _ _ hRt hLk
  refine k_sub [0, 1] (lv' := [(0, .ref b_i), (1, .int u1)]) rfl ?_
  refine k_aload_n X dX3_take_0 rfl 0 rfl rfl ?_
  refine k_iload_n X dX3_take_1 rfl 1 rfl rfl ?_
  refine k_put (ws' := [(b_i, .inr (2, [.int u1, .int i_code, .int i_form, .int i_rd, .int i_rs1, .int i_rs2, .int i_high, .int i_masked]))]) X i_wsX30 tyX3 tyX3_ok nmX3 0 0 q6_15 rfl rfl rfl rfl rfl rfl rfl rfl rfl dX3_take_2 rfl ?_
  refine k_aload_n X dX3_take_5 rfl 0 rfl rfl ?_
  refine k_iload_n X dX3_take_6 rfl 1 rfl rfl ?_
  refine k_bipush X dX3_take_7 kc_b_127 rfl ?_
  refine k_iand X dX3_take_9 rfl ?_
  refine k_put (ws' := [(b_i, .inr (2, [.int u1, .int (u1 &&& (127 : Int32)), .int i_form, .int i_rd, .int i_rs1, .int i_rs2, .int i_high, .int i_masked]))]) X i_wsX30 tyX3 tyX3_ok nmX3 0 1 q6_16 rfl rfl rfl rfl rfl rfl rfl rfl rfl dX3_take_10 rfl ?_
  refine k_aload_n X dX3_take_13 rfl 0 rfl rfl ?_
  refine k_iload_n X dX3_take_14 rfl 1 rfl rfl ?_
  refine k_bipush X dX3_take_15 kc_b_7 rfl ?_
  refine k_iushr X dX3_take_17 rfl ?_
  refine k_bipush X dX3_take_18 kc_b_31 rfl ?_
  refine k_iand X dX3_take_20 rfl ?_
  refine k_put (ws' := [(b_i, .inr (2, [.int u1, .int (u1 &&& (127 : Int32)), .int i_form, .int ((sru u1 (7 : Int32)) &&& (31 : Int32)), .int i_rs1, .int i_rs2, .int i_high, .int i_masked]))]) X i_wsX30 tyX3 tyX3_ok nmX3 0 3 q6_17 rfl rfl rfl rfl rfl rfl rfl rfl rfl dX3_take_21 rfl ?_
  refine k_aload_n X dX3_take_24 rfl 0 rfl rfl ?_
  refine k_iload_n X dX3_take_25 rfl 1 rfl rfl ?_
  refine k_bipush X dX3_take_26 kc_b_12 rfl ?_
  refine k_iushr X dX3_take_28 rfl ?_
  refine k_bipush X dX3_take_29 kc_b_7 rfl ?_
  refine k_iand X dX3_take_31 rfl ?_
  refine k_put (ws' := [(b_i, .inr (2, [.int u1, .int (u1 &&& (127 : Int32)), .int ((sru u1 (12 : Int32)) &&& (7 : Int32)), .int ((sru u1 (7 : Int32)) &&& (31 : Int32)), .int i_rs1, .int i_rs2, .int i_high, .int i_masked]))]) X i_wsX30 tyX3 tyX3_ok nmX3 0 2 q6_18 rfl rfl rfl rfl rfl rfl rfl rfl rfl dX3_take_32 rfl ?_
  refine k_aload_n X dX3_take_35 rfl 0 rfl rfl ?_
  refine k_iload_n X dX3_take_36 rfl 1 rfl rfl ?_
  refine k_bipush X dX3_take_37 kc_b_15 rfl ?_
  refine k_iushr X dX3_take_39 rfl ?_
  refine k_bipush X dX3_take_40 kc_b_31 rfl ?_
  refine k_iand X dX3_take_42 rfl ?_
  refine k_put (ws' := [(b_i, .inr (2, [.int u1, .int (u1 &&& (127 : Int32)), .int ((sru u1 (12 : Int32)) &&& (7 : Int32)), .int ((sru u1 (7 : Int32)) &&& (31 : Int32)), .int ((sru u1 (15 : Int32)) &&& (31 : Int32)), .int i_rs2, .int i_high, .int i_masked]))]) X i_wsX30 tyX3 tyX3_ok nmX3 0 4 q6_19 rfl rfl rfl rfl rfl rfl rfl rfl rfl dX3_take_43 rfl ?_
  refine k_aload_n X dX3_take_46 rfl 0 rfl rfl ?_
  refine k_iload_n X dX3_take_47 rfl 1 rfl rfl ?_
  refine k_bipush X dX3_take_48 kc_b_20 rfl ?_
  refine k_iushr X dX3_take_50 rfl ?_
  refine k_bipush X dX3_take_51 kc_b_31 rfl ?_
  refine k_iand X dX3_take_53 rfl ?_
  refine k_put (ws' := [(b_i, .inr (2, [.int u1, .int (u1 &&& (127 : Int32)), .int ((sru u1 (12 : Int32)) &&& (7 : Int32)), .int ((sru u1 (7 : Int32)) &&& (31 : Int32)), .int ((sru u1 (15 : Int32)) &&& (31 : Int32)), .int ((sru u1 (20 : Int32)) &&& (31 : Int32)), .int i_high, .int i_masked]))]) X i_wsX30 tyX3 tyX3_ok nmX3 0 5 q6_20 rfl rfl rfl rfl rfl rfl rfl rfl rfl dX3_take_54 rfl ?_
  refine k_aload_n X dX3_take_57 rfl 0 rfl rfl ?_
  refine k_iload_n X dX3_take_58 rfl 1 rfl rfl ?_
  refine k_bipush X dX3_take_59 kc_b_25 rfl ?_
  refine k_iushr X dX3_take_61 rfl ?_
  refine k_iconst X dX3_take_62 kc_i_1 rfl ?_
  refine k_iand X dX3_take_63 rfl ?_
  refine k_mid2 [(b_i, .inr (2, [.int u1, .int (u1 &&& (127 : Int32)), .int ((sru u1 (12 : Int32)) &&& (7 : Int32)), .int ((sru u1 (7 : Int32)) &&& (31 : Int32)), .int ((sru u1 (15 : Int32)) &&& (31 : Int32)), .int ((sru u1 (20 : Int32)) &&& (31 : Int32)), .int i_high, .int i_masked]))] [(0, .ref b_i), (1, .int u1)] [.int (pX3_take_72_S2 u1), .ref b_i] 72 (fun hJ2 => ?_) ?_
  · skip
    refine k_if_ne (tgt := 71) X dX3_take_64 (by decide) rfl (fun c1 => ?_) (fun c1 => ?_)
    · skip
      refine k_iconst X dX3_take_67 kc_i_1 rfl ?_
      refine k_goto (tgt := 72) X dX3_take_68 (by decide) ?_
      have e3 : (pX3_take_72_S2 u1) = (1 : Int32) := by rw [pX3_take_72_S2, if_pos c1]
      rw [e3] at hJ2
      exact k_sub [0, 1] rfl hJ2
    refine k_iconst X dX3_take_71 kc_i_0 rfl ?_
    have e4 : (pX3_take_72_S2 u1) = (0 : Int32) := by rw [pX3_take_72_S2, if_neg c1]
    rw [e4] at hJ2
    exact k_sub [0, 1] rfl hJ2
  refine k_put (ws' := [(b_i, .inr (2, [.int u1, .int (u1 &&& (127 : Int32)), .int ((sru u1 (12 : Int32)) &&& (7 : Int32)), .int ((sru u1 (7 : Int32)) &&& (31 : Int32)), .int ((sru u1 (15 : Int32)) &&& (31 : Int32)), .int ((sru u1 (20 : Int32)) &&& (31 : Int32)), .int i_high, .int (pX3_take_72_S2 u1)]))]) X i_wsX30 tyX3 tyX3_ok nmX3 0 7 q6_21 rfl rfl rfl rfl rfl (zpX3_take_72_S2 u1) (kFz (zpX3_take_72_S2 u1)) rfl rfl dX3_take_72 rfl ?_
  refine k_aload_n X dX3_take_75 rfl 0 rfl rfl ?_
  refine k_iload_n X dX3_take_76 rfl 1 rfl rfl ?_
  refine k_bipush X dX3_take_77 kc_b_26 rfl ?_
  refine k_iushr X dX3_take_79 rfl ?_
  refine k_put (ws' := [(b_i, .inr (2, [.int u1, .int (u1 &&& (127 : Int32)), .int ((sru u1 (12 : Int32)) &&& (7 : Int32)), .int ((sru u1 (7 : Int32)) &&& (31 : Int32)), .int ((sru u1 (15 : Int32)) &&& (31 : Int32)), .int ((sru u1 (20 : Int32)) &&& (31 : Int32)), .int (sru u1 (26 : Int32)), .int (pX3_take_72_S2 u1)]))]) X i_wsX30 tyX3 tyX3_ok nmX3 0 6 q6_22 rfl rfl rfl rfl rfl rfl rfl rfl rfl dX3_take_80 rfl ?_
  have e5 : (fX3_take__i_bits u1) = u1 := by rw [fX3_take__i_bits]
  have e6 : (fX3_take__i_code u1) = (u1 &&& (127 : Int32)) := by rw [fX3_take__i_code]
  have e7 : (fX3_take__i_form u1) = ((sru u1 (12 : Int32)) &&& (7 : Int32)) := by rw [fX3_take__i_form]
  have e8 : (fX3_take__i_rd u1) = ((sru u1 (7 : Int32)) &&& (31 : Int32)) := by rw [fX3_take__i_rd]
  have e9 : (fX3_take__i_rs1 u1) = ((sru u1 (15 : Int32)) &&& (31 : Int32)) := by rw [fX3_take__i_rs1]
  have e10 : (fX3_take__i_rs2 u1) = ((sru u1 (20 : Int32)) &&& (31 : Int32)) := by rw [fX3_take__i_rs2]
  have e11 : (fX3_take__i_high u1) = (sru u1 (26 : Int32)) := by rw [fX3_take__i_high]
  have e12 : (fX3_take__i_masked u1) = (pX3_take_72_S2 u1) := by rw [fX3_take__i_masked]
  exact k_vret X hRt hLk (by rw [e5, e6, e7, e8, e9, e10, e11, e12]) dX3_take_83
theorem vX3_take : kVi yX3_take cX3_take 2 none 1 := ⟨q6_14, q2_0, q6_12, q6_13, by decide, by decide +kernel⟩
noncomputable def pX3_takesVector_20_S1 (i_form : Int32) : Int32 := (if i_form = (0 : Int32) then (1 : Int32) else (if i_form = (2 : Int32) then (1 : Int32) else (0 : Int32)))
theorem zpX3_takesVector_20_S1 (i_form : Int32) : narrow .boolean (.int (pX3_takesVector_20_S1 i_form)) = .int (pX3_takesVector_20_S1 i_form) := by unfold pX3_takesVector_20_S1; exact (kzi rfl (kzi rfl rfl))
noncomputable def fX3_takesVector (i_form : Int32) : Int32 := (pX3_takesVector_20_S1 i_form)
theorem zX3_takesVector (i_form : Int32) : narrow .boolean (.int (fX3_takesVector i_form)) = .int (fX3_takesVector i_form) := by unfold fX3_takesVector; exact (zpX3_takesVector_20_S1 i_form)
set_option maxRecDepth 100000 in
set_option maxHeartbeats 4000000 in
theorem kX3_takesVector (l : Launch) (D : va_G) (kI kZ : ClassId) (b_i : Nat) (i_bits : Int32) (i_code : Int32) (i_form : Int32) (i_rd : Int32) (i_rs1 : Int32) (i_rs2 : Int32) (i_high : Int32) (i_masked : Int32) : kM l yX3_takesVector cX3_takesVector 1 (some .boolean) 0 0 0 0 D [(kI, .int), (kZ, .boolean)] [.ref b_i] [(b_i, .inr (2, [.int i_bits, .int i_code, .int i_form, .int i_rd, .int i_rs1, .int i_rs2, .int i_high, .int i_masked]))] (some (.int (fX3_takesVector i_form))) [(b_i, .inr (2, [.int i_bits, .int i_code, .int i_form, .int i_rd, .int i_rs1, .int i_rs2, .int i_high, .int i_masked]))] := by
  refine kM.of (by decide) rfl ?_
  intro p e R s m args below meth c A X _ _ hRt hLk
  refine k_sub [0] (lv' := [(0, .ref b_i)]) rfl ?_
  refine k_aload_n X dX3_takesVector_0 rfl 0 rfl rfl ?_
  refine k_get X i_wsX30 0 2 q6_18 rfl rfl rfl rfl rfl dX3_takesVector_1 rfl ?_
  refine k_mid2 [(b_i, .inr (2, [.int i_bits, .int i_code, .int i_form, .int i_rd, .int i_rs1, .int i_rs2, .int i_high, .int i_masked]))] [(0, .ref b_i)] [.int (pX3_takesVector_20_S1 i_form)] 20 (fun hJ3 => ?_) ?_
  · skip
    refine k_if_eq (tgt := 15) X dX3_takesVector_4 (by decide) rfl (fun c1 => ?_) (fun c1 => ?_)
    · skip
      refine k_iconst X dX3_takesVector_15 kc_i_1 rfl ?_
      refine k_goto (tgt := 20) X dX3_takesVector_16 (by decide) ?_
      have e4 : (pX3_takesVector_20_S1 i_form) = (1 : Int32) := by rw [pX3_takesVector_20_S1, if_pos c1]
      rw [e4] at hJ3
      exact k_sub [0] rfl hJ3
    refine k_aload_n X dX3_takesVector_7 rfl 0 rfl rfl ?_
    refine k_get X i_wsX30 0 2 q6_18 rfl rfl rfl rfl rfl dX3_takesVector_8 rfl ?_
    refine k_iconst X dX3_takesVector_11 kc_i_2 rfl ?_
    refine k_icmp_ne (tgt := 19) X dX3_takesVector_12 (by decide) rfl (fun c2 => ?_) (fun c2 => ?_)
    · skip
      refine k_iconst X dX3_takesVector_15 kc_i_1 rfl ?_
      refine k_goto (tgt := 20) X dX3_takesVector_16 (by decide) ?_
      have e5 : (pX3_takesVector_20_S1 i_form) = (1 : Int32) := by rw [pX3_takesVector_20_S1, if_neg c1, if_pos c2]
      rw [e5] at hJ3
      exact k_sub [0] rfl hJ3
    refine k_iconst X dX3_takesVector_19 kc_i_0 rfl ?_
    have e6 : (pX3_takesVector_20_S1 i_form) = (0 : Int32) := by rw [pX3_takesVector_20_S1, if_neg c1, if_neg c2]
    rw [e6] at hJ3
    exact k_sub [0] rfl hJ3
  have e7 : (fX3_takesVector i_form) = (pX3_takesVector_20_S1 i_form) := by rw [fX3_takesVector]
  exact k_zret9 X hRt hLk (zpX3_takesVector_20_S1 i_form) e7.symm rfl dX3_takesVector_20
theorem vX3_takesVector : kVi yX3_takesVector cX3_takesVector 1 (some .boolean) 0 := ⟨q17_7, q2_0, q17_5, q17_6, by decide, by decide +kernel⟩
noncomputable def pX3_takesNumber_13_S1 (i_form : Int32) : Int32 := (if i_form = (3 : Int32) then (1 : Int32) else (0 : Int32))
theorem zpX3_takesNumber_13_S1 (i_form : Int32) : narrow .boolean (.int (pX3_takesNumber_13_S1 i_form)) = .int (pX3_takesNumber_13_S1 i_form) := by unfold pX3_takesNumber_13_S1; exact (kzi rfl rfl)
noncomputable def fX3_takesNumber (i_form : Int32) : Int32 := (pX3_takesNumber_13_S1 i_form)
theorem zX3_takesNumber (i_form : Int32) : narrow .boolean (.int (fX3_takesNumber i_form)) = .int (fX3_takesNumber i_form) := by unfold fX3_takesNumber; exact (zpX3_takesNumber_13_S1 i_form)
set_option maxRecDepth 100000 in
set_option maxHeartbeats 4000000 in
theorem kX3_takesNumber (l : Launch) (D : va_G) (kI kZ : ClassId) (b_i : Nat) (i_bits : Int32) (i_code : Int32) (i_form : Int32) (i_rd : Int32) (i_rs1 : Int32) (i_rs2 : Int32) (i_high : Int32) (i_masked : Int32) : kM l yX3_takesNumber cX3_takesNumber 1 (some .boolean) 0 0 0 0 D [(kI, .int), (kZ, .boolean)] [.ref b_i] [(b_i, .inr (2, [.int i_bits, .int i_code, .int i_form, .int i_rd, .int i_rs1, .int i_rs2, .int i_high, .int i_masked]))] (some (.int (fX3_takesNumber i_form))) [(b_i, .inr (2, [.int i_bits, .int i_code, .int i_form, .int i_rd, .int i_rs1, .int i_rs2, .int i_high, .int i_masked]))] := by
  refine kM.of (by decide) rfl ?_
  intro p e R s m args below meth c A X _ _ hRt hLk
  refine k_sub [0] (lv' := [(0, .ref b_i)]) rfl ?_
  refine k_aload_n X dX3_takesNumber_0 rfl 0 rfl rfl ?_
  refine k_get X i_wsX30 0 2 q6_18 rfl rfl rfl rfl rfl dX3_takesNumber_1 rfl ?_
  refine k_iconst X dX3_takesNumber_4 kc_i_3 rfl ?_
  refine k_mid2 [(b_i, .inr (2, [.int i_bits, .int i_code, .int i_form, .int i_rd, .int i_rs1, .int i_rs2, .int i_high, .int i_masked]))] [(0, .ref b_i)] [.int (pX3_takesNumber_13_S1 i_form)] 13 (fun hJ2 => ?_) ?_
  · skip
    refine k_icmp_ne (tgt := 12) X dX3_takesNumber_5 (by decide) rfl (fun c1 => ?_) (fun c1 => ?_)
    · skip
      refine k_iconst X dX3_takesNumber_8 kc_i_1 rfl ?_
      refine k_goto (tgt := 13) X dX3_takesNumber_9 (by decide) ?_
      have e3 : (pX3_takesNumber_13_S1 i_form) = (1 : Int32) := by rw [pX3_takesNumber_13_S1, if_pos c1]
      rw [e3] at hJ2
      exact k_sub [0] rfl hJ2
    refine k_iconst X dX3_takesNumber_12 kc_i_0 rfl ?_
    have e4 : (pX3_takesNumber_13_S1 i_form) = (0 : Int32) := by rw [pX3_takesNumber_13_S1, if_neg c1]
    rw [e4] at hJ2
    exact k_sub [0] rfl hJ2
  have e5 : (fX3_takesNumber i_form) = (pX3_takesNumber_13_S1 i_form) := by rw [fX3_takesNumber]
  exact k_zret9 X hRt hLk (zpX3_takesNumber_13_S1 i_form) e5.symm rfl dX3_takesNumber_13
theorem vX3_takesNumber : kVi yX3_takesNumber cX3_takesNumber 1 (some .boolean) 0 := ⟨q17_11, q2_0, q17_9, q17_10, by decide, by decide +kernel⟩
noncomputable def pX3_operation_31_S1 (i_form : Int32) (i_high : Int32) : Int32 := (if i_form = (2 : Int32) then ((64 : Int32) + i_high) else (if i_form = (6 : Int32) then ((64 : Int32) + i_high) else i_high))
noncomputable def fX3_operation (i_form : Int32) (i_high : Int32) : Int32 := (pX3_operation_31_S1 i_form i_high)
set_option maxRecDepth 100000 in
set_option maxHeartbeats 4000000 in
theorem kX3_operation (l : Launch) (D : va_G) (kI kZ : ClassId) (b_i : Nat) (i_bits : Int32) (i_code : Int32) (i_form : Int32) (i_rd : Int32) (i_rs1 : Int32) (i_rs2 : Int32) (i_high : Int32) (i_masked : Int32) : kM l yX3_operation cX3_operation 1 (some .int) 0 0 0 0 D [(kI, .int), (kZ, .boolean)] [.ref b_i] [(b_i, .inr (2, [.int i_bits, .int i_code, .int i_form, .int i_rd, .int i_rs1, .int i_rs2, .int i_high, .int i_masked]))] (some (.int (fX3_operation i_form i_high))) [(b_i, .inr (2, [.int i_bits, .int i_code, .int i_form, .int i_rd, .int i_rs1, .int i_rs2, .int i_high, .int i_masked]))] := by
  refine kM.of (by decide) rfl ?_
  intro p e R s m args below meth c A X _ _ hRt hLk
  refine k_sub [0] (lv' := [(0, .ref b_i)]) rfl ?_
  refine k_aload_n X dX3_operation_0 rfl 0 rfl rfl ?_
  refine k_get X i_wsX30 0 2 q6_18 rfl rfl rfl rfl rfl dX3_operation_1 rfl ?_
  refine k_iconst X dX3_operation_4 kc_i_2 rfl ?_
  refine k_mid2 [(b_i, .inr (2, [.int i_bits, .int i_code, .int i_form, .int i_rd, .int i_rs1, .int i_rs2, .int i_high, .int i_masked]))] [(0, .ref b_i)] [.int (pX3_operation_31_S1 i_form i_high)] 31 (fun hJ3 => ?_) ?_
  · skip
    refine k_icmp_eq (tgt := 17) X dX3_operation_5 (by decide) rfl (fun c1 => ?_) (fun c1 => ?_)
    · skip
      refine k_bipush X dX3_operation_17 kc_b_64 rfl ?_
      refine k_aload_n X dX3_operation_19 rfl 0 rfl rfl ?_
      refine k_get X i_wsX30 0 6 q6_22 rfl rfl rfl rfl rfl dX3_operation_20 rfl ?_
      refine k_iadd X dX3_operation_23 rfl ?_
      refine k_goto (tgt := 31) X dX3_operation_24 (by decide) ?_
      have e4 : (pX3_operation_31_S1 i_form i_high) = ((64 : Int32) + i_high) := by rw [pX3_operation_31_S1, if_pos c1]
      rw [e4] at hJ3
      exact k_sub [0] rfl hJ3
    refine k_aload_n X dX3_operation_8 rfl 0 rfl rfl ?_
    refine k_get X i_wsX30 0 2 q6_18 rfl rfl rfl rfl rfl dX3_operation_9 rfl ?_
    refine k_bipush X dX3_operation_12 kc_b_6 rfl ?_
    refine k_icmp_ne (tgt := 27) X dX3_operation_14 (by decide) rfl (fun c2 => ?_) (fun c2 => ?_)
    · skip
      refine k_bipush X dX3_operation_17 kc_b_64 rfl ?_
      refine k_aload_n X dX3_operation_19 rfl 0 rfl rfl ?_
      refine k_get X i_wsX30 0 6 q6_22 rfl rfl rfl rfl rfl dX3_operation_20 rfl ?_
      refine k_iadd X dX3_operation_23 rfl ?_
      refine k_goto (tgt := 31) X dX3_operation_24 (by decide) ?_
      have e5 : (pX3_operation_31_S1 i_form i_high) = ((64 : Int32) + i_high) := by rw [pX3_operation_31_S1, if_neg c1, if_pos c2]
      rw [e5] at hJ3
      exact k_sub [0] rfl hJ3
    refine k_aload_n X dX3_operation_27 rfl 0 rfl rfl ?_
    refine k_get X i_wsX30 0 6 q6_22 rfl rfl rfl rfl rfl dX3_operation_28 rfl ?_
    have e6 : (pX3_operation_31_S1 i_form i_high) = i_high := by rw [pX3_operation_31_S1, if_neg c1, if_neg c2]
    rw [e6] at hJ3
    exact k_sub [0] rfl hJ3
  have e7 : (fX3_operation i_form i_high) = (pX3_operation_31_S1 i_form i_high) := by rw [fX3_operation]
  exact k_iret9 X hRt hLk e7.symm rfl dX3_operation_31
theorem vX3_operation : kVi yX3_operation cX3_operation 1 (some .int) 0 := ⟨q16_15, q2_0, q16_13, q16_14, by decide, by decide +kernel⟩
noncomputable def pX9_eighthsOfCode_31_S1 (u0 : Int32) : Int32 := (if u0 = (7 : Int32) then (4 : Int32) else (if u0 = (6 : Int32) then (2 : Int32) else (0 : Int32)))
noncomputable def fX9_eighthsOfCode (u0 : Int32) : Int32 := (if (4 : Int32) ≤ u0 then (pX9_eighthsOfCode_31_S1 u0) else (shl (8 : Int32) u0))
set_option maxRecDepth 100000 in
set_option maxHeartbeats 4000000 in
theorem kX9_eighthsOfCode (l : Launch) (D : va_G) (kI kZ : ClassId) (u0 : Int32) : kM l yX9_eighthsOfCode cX9_eighthsOfCode 1 (some .int) 0 0 0 0 D [(kI, .int), (kZ, .boolean)] [.int u0] [] (some (.int (fX9_eighthsOfCode u0))) [] := by
  refine kM.of (by decide) rfl ?_
  intro p e R s m args below meth c A X _ _ hRt hLk
  refine k_sub [0] (lv' := [(0, .int u0)]) rfl ?_
  refine k_iload_n X dX9_eighthsOfCode_0 rfl 0 rfl rfl ?_
  refine k_iconst X dX9_eighthsOfCode_1 kc_i_4 rfl ?_
  refine k_icmp_ge (tgt := 10) X dX9_eighthsOfCode_2 (by decide) rfl (fun c1 => ?_) (fun c1 => ?_)
  · skip
    refine k_iload_n X dX9_eighthsOfCode_10 rfl 0 rfl rfl ?_
    refine k_bipush X dX9_eighthsOfCode_11 kc_b_7 rfl ?_
    refine k_mid2 [] [(0, .int u0)] [.int (pX9_eighthsOfCode_31_S1 u0)] 31 (fun hJ4 => ?_) ?_
    · skip
      refine k_icmp_ne (tgt := 20) X dX9_eighthsOfCode_13 (by decide) rfl (fun c2 => ?_) (fun c2 => ?_)
      · skip
        refine k_iconst X dX9_eighthsOfCode_16 kc_i_4 rfl ?_
        refine k_goto (tgt := 31) X dX9_eighthsOfCode_17 (by decide) ?_
        have e5 : (pX9_eighthsOfCode_31_S1 u0) = (4 : Int32) := by rw [pX9_eighthsOfCode_31_S1, if_pos c2]
        rw [e5] at hJ4
        exact k_sub [0] rfl hJ4
      refine k_iload_n X dX9_eighthsOfCode_20 rfl 0 rfl rfl ?_
      refine k_bipush X dX9_eighthsOfCode_21 kc_b_6 rfl ?_
      refine k_icmp_ne (tgt := 30) X dX9_eighthsOfCode_23 (by decide) rfl (fun c3 => ?_) (fun c3 => ?_)
      · skip
        refine k_iconst X dX9_eighthsOfCode_26 kc_i_2 rfl ?_
        refine k_goto (tgt := 31) X dX9_eighthsOfCode_27 (by decide) ?_
        have e6 : (pX9_eighthsOfCode_31_S1 u0) = (2 : Int32) := by rw [pX9_eighthsOfCode_31_S1, if_neg c2, if_pos c3]
        rw [e6] at hJ4
        exact k_sub [0] rfl hJ4
      refine k_iconst X dX9_eighthsOfCode_30 kc_i_0 rfl ?_
      have e7 : (pX9_eighthsOfCode_31_S1 u0) = (0 : Int32) := by rw [pX9_eighthsOfCode_31_S1, if_neg c2, if_neg c3]
      rw [e7] at hJ4
      exact k_sub [0] rfl hJ4
    have e8 : (fX9_eighthsOfCode u0) = (pX9_eighthsOfCode_31_S1 u0) := by rw [fX9_eighthsOfCode, if_pos c1]
    exact k_iret9 X hRt hLk e8.symm rfl dX9_eighthsOfCode_31
  refine k_bipush X dX9_eighthsOfCode_5 kc_b_8 rfl ?_
  refine k_iload_n X dX9_eighthsOfCode_7 rfl 0 rfl rfl ?_
  refine k_ishl X dX9_eighthsOfCode_8 rfl ?_
  have e9 : (fX9_eighthsOfCode u0) = (shl (8 : Int32) u0) := by rw [fX9_eighthsOfCode, if_neg c1]
  exact k_iret9 X hRt hLk e9.symm rfl dX9_eighthsOfCode_9
theorem vX9_eighthsOfCode : kSt yX9_eighthsOfCode cX9_eighthsOfCode 1 (some .int) 1 := ⟨q15_2, q2_23, q15_1, by decide, by decide +kernel⟩
noncomputable def fX9_becomeIll__t_bits : Int32 := (-2147483648 : Int32)
noncomputable def fX9_becomeIll__t_sew : Int32 := (0 : Int32)
noncomputable def fX9_becomeIll__t_eighths : Int32 := (0 : Int32)
noncomputable def fX9_becomeIll__t_most : Int32 := (0 : Int32)
noncomputable def fX9_becomeIll__t_tailOpen : Int32 := (0 : Int32)
noncomputable def fX9_becomeIll__t_maskedOpen : Int32 := (0 : Int32)
set_option maxRecDepth 100000 in
set_option maxHeartbeats 4000000 in
theorem kX9_becomeIll (l : Launch) (D : va_G) (kI kZ : ClassId) (b_t : Nat) (t_bits : Int32) (t_sew : Int32) (t_eighths : Int32) (t_most : Int32) (t_tailOpen : Int32) (t_maskedOpen : Int32) : kM l yX9_becomeIll cX9_becomeIll 1 none 0 0 0 0 D [(kI, .int), (kZ, .boolean)] [.ref b_t] [(b_t, .inr (8, [.int t_bits, .int t_sew, .int t_eighths, .int t_most, .int t_tailOpen, .int t_maskedOpen]))] none [(b_t, .inr (8, [.int fX9_becomeIll__t_bits, .int fX9_becomeIll__t_sew, .int fX9_becomeIll__t_eighths, .int fX9_becomeIll__t_most, .int fX9_becomeIll__t_tailOpen, .int fX9_becomeIll__t_maskedOpen]))] := by
  refine kM.of (by decide) rfl ?_
  intro p e R s m args below meth c A X _ _ hRt hLk
  refine k_sub [0] (lv' := [(0, .ref b_t)]) rfl ?_
  refine k_aload_n X dX9_becomeIll_0 rfl 0 rfl rfl ?_
  refine k_ldc X q3_5 dX9_becomeIll_1 rfl ?_
  refine k_put (ws' := [(b_t, .inr (8, [.int (-2147483648 : Int32), .int t_sew, .int t_eighths, .int t_most, .int t_tailOpen, .int t_maskedOpen]))]) X i_wsX90 tyX9 tyX9_ok nmX9 0 0 q3_6 rfl rfl rfl rfl rfl rfl rfl rfl rfl dX9_becomeIll_3 rfl ?_
  refine k_aload_n X dX9_becomeIll_6 rfl 0 rfl rfl ?_
  refine k_iconst X dX9_becomeIll_7 kc_i_0 rfl ?_
  refine k_put (ws' := [(b_t, .inr (8, [.int (-2147483648 : Int32), .int (0 : Int32), .int t_eighths, .int t_most, .int t_tailOpen, .int t_maskedOpen]))]) X i_wsX90 tyX9 tyX9_ok nmX9 0 1 q9_22 rfl rfl rfl rfl rfl rfl rfl rfl rfl dX9_becomeIll_8 rfl ?_
  refine k_aload_n X dX9_becomeIll_11 rfl 0 rfl rfl ?_
  refine k_iconst X dX9_becomeIll_12 kc_i_0 rfl ?_
  refine k_put (ws' := [(b_t, .inr (8, [.int (-2147483648 : Int32), .int (0 : Int32), .int (0 : Int32), .int t_most, .int t_tailOpen, .int t_maskedOpen]))]) X i_wsX90 tyX9 tyX9_ok nmX9 0 2 q9_23 rfl rfl rfl rfl rfl rfl rfl rfl rfl dX9_becomeIll_13 rfl ?_
  refine k_aload_n X dX9_becomeIll_16 rfl 0 rfl rfl ?_
  refine k_iconst X dX9_becomeIll_17 kc_i_0 rfl ?_
  refine k_put (ws' := [(b_t, .inr (8, [.int (-2147483648 : Int32), .int (0 : Int32), .int (0 : Int32), .int (0 : Int32), .int t_tailOpen, .int t_maskedOpen]))]) X i_wsX90 tyX9 tyX9_ok nmX9 0 3 q14_21 rfl rfl rfl rfl rfl rfl rfl rfl rfl dX9_becomeIll_18 rfl ?_
  refine k_aload_n X dX9_becomeIll_21 rfl 0 rfl rfl ?_
  refine k_iconst X dX9_becomeIll_22 kc_i_0 rfl ?_
  refine k_put (ws' := [(b_t, .inr (8, [.int (-2147483648 : Int32), .int (0 : Int32), .int (0 : Int32), .int (0 : Int32), .int (0 : Int32), .int t_maskedOpen]))]) X i_wsX90 tyX9 tyX9_ok nmX9 0 4 q14_22 rfl rfl rfl rfl rfl rfl rfl rfl rfl dX9_becomeIll_23 rfl ?_
  refine k_aload_n X dX9_becomeIll_26 rfl 0 rfl rfl ?_
  refine k_iconst X dX9_becomeIll_27 kc_i_0 rfl ?_
  refine k_put (ws' := [(b_t, .inr (8, [.int (-2147483648 : Int32), .int (0 : Int32), .int (0 : Int32), .int (0 : Int32), .int (0 : Int32), .int (0 : Int32)]))]) X i_wsX90 tyX9 tyX9_ok nmX9 0 5 q14_23 rfl rfl rfl rfl rfl rfl rfl rfl rfl dX9_becomeIll_28 rfl ?_
  have e1 : fX9_becomeIll__t_bits = (-2147483648 : Int32) := by rw [fX9_becomeIll__t_bits]
  have e2 : fX9_becomeIll__t_sew = (0 : Int32) := by rw [fX9_becomeIll__t_sew]
  have e3 : fX9_becomeIll__t_eighths = (0 : Int32) := by rw [fX9_becomeIll__t_eighths]
  have e4 : fX9_becomeIll__t_most = (0 : Int32) := by rw [fX9_becomeIll__t_most]
  have e5 : fX9_becomeIll__t_tailOpen = (0 : Int32) := by rw [fX9_becomeIll__t_tailOpen]
  have e6 : fX9_becomeIll__t_maskedOpen = (0 : Int32) := by rw [fX9_becomeIll__t_maskedOpen]
  exact k_vret X hRt hLk (by rw [e1, e2, e3, e4, e5, e6]) dX9_becomeIll_31
theorem vX9_becomeIll : kVi yX9_becomeIll cX9_becomeIll 1 none 0 := ⟨q15_6, q2_23, q15_4, q15_5, by decide, by decide +kernel⟩
noncomputable def eX9_become_69 (u1 : Int32) : Int32 := (((fX9_eighthsOfCode (u1 &&& (7 : Int32))) * (16 : Int32)) / (shl (8 : Int32) ((sru u1 (3 : Int32)) &&& (7 : Int32))))
noncomputable def pX9_become_85_S2 (u1 : Int32) : Int32 := (if (u1 &&& (64 : Int32)) = (0 : Int32) then (0 : Int32) else (1 : Int32))
theorem zpX9_become_85_S2 (u1 : Int32) : narrow .boolean (.int (pX9_become_85_S2 u1)) = .int (pX9_become_85_S2 u1) := by unfold pX9_become_85_S2; exact (kzi rfl rfl)
noncomputable def pX9_become_102_S2 (u1 : Int32) : Int32 := (if (u1 &&& (128 : Int32)) = (0 : Int32) then (0 : Int32) else (1 : Int32))
theorem zpX9_become_102_S2 (u1 : Int32) : narrow .boolean (.int (pX9_become_102_S2 u1)) = .int (pX9_become_102_S2 u1) := by unfold pX9_become_102_S2; exact (kzi rfl rfl)
noncomputable def fX9_become__t_bits (u1 : Int32) : Int32 := (if (sru u1 (8 : Int32)) = (0 : Int32) then (if (32 : Int32) < (shl (8 : Int32) ((sru u1 (3 : Int32)) &&& (7 : Int32))) then fX9_becomeIll__t_bits else (if (fX9_eighthsOfCode (u1 &&& (7 : Int32))) = (0 : Int32) then fX9_becomeIll__t_bits else (if (shl (8 : Int32) ((sru u1 (3 : Int32)) &&& (7 : Int32))) ≤ ((4 : Int32) * (fX9_eighthsOfCode (u1 &&& (7 : Int32)))) then u1 else fX9_becomeIll__t_bits))) else fX9_becomeIll__t_bits)
noncomputable def fX9_become__t_sew (u1 : Int32) : Int32 := (if (sru u1 (8 : Int32)) = (0 : Int32) then (if (32 : Int32) < (shl (8 : Int32) ((sru u1 (3 : Int32)) &&& (7 : Int32))) then fX9_becomeIll__t_sew else (if (fX9_eighthsOfCode (u1 &&& (7 : Int32))) = (0 : Int32) then fX9_becomeIll__t_sew else (if (shl (8 : Int32) ((sru u1 (3 : Int32)) &&& (7 : Int32))) ≤ ((4 : Int32) * (fX9_eighthsOfCode (u1 &&& (7 : Int32)))) then (shl (8 : Int32) ((sru u1 (3 : Int32)) &&& (7 : Int32))) else fX9_becomeIll__t_sew))) else fX9_becomeIll__t_sew)
noncomputable def fX9_become__t_eighths (u1 : Int32) : Int32 := (if (sru u1 (8 : Int32)) = (0 : Int32) then (if (32 : Int32) < (shl (8 : Int32) ((sru u1 (3 : Int32)) &&& (7 : Int32))) then fX9_becomeIll__t_eighths else (if (fX9_eighthsOfCode (u1 &&& (7 : Int32))) = (0 : Int32) then fX9_becomeIll__t_eighths else (if (shl (8 : Int32) ((sru u1 (3 : Int32)) &&& (7 : Int32))) ≤ ((4 : Int32) * (fX9_eighthsOfCode (u1 &&& (7 : Int32)))) then (fX9_eighthsOfCode (u1 &&& (7 : Int32))) else fX9_becomeIll__t_eighths))) else fX9_becomeIll__t_eighths)
noncomputable def fX9_become__t_most (u1 : Int32) : Int32 := (if (sru u1 (8 : Int32)) = (0 : Int32) then (if (32 : Int32) < (shl (8 : Int32) ((sru u1 (3 : Int32)) &&& (7 : Int32))) then fX9_becomeIll__t_most else (if (fX9_eighthsOfCode (u1 &&& (7 : Int32))) = (0 : Int32) then fX9_becomeIll__t_most else (if (shl (8 : Int32) ((sru u1 (3 : Int32)) &&& (7 : Int32))) ≤ ((4 : Int32) * (fX9_eighthsOfCode (u1 &&& (7 : Int32)))) then (eX9_become_69 u1) else fX9_becomeIll__t_most))) else fX9_becomeIll__t_most)
noncomputable def fX9_become__t_tailOpen (u1 : Int32) : Int32 := (if (sru u1 (8 : Int32)) = (0 : Int32) then (if (32 : Int32) < (shl (8 : Int32) ((sru u1 (3 : Int32)) &&& (7 : Int32))) then fX9_becomeIll__t_tailOpen else (if (fX9_eighthsOfCode (u1 &&& (7 : Int32))) = (0 : Int32) then fX9_becomeIll__t_tailOpen else (if (shl (8 : Int32) ((sru u1 (3 : Int32)) &&& (7 : Int32))) ≤ ((4 : Int32) * (fX9_eighthsOfCode (u1 &&& (7 : Int32)))) then (pX9_become_85_S2 u1) else fX9_becomeIll__t_tailOpen))) else fX9_becomeIll__t_tailOpen)
noncomputable def fX9_become__t_maskedOpen (u1 : Int32) : Int32 := (if (sru u1 (8 : Int32)) = (0 : Int32) then (if (32 : Int32) < (shl (8 : Int32) ((sru u1 (3 : Int32)) &&& (7 : Int32))) then fX9_becomeIll__t_maskedOpen else (if (fX9_eighthsOfCode (u1 &&& (7 : Int32))) = (0 : Int32) then fX9_becomeIll__t_maskedOpen else (if (shl (8 : Int32) ((sru u1 (3 : Int32)) &&& (7 : Int32))) ≤ ((4 : Int32) * (fX9_eighthsOfCode (u1 &&& (7 : Int32)))) then (pX9_become_102_S2 u1) else fX9_becomeIll__t_maskedOpen))) else fX9_becomeIll__t_maskedOpen)
noncomputable def okX9_become (u1 : Int32) : Prop := (((sru u1 (8 : Int32)) = (0 : Int32)) → ¬ ((32 : Int32) < (shl (8 : Int32) ((sru u1 (3 : Int32)) &&& (7 : Int32)))) → ¬ ((fX9_eighthsOfCode (u1 &&& (7 : Int32))) = (0 : Int32)) → ((shl (8 : Int32) ((sru u1 (3 : Int32)) &&& (7 : Int32))) ≤ ((4 : Int32) * (fX9_eighthsOfCode (u1 &&& (7 : Int32))))) → ¬ (shl (8 : Int32) ((sru u1 (3 : Int32)) &&& (7 : Int32))) = 0)
set_option maxRecDepth 100000 in
set_option maxHeartbeats 4000000 in
theorem kX9_become (l : Launch) (D : va_G) (kI kZ : ClassId) (b_t : Nat) (t_bits : Int32) (t_sew : Int32) (t_eighths : Int32) (t_most : Int32) (t_tailOpen : Int32) (t_maskedOpen : Int32) (u1 : Int32) (hok : okX9_become u1) : kM l yX9_become cX9_become 4 none 1 12 0 0 D [(kI, .int), (kZ, .boolean)] [.ref b_t, .int u1] [(b_t, .inr (8, [.int t_bits, .int t_sew, .int t_eighths, .int t_most, .int t_tailOpen, .int t_maskedOpen]))] none [(b_t, .inr (8, [.int (fX9_become__t_bits u1), .int (fX9_become__t_sew u1), .int (fX9_become__t_eighths u1), .int (fX9_become__t_most u1), .int (fX9_become__t_tailOpen u1), .int (fX9_become__t_maskedOpen u1)]))] := by
  refine kM.of (by decide) rfl ?_
  intro p e R s m args below meth c A X _ _ hRt hLk
  refine k_sub [0, 1] (lv' := [(0, .ref b_t), (1, .int u1)]) rfl ?_
  unfold okX9_become at hok
  refine k_bipush X dX9_become_0 kc_b_8 rfl ?_
  refine k_iload_n X dX9_become_2 rfl 1 rfl rfl ?_
  refine k_iconst X dX9_become_3 kc_i_3 rfl ?_
  refine k_iushr X dX9_become_4 rfl ?_
  refine k_bipush X dX9_become_5 kc_b_7 rfl ?_
  refine k_iand X dX9_become_7 rfl ?_
  refine k_ishl X dX9_become_8 rfl ?_
  refine k_istore_n (lv' := [(2, .int (shl (8 : Int32) ((sru u1 (3 : Int32)) &&& (7 : Int32)))), (0, .ref b_t), (1, .int u1)]) X dX9_become_9 rfl rfl rfl rfl ?_
  refine k_iload_n X dX9_become_10 rfl 2 rfl rfl ?_
  refine k_bipush X dX9_become_11 kc_b_7 rfl ?_
  refine k_iand X dX9_become_13 rfl ?_
  refine k_cS1 (st := []) (ws' := [(b_t, .inr (8, [.int t_bits, .int t_sew, .int t_eighths, .int t_most, .int t_tailOpen, .int t_maskedOpen]))]) (wr := [(b_t, .inr (8, [.int t_bits, .int t_sew, .int t_eighths, .int t_most, .int t_tailOpen, .int t_maskedOpen]))]) X [.int (u1 &&& (7 : Int32))] 0 [] [0] [0] (kX9_eighthsOfCode l D kI kZ (u1 &&& (7 : Int32))) vX9_eighthsOfCode q15_0 dX9_become_14 rfl rfl rfl rfl rfl rfl rfl rfl rfl rfl rfl rfl rfl ?_
  refine k_istore_n (lv' := [(3, .int (fX9_eighthsOfCode (u1 &&& (7 : Int32)))), (2, .int (shl (8 : Int32) ((sru u1 (3 : Int32)) &&& (7 : Int32)))), (0, .ref b_t), (1, .int u1)]) X dX9_become_17 rfl rfl rfl rfl ?_
  refine k_iload_n X dX9_become_18 rfl 3 rfl rfl ?_
  refine k_bipush X dX9_become_19 kc_b_8 rfl ?_
  refine k_iushr X dX9_become_21 rfl ?_
  refine k_if_ne (tgt := 42) X dX9_become_22 (by decide) rfl (fun c1 => ?_) (fun c1 => ?_)
  · skip
    refine k_iload_n X dX9_become_25 rfl 1 rfl rfl ?_
    refine k_bipush X dX9_become_26 kc_b_32 rfl ?_
    refine k_icmp_gt (tgt := 42) X dX9_become_28 (by decide) rfl (fun c2 => ?_) (fun c2 => ?_)
    · skip
      refine k_aload_n X dX9_become_42 rfl 2 rfl rfl ?_
      refine k_cV0 (st := []) (ws' := [(b_t, .inr (8, [.int fX9_becomeIll__t_bits, .int fX9_becomeIll__t_sew, .int fX9_becomeIll__t_eighths, .int fX9_becomeIll__t_most, .int fX9_becomeIll__t_tailOpen, .int fX9_becomeIll__t_maskedOpen]))]) (wr := []) (ci := 8) (q9 := 0) X [] 0 [0] [] [0] (kX9_becomeIll l D kI kZ b_t t_bits t_sew t_eighths t_most t_tailOpen t_maskedOpen) vX9_becomeIll q15_3 dX9_become_43 rfl rfl rfl rfl rfl rfl rfl rfl rfl rfl rfl rfl rfl rfl rfl ?_
      have e9 : (fX9_become__t_bits u1) = fX9_becomeIll__t_bits := by rw [fX9_become__t_bits, if_pos c1, if_pos c2]
      have e10 : (fX9_become__t_sew u1) = fX9_becomeIll__t_sew := by rw [fX9_become__t_sew, if_pos c1, if_pos c2]
      have e11 : (fX9_become__t_eighths u1) = fX9_becomeIll__t_eighths := by rw [fX9_become__t_eighths, if_pos c1, if_pos c2]
      have e12 : (fX9_become__t_most u1) = fX9_becomeIll__t_most := by rw [fX9_become__t_most, if_pos c1, if_pos c2]
      have e13 : (fX9_become__t_tailOpen u1) = fX9_becomeIll__t_tailOpen := by rw [fX9_become__t_tailOpen, if_pos c1, if_pos c2]
      have e14 : (fX9_become__t_maskedOpen u1) = fX9_becomeIll__t_maskedOpen := by rw [fX9_become__t_maskedOpen, if_pos c1, if_pos c2]
      exact k_vret X hRt hLk (by rw [e9, e10, e11, e12, e13, e14]) dX9_become_46
    refine k_iload_n X dX9_become_31 rfl 0 rfl rfl ?_
    refine k_if_eq (tgt := 42) X dX9_become_32 (by decide) rfl (fun c3 => ?_) (fun c3 => ?_)
    · skip
      refine k_aload_n X dX9_become_42 rfl 2 rfl rfl ?_
      refine k_cV0 (st := []) (ws' := [(b_t, .inr (8, [.int fX9_becomeIll__t_bits, .int fX9_becomeIll__t_sew, .int fX9_becomeIll__t_eighths, .int fX9_becomeIll__t_most, .int fX9_becomeIll__t_tailOpen, .int fX9_becomeIll__t_maskedOpen]))]) (wr := []) (ci := 8) (q9 := 0) X [] 0 [0] [] [0] (kX9_becomeIll l D kI kZ b_t t_bits t_sew t_eighths t_most t_tailOpen t_maskedOpen) vX9_becomeIll q15_3 dX9_become_43 rfl rfl rfl rfl rfl rfl rfl rfl rfl rfl rfl rfl rfl rfl rfl ?_
      have e15 : (fX9_become__t_bits u1) = fX9_becomeIll__t_bits := by rw [fX9_become__t_bits, if_pos c1, if_neg c2, if_pos c3]
      have e16 : (fX9_become__t_sew u1) = fX9_becomeIll__t_sew := by rw [fX9_become__t_sew, if_pos c1, if_neg c2, if_pos c3]
      have e17 : (fX9_become__t_eighths u1) = fX9_becomeIll__t_eighths := by rw [fX9_become__t_eighths, if_pos c1, if_neg c2, if_pos c3]
      have e18 : (fX9_become__t_most u1) = fX9_becomeIll__t_most := by rw [fX9_become__t_most, if_pos c1, if_neg c2, if_pos c3]
      have e19 : (fX9_become__t_tailOpen u1) = fX9_becomeIll__t_tailOpen := by rw [fX9_become__t_tailOpen, if_pos c1, if_neg c2, if_pos c3]
      have e20 : (fX9_become__t_maskedOpen u1) = fX9_becomeIll__t_maskedOpen := by rw [fX9_become__t_maskedOpen, if_pos c1, if_neg c2, if_pos c3]
      exact k_vret X hRt hLk (by rw [e15, e16, e17, e18, e19, e20]) dX9_become_46
    refine k_iload_n X dX9_become_35 rfl 1 rfl rfl ?_
    refine k_iconst X dX9_become_36 kc_i_4 rfl ?_
    refine k_iload_n X dX9_become_37 rfl 0 rfl rfl ?_
    refine k_imul X dX9_become_38 rfl ?_
    refine k_icmp_le (tgt := 47) X dX9_become_39 (by decide) rfl (fun c4 => ?_) (fun c4 => ?_)
    · skip
      refine k_aload_n X dX9_become_47 rfl 2 rfl rfl ?_
      refine k_iload_n X dX9_become_48 rfl 3 rfl rfl ?_
      refine k_put (ws' := [(b_t, .inr (8, [.int u1, .int t_sew, .int t_eighths, .int t_most, .int t_tailOpen, .int t_maskedOpen]))]) X i_wsX90 tyX9 tyX9_ok nmX9 0 0 q3_6 rfl rfl rfl rfl rfl rfl rfl rfl rfl dX9_become_49 rfl ?_
      refine k_aload_n X dX9_become_52 rfl 2 rfl rfl ?_
      refine k_iload_n X dX9_become_53 rfl 1 rfl rfl ?_
      refine k_put (ws' := [(b_t, .inr (8, [.int u1, .int (shl (8 : Int32) ((sru u1 (3 : Int32)) &&& (7 : Int32))), .int t_eighths, .int t_most, .int t_tailOpen, .int t_maskedOpen]))]) X i_wsX90 tyX9 tyX9_ok nmX9 0 1 q9_22 rfl rfl rfl rfl rfl rfl rfl rfl rfl dX9_become_54 rfl ?_
      refine k_aload_n X dX9_become_57 rfl 2 rfl rfl ?_
      refine k_iload_n X dX9_become_58 rfl 0 rfl rfl ?_
      refine k_put (ws' := [(b_t, .inr (8, [.int u1, .int (shl (8 : Int32) ((sru u1 (3 : Int32)) &&& (7 : Int32))), .int (fX9_eighthsOfCode (u1 &&& (7 : Int32))), .int t_most, .int t_tailOpen, .int t_maskedOpen]))]) X i_wsX90 tyX9 tyX9_ok nmX9 0 2 q9_23 rfl rfl rfl rfl rfl rfl rfl rfl rfl dX9_become_59 rfl ?_
      refine k_aload_n X dX9_become_62 rfl 2 rfl rfl ?_
      refine k_iload_n X dX9_become_63 rfl 0 rfl rfl ?_
      refine k_bipush X dX9_become_64 kc_b_16 rfl ?_
      refine k_imul X dX9_become_66 rfl ?_
      refine k_iload_n X dX9_become_67 rfl 1 rfl rfl ?_
      refine k_idiv X dX9_become_68 (hok c1 c2 c3 c4) rfl ?_
      refine k_foldi (v := (eX9_become_69 u1)) rfl ?_
      refine k_put (ws' := [(b_t, .inr (8, [.int u1, .int (shl (8 : Int32) ((sru u1 (3 : Int32)) &&& (7 : Int32))), .int (fX9_eighthsOfCode (u1 &&& (7 : Int32))), .int (eX9_become_69 u1), .int t_tailOpen, .int t_maskedOpen]))]) X i_wsX90 tyX9 tyX9_ok nmX9 0 3 q14_21 rfl rfl rfl rfl rfl rfl rfl rfl rfl dX9_become_69 rfl ?_
      refine k_aload_n X dX9_become_72 rfl 2 rfl rfl ?_
      refine k_iload_n X dX9_become_73 rfl 3 rfl rfl ?_
      refine k_bipush X dX9_become_74 kc_b_64 rfl ?_
      refine k_iand X dX9_become_76 rfl ?_
      refine k_mid2 [(b_t, .inr (8, [.int u1, .int (shl (8 : Int32) ((sru u1 (3 : Int32)) &&& (7 : Int32))), .int (fX9_eighthsOfCode (u1 &&& (7 : Int32))), .int (eX9_become_69 u1), .int t_tailOpen, .int t_maskedOpen]))] [(0, .ref b_t), (1, .int u1), (2, .int (shl (8 : Int32) ((sru u1 (3 : Int32)) &&& (7 : Int32)))), (3, .int (fX9_eighthsOfCode (u1 &&& (7 : Int32))))] [.int (pX9_become_85_S2 u1), .ref b_t] 85 (fun hJ6 => ?_) ?_
      · skip
        refine k_if_eq (tgt := 84) X dX9_become_77 (by decide) rfl (fun c5 => ?_) (fun c5 => ?_)
        · skip
          refine k_iconst X dX9_become_84 kc_i_0 rfl ?_
          have e21 : (pX9_become_85_S2 u1) = (0 : Int32) := by rw [pX9_become_85_S2, if_pos c5]
          rw [e21] at hJ6
          exact k_sub [2, 3, 1, 0] rfl hJ6
        refine k_iconst X dX9_become_80 kc_i_1 rfl ?_
        refine k_goto (tgt := 85) X dX9_become_81 (by decide) ?_
        have e22 : (pX9_become_85_S2 u1) = (1 : Int32) := by rw [pX9_become_85_S2, if_neg c5]
        rw [e22] at hJ6
        exact k_sub [2, 3, 1, 0] rfl hJ6
      refine k_put (ws' := [(b_t, .inr (8, [.int u1, .int (shl (8 : Int32) ((sru u1 (3 : Int32)) &&& (7 : Int32))), .int (fX9_eighthsOfCode (u1 &&& (7 : Int32))), .int (eX9_become_69 u1), .int (pX9_become_85_S2 u1), .int t_maskedOpen]))]) X i_wsX90 tyX9 tyX9_ok nmX9 0 4 q14_22 rfl rfl rfl rfl rfl (zpX9_become_85_S2 u1) (kFz (zpX9_become_85_S2 u1)) rfl rfl dX9_become_85 rfl ?_
      refine k_aload_n X dX9_become_88 rfl 0 rfl rfl ?_
      refine k_iload_n X dX9_become_89 rfl 1 rfl rfl ?_
      refine k_sipush X dX9_become_90 kc_s_128 rfl ?_
      refine k_iand X dX9_become_93 rfl ?_
      refine k_mid2 [(b_t, .inr (8, [.int u1, .int (shl (8 : Int32) ((sru u1 (3 : Int32)) &&& (7 : Int32))), .int (fX9_eighthsOfCode (u1 &&& (7 : Int32))), .int (eX9_become_69 u1), .int (pX9_become_85_S2 u1), .int t_maskedOpen]))] [(0, .ref b_t), (1, .int u1), (2, .int (shl (8 : Int32) ((sru u1 (3 : Int32)) &&& (7 : Int32)))), (3, .int (fX9_eighthsOfCode (u1 &&& (7 : Int32))))] [.int (pX9_become_102_S2 u1), .ref b_t] 102 (fun hJ8 => ?_) ?_
      · skip
        refine k_if_eq (tgt := 101) X dX9_become_94 (by decide) rfl (fun c7 => ?_) (fun c7 => ?_)
        · skip
          refine k_iconst X dX9_become_101 kc_i_0 rfl ?_
          have e23 : (pX9_become_102_S2 u1) = (0 : Int32) := by rw [pX9_become_102_S2, if_pos c7]
          rw [e23] at hJ8
          exact k_sub [0, 1, 2, 3] rfl hJ8
        refine k_iconst X dX9_become_97 kc_i_1 rfl ?_
        refine k_goto (tgt := 102) X dX9_become_98 (by decide) ?_
        have e24 : (pX9_become_102_S2 u1) = (1 : Int32) := by rw [pX9_become_102_S2, if_neg c7]
        rw [e24] at hJ8
        exact k_sub [0, 1, 2, 3] rfl hJ8
      refine k_put (ws' := [(b_t, .inr (8, [.int u1, .int (shl (8 : Int32) ((sru u1 (3 : Int32)) &&& (7 : Int32))), .int (fX9_eighthsOfCode (u1 &&& (7 : Int32))), .int (eX9_become_69 u1), .int (pX9_become_85_S2 u1), .int (pX9_become_102_S2 u1)]))]) X i_wsX90 tyX9 tyX9_ok nmX9 0 5 q14_23 rfl rfl rfl rfl rfl (zpX9_become_102_S2 u1) (kFz (zpX9_become_102_S2 u1)) rfl rfl dX9_become_102 rfl ?_
      have e25 : (fX9_become__t_bits u1) = u1 := by rw [fX9_become__t_bits, if_pos c1, if_neg c2, if_neg c3, if_pos c4]
      have e26 : (fX9_become__t_sew u1) = (shl (8 : Int32) ((sru u1 (3 : Int32)) &&& (7 : Int32))) := by rw [fX9_become__t_sew, if_pos c1, if_neg c2, if_neg c3, if_pos c4]
      have e27 : (fX9_become__t_eighths u1) = (fX9_eighthsOfCode (u1 &&& (7 : Int32))) := by rw [fX9_become__t_eighths, if_pos c1, if_neg c2, if_neg c3, if_pos c4]
      have e28 : (fX9_become__t_most u1) = (eX9_become_69 u1) := by rw [fX9_become__t_most, if_pos c1, if_neg c2, if_neg c3, if_pos c4]
      have e29 : (fX9_become__t_tailOpen u1) = (pX9_become_85_S2 u1) := by rw [fX9_become__t_tailOpen, if_pos c1, if_neg c2, if_neg c3, if_pos c4]
      have e30 : (fX9_become__t_maskedOpen u1) = (pX9_become_102_S2 u1) := by rw [fX9_become__t_maskedOpen, if_pos c1, if_neg c2, if_neg c3, if_pos c4]
      exact k_vret X hRt hLk (by rw [e25, e26, e27, e28, e29, e30]) dX9_become_105
    refine k_aload_n X dX9_become_42 rfl 2 rfl rfl ?_
    refine k_cV0 (st := []) (ws' := [(b_t, .inr (8, [.int fX9_becomeIll__t_bits, .int fX9_becomeIll__t_sew, .int fX9_becomeIll__t_eighths, .int fX9_becomeIll__t_most, .int fX9_becomeIll__t_tailOpen, .int fX9_becomeIll__t_maskedOpen]))]) (wr := []) (ci := 8) (q9 := 0) X [] 0 [0] [] [0] (kX9_becomeIll l D kI kZ b_t t_bits t_sew t_eighths t_most t_tailOpen t_maskedOpen) vX9_becomeIll q15_3 dX9_become_43 rfl rfl rfl rfl rfl rfl rfl rfl rfl rfl rfl rfl rfl rfl rfl ?_
    have e31 : (fX9_become__t_bits u1) = fX9_becomeIll__t_bits := by rw [fX9_become__t_bits, if_pos c1, if_neg c2, if_neg c3, if_neg c4]
    have e32 : (fX9_become__t_sew u1) = fX9_becomeIll__t_sew := by rw [fX9_become__t_sew, if_pos c1, if_neg c2, if_neg c3, if_neg c4]
    have e33 : (fX9_become__t_eighths u1) = fX9_becomeIll__t_eighths := by rw [fX9_become__t_eighths, if_pos c1, if_neg c2, if_neg c3, if_neg c4]
    have e34 : (fX9_become__t_most u1) = fX9_becomeIll__t_most := by rw [fX9_become__t_most, if_pos c1, if_neg c2, if_neg c3, if_neg c4]
    have e35 : (fX9_become__t_tailOpen u1) = fX9_becomeIll__t_tailOpen := by rw [fX9_become__t_tailOpen, if_pos c1, if_neg c2, if_neg c3, if_neg c4]
    have e36 : (fX9_become__t_maskedOpen u1) = fX9_becomeIll__t_maskedOpen := by rw [fX9_become__t_maskedOpen, if_pos c1, if_neg c2, if_neg c3, if_neg c4]
    exact k_vret X hRt hLk (by rw [e31, e32, e33, e34, e35, e36]) dX9_become_46
  refine k_aload_n X dX9_become_42 rfl 2 rfl rfl ?_
  refine k_cV0 (st := []) (ws' := [(b_t, .inr (8, [.int fX9_becomeIll__t_bits, .int fX9_becomeIll__t_sew, .int fX9_becomeIll__t_eighths, .int fX9_becomeIll__t_most, .int fX9_becomeIll__t_tailOpen, .int fX9_becomeIll__t_maskedOpen]))]) (wr := []) (ci := 8) (q9 := 0) X [] 0 [0] [] [0] (kX9_becomeIll l D kI kZ b_t t_bits t_sew t_eighths t_most t_tailOpen t_maskedOpen) vX9_becomeIll q15_3 dX9_become_43 rfl rfl rfl rfl rfl rfl rfl rfl rfl rfl rfl rfl rfl rfl rfl ?_
  have e37 : (fX9_become__t_bits u1) = fX9_becomeIll__t_bits := by rw [fX9_become__t_bits, if_neg c1]
  have e38 : (fX9_become__t_sew u1) = fX9_becomeIll__t_sew := by rw [fX9_become__t_sew, if_neg c1]
  have e39 : (fX9_become__t_eighths u1) = fX9_becomeIll__t_eighths := by rw [fX9_become__t_eighths, if_neg c1]
  have e40 : (fX9_become__t_most u1) = fX9_becomeIll__t_most := by rw [fX9_become__t_most, if_neg c1]
  have e41 : (fX9_become__t_tailOpen u1) = fX9_becomeIll__t_tailOpen := by rw [fX9_become__t_tailOpen, if_neg c1]
  have e42 : (fX9_become__t_maskedOpen u1) = fX9_becomeIll__t_maskedOpen := by rw [fX9_become__t_maskedOpen, if_neg c1]
  exact k_vret X hRt hLk (by rw [e37, e38, e39, e40, e41, e42]) dX9_become_46
theorem vX9_become : kVi yX9_become cX9_become 4 none 1 := ⟨q14_20, q2_23, q14_18, q14_19, by decide, by decide +kernel⟩
noncomputable def pX9_isIll_14_S1 (t_bits : Int32) : Int32 := (if t_bits = (-2147483648 : Int32) then (1 : Int32) else (0 : Int32))
theorem zpX9_isIll_14_S1 (t_bits : Int32) : narrow .boolean (.int (pX9_isIll_14_S1 t_bits)) = .int (pX9_isIll_14_S1 t_bits) := by unfold pX9_isIll_14_S1; exact (kzi rfl rfl)
noncomputable def fX9_isIll (t_bits : Int32) : Int32 := (pX9_isIll_14_S1 t_bits)
theorem zX9_isIll (t_bits : Int32) : narrow .boolean (.int (fX9_isIll t_bits)) = .int (fX9_isIll t_bits) := by unfold fX9_isIll; exact (zpX9_isIll_14_S1 t_bits)
set_option maxRecDepth 100000 in
set_option maxHeartbeats 4000000 in
theorem kX9_isIll (l : Launch) (D : va_G) (kI kZ : ClassId) (b_t : Nat) (t_bits : Int32) (t_sew : Int32) (t_eighths : Int32) (t_most : Int32) (t_tailOpen : Int32) (t_maskedOpen : Int32) : kM l yX9_isIll cX9_isIll 1 (some .boolean) 0 0 0 0 D [(kI, .int), (kZ, .boolean)] [.ref b_t] [(b_t, .inr (8, [.int t_bits, .int t_sew, .int t_eighths, .int t_most, .int t_tailOpen, .int t_maskedOpen]))] (some (.int (fX9_isIll t_bits))) [(b_t, .inr (8, [.int t_bits, .int t_sew, .int t_eighths, .int t_most, .int t_tailOpen, .int t_maskedOpen]))] := by
  refine kM.of (by decide) rfl ?_
  intro p e R s m args below meth c A X _ _ hRt hLk
  refine k_sub [0] (lv' := [(0, .ref b_t)]) rfl ?_
  refine k_aload_n X dX9_isIll_0 rfl 0 rfl rfl ?_
  refine k_get X i_wsX90 0 0 q3_6 rfl rfl rfl rfl rfl dX9_isIll_1 rfl ?_
  refine k_ldc X q3_5 dX9_isIll_4 rfl ?_
  refine k_mid2 [(b_t, .inr (8, [.int t_bits, .int t_sew, .int t_eighths, .int t_most, .int t_tailOpen, .int t_maskedOpen]))] [(0, .ref b_t)] [.int (pX9_isIll_14_S1 t_bits)] 14 (fun hJ2 => ?_) ?_
  · skip
    refine k_icmp_ne (tgt := 13) X dX9_isIll_6 (by decide) rfl (fun c1 => ?_) (fun c1 => ?_)
    · skip
      refine k_iconst X dX9_isIll_9 kc_i_1 rfl ?_
      refine k_goto (tgt := 14) X dX9_isIll_10 (by decide) ?_
      have e3 : (pX9_isIll_14_S1 t_bits) = (1 : Int32) := by rw [pX9_isIll_14_S1, if_pos c1]
      rw [e3] at hJ2
      exact k_sub [0] rfl hJ2
    refine k_iconst X dX9_isIll_13 kc_i_0 rfl ?_
    have e4 : (pX9_isIll_14_S1 t_bits) = (0 : Int32) := by rw [pX9_isIll_14_S1, if_neg c1]
    rw [e4] at hJ2
    exact k_sub [0] rfl hJ2
  have e5 : (fX9_isIll t_bits) = (pX9_isIll_14_S1 t_bits) := by rw [fX9_isIll]
  exact k_zret9 X hRt hLk (zpX9_isIll_14_S1 t_bits) e5.symm rfl dX9_isIll_14
theorem vX9_isIll : kVi yX9_isIll cX9_isIll 1 (some .boolean) 0 := ⟨q9_9, q2_23, q9_7, q9_8, by decide, by decide +kernel⟩
noncomputable def pX9_eighthsFor_30_S1 (t_sew : Int32) (t_eighths : Int32) (u1 : Int32) : Int32 := (if t_sew = (0 : Int32) then (0 : Int32) else ((t_eighths * u1) / t_sew))
noncomputable def fX9_eighthsFor (t_sew : Int32) (t_eighths : Int32) (u1 : Int32) : Int32 := (if u1 = (1 : Int32) then (8 : Int32) else (pX9_eighthsFor_30_S1 t_sew t_eighths u1))
noncomputable def okX9_eighthsFor (t_sew : Int32) (u1 : Int32) : Prop := (¬ (u1 = (1 : Int32)) → ¬ (t_sew = (0 : Int32)) → ¬ t_sew = 0)
set_option maxRecDepth 100000 in
set_option maxHeartbeats 4000000 in
theorem kX9_eighthsFor (l : Launch) (D : va_G) (kI kZ : ClassId) (b_t : Nat) (t_bits : Int32) (t_sew : Int32) (t_eighths : Int32) (t_most : Int32) (t_tailOpen : Int32) (t_maskedOpen : Int32) (u1 : Int32) (hok : okX9_eighthsFor t_sew u1) : kM l yX9_eighthsFor cX9_eighthsFor 2 (some .int) 0 0 0 0 D [(kI, .int), (kZ, .boolean)] [.ref b_t, .int u1] [(b_t, .inr (8, [.int t_bits, .int t_sew, .int t_eighths, .int t_most, .int t_tailOpen, .int t_maskedOpen]))] (some (.int (fX9_eighthsFor t_sew t_eighths u1))) [(b_t, .inr (8, [.int t_bits, .int t_sew, .int t_eighths, .int t_most, .int t_tailOpen, .int t_maskedOpen]))] := by
  refine kM.of (by decide) rfl ?_
  intro p e R s m args below meth c A X _ _ hRt hLk
  refine k_sub [0, 1] (lv' := [(0, .ref b_t), (1, .int u1)]) rfl ?_
  unfold okX9_eighthsFor at hok
  refine k_iload_n X dX9_eighthsFor_0 rfl 1 rfl rfl ?_
  refine k_iconst X dX9_eighthsFor_1 kc_i_1 rfl ?_
  refine k_icmp_ne (tgt := 8) X dX9_eighthsFor_2 (by decide) rfl (fun c1 => ?_) (fun c1 => ?_)
  · skip
    refine k_bipush X dX9_eighthsFor_5 kc_b_8 rfl ?_
    have e4 : (fX9_eighthsFor t_sew t_eighths u1) = (8 : Int32) := by rw [fX9_eighthsFor, if_pos c1]
    exact k_iret9 X hRt hLk e4.symm rfl dX9_eighthsFor_7
  refine k_aload_n X dX9_eighthsFor_8 rfl 0 rfl rfl ?_
  refine k_get X i_wsX90 0 1 q9_22 rfl rfl rfl rfl rfl dX9_eighthsFor_9 rfl ?_
  refine k_mid2 [(b_t, .inr (8, [.int t_bits, .int t_sew, .int t_eighths, .int t_most, .int t_tailOpen, .int t_maskedOpen]))] [(0, .ref b_t), (1, .int u1)] [.int (pX9_eighthsFor_30_S1 t_sew t_eighths u1)] 30 (fun hJ3 => ?_) ?_
  · skip
    refine k_if_ne (tgt := 19) X dX9_eighthsFor_12 (by decide) rfl (fun c2 => ?_) (fun c2 => ?_)
    · skip
      refine k_iconst X dX9_eighthsFor_15 kc_i_0 rfl ?_
      refine k_goto (tgt := 30) X dX9_eighthsFor_16 (by decide) ?_
      have e5 : (pX9_eighthsFor_30_S1 t_sew t_eighths u1) = (0 : Int32) := by rw [pX9_eighthsFor_30_S1, if_pos c2]
      rw [e5] at hJ3
      exact k_sub [0, 1] rfl hJ3
    refine k_aload_n X dX9_eighthsFor_19 rfl 0 rfl rfl ?_
    refine k_get X i_wsX90 0 2 q9_23 rfl rfl rfl rfl rfl dX9_eighthsFor_20 rfl ?_
    refine k_iload_n X dX9_eighthsFor_23 rfl 1 rfl rfl ?_
    refine k_imul X dX9_eighthsFor_24 rfl ?_
    refine k_aload_n X dX9_eighthsFor_25 rfl 0 rfl rfl ?_
    refine k_get X i_wsX90 0 1 q9_22 rfl rfl rfl rfl rfl dX9_eighthsFor_26 rfl ?_
    refine k_idiv X dX9_eighthsFor_29 (hok c1 c2) rfl ?_
    have e6 : (pX9_eighthsFor_30_S1 t_sew t_eighths u1) = ((t_eighths * u1) / t_sew) := by rw [pX9_eighthsFor_30_S1, if_neg c2]
    rw [e6] at hJ3
    exact k_sub [0, 1] rfl hJ3
  have e7 : (fX9_eighthsFor t_sew t_eighths u1) = (pX9_eighthsFor_30_S1 t_sew t_eighths u1) := by rw [fX9_eighthsFor, if_neg c1]
  exact k_iret9 X hRt hLk e7.symm rfl dX9_eighthsFor_30
theorem vX9_eighthsFor : kVi yX9_eighthsFor cX9_eighthsFor 2 (some .int) 1 := ⟨q9_21, q2_23, q9_19, q9_20, by decide, by decide +kernel⟩
noncomputable def pX8_scalar_20_S1 (xS : Nat → Int32) (u1 : Int32) : Int32 := (if u1 ≤ (0 : Int32) then (0 : Int32) else (if (32 : Int32) ≤ u1 then (0 : Int32) else (xS (Int32.toNatClampNeg u1))))
noncomputable def fX8_scalar (xS : Nat → Int32) (u1 : Int32) : Int32 := (pX8_scalar_20_S1 xS u1)
noncomputable def okX8_scalar (u1 : Int32) : Prop := (¬ (u1 ≤ (0 : Int32)) → ¬ ((32 : Int32) ≤ u1) → vp_in u1 32)
set_option maxRecDepth 100000 in
set_option maxHeartbeats 4000000 in
theorem kX8_scalar (l : Launch) (D : va_G) (kI kZ : ClassId) (b_r : Nat) (b_xS : Nat) (r_vectors : Nat) (r_type : Nat) (r_length : Int32) (r_start : Int32) (r_rounding : Int32) (r_saturated : Int32) (r_choices : Int64) (xS : Nat → Int32) (u1 : Int32) (hok : okX8_scalar u1) : kM l yX8_scalar cX8_scalar 2 (some .int) 0 0 0 0 D [(kI, .int), (kZ, .boolean)] [.ref b_r, .int u1] [(b_r, .inr (7, [.ref b_xS, .ref r_vectors, .ref r_type, .int r_length, .int r_start, .int r_rounding, .int r_saturated, .long r_choices])), (b_xS, .inl (kI, 32, .inl xS))] (some (.int (fX8_scalar xS u1))) [(b_r, .inr (7, [.ref b_xS, .ref r_vectors, .ref r_type, .int r_length, .int r_start, .int r_rounding, .int r_saturated, .long r_choices])), (b_xS, .inl (kI, 32, .inl xS))] := by
  refine kM.of (by decide) rfl ?_
  intro p e R s m args below meth c A X _ _ hRt hLk
  refine k_sub [0, 1] (lv' := [(0, .ref b_r), (1, .int u1)]) rfl ?_
  unfold okX8_scalar at hok
  refine k_iload_n X dX8_scalar_0 rfl 1 rfl rfl ?_
  refine k_mid2 [(b_r, .inr (7, [.ref b_xS, .ref r_vectors, .ref r_type, .int r_length, .int r_start, .int r_rounding, .int r_saturated, .long r_choices])), (b_xS, .inl (kI, 32, .inl xS))] [(0, .ref b_r), (1, .int u1)] [.int (pX8_scalar_20_S1 xS u1)] 20 (fun hJ3 => ?_) ?_
  · skip
    refine k_if_le (tgt := 19) X dX8_scalar_1 (by decide) rfl (fun c1 => ?_) (fun c1 => ?_)
    · skip
      refine k_iconst X dX8_scalar_19 kc_i_0 rfl ?_
      have e4 : (pX8_scalar_20_S1 xS u1) = (0 : Int32) := by rw [pX8_scalar_20_S1, if_pos c1]
      rw [e4] at hJ3
      exact k_sub [0, 1] rfl hJ3
    refine k_iload_n X dX8_scalar_4 rfl 1 rfl rfl ?_
    refine k_bipush X dX8_scalar_5 kc_b_32 rfl ?_
    refine k_icmp_ge (tgt := 19) X dX8_scalar_7 (by decide) rfl (fun c2 => ?_) (fun c2 => ?_)
    · skip
      refine k_iconst X dX8_scalar_19 kc_i_0 rfl ?_
      have e5 : (pX8_scalar_20_S1 xS u1) = (0 : Int32) := by rw [pX8_scalar_20_S1, if_neg c1, if_pos c2]
      rw [e5] at hJ3
      exact k_sub [0, 1] rfl hJ3
    refine k_aload_n X dX8_scalar_10 rfl 0 rfl rfl ?_
    refine k_get X i_wsX80 0 0 q2_19 rfl rfl rfl rfl rfl dX8_scalar_11 rfl ?_
    refine k_iload_n X dX8_scalar_14 rfl 1 rfl rfl ?_
    refine k_iald X 1 0 rfl rfl (hok c1 c2) dX8_scalar_15 rfl ?_
    refine k_goto (tgt := 20) X dX8_scalar_16 (by decide) ?_
    have e6 : (pX8_scalar_20_S1 xS u1) = (xS (Int32.toNatClampNeg u1)) := by rw [pX8_scalar_20_S1, if_neg c1, if_neg c2]
    rw [e6] at hJ3
    exact k_sub [0, 1] rfl hJ3
  have e7 : (fX8_scalar xS u1) = (pX8_scalar_20_S1 xS u1) := by rw [fX8_scalar]
  exact k_iret9 X hRt hLk e7.symm rfl dX8_scalar_20
theorem vX8_scalar : kVi yX8_scalar cX8_scalar 2 (some .int) 1 := ⟨q8_3, q1_16, q8_1, q8_2, by decide, by decide +kernel⟩
noncomputable def pX8_putScalar_17_xS (xS : Nat → Int32) (u1 : Int32) (u2 : Int32) : Nat → Int32 := (if u1 ≤ (0 : Int32) then xS else (if (32 : Int32) ≤ u1 then xS else (upd xS (Int32.toNatClampNeg u1) u2)))
noncomputable def fX8_putScalar__xS (xS : Nat → Int32) (u1 : Int32) (u2 : Int32) : Nat → Int32 := (pX8_putScalar_17_xS xS u1 u2)
noncomputable def okX8_putScalar (u1 : Int32) : Prop := (¬ (u1 ≤ (0 : Int32)) → ¬ ((32 : Int32) ≤ u1) → vp_in u1 32)
set_option maxRecDepth 100000 in
set_option maxHeartbeats 4000000 in
theorem kX8_putScalar (l : Launch) (D : va_G) (kI kZ : ClassId) (b_r : Nat) (b_xS : Nat) (r_vectors : Nat) (r_type : Nat) (r_length : Int32) (r_start : Int32) (r_rounding : Int32) (r_saturated : Int32) (r_choices : Int64) (xS : Nat → Int32) (u1 : Int32) (u2 : Int32) (hok : okX8_putScalar u1) : kM l yX8_putScalar cX8_putScalar 3 none 0 0 0 0 D [(kI, .int), (kZ, .boolean)] [.ref b_r, .int u1, .int u2] [(b_r, .inr (7, [.ref b_xS, .ref r_vectors, .ref r_type, .int r_length, .int r_start, .int r_rounding, .int r_saturated, .long r_choices])), (b_xS, .inl (kI, 32, .inl xS))] none [(b_r, .inr (7, [.ref b_xS, .ref r_vectors, .ref r_type, .int r_length, .int r_start, .int r_rounding, .int r_saturated, .long r_choices])), (b_xS, .inl (kI, 32, .inl (fX8_putScalar__xS xS u1 u2)))] := by
  refine kM.of (by decide) rfl ?_
  intro p e R s m args below meth c A X _ _ hRt hLk
  refine k_sub [0, 1, 2] (lv' := [(0, .ref b_r), (1, .int u1), (2, .int u2)]) rfl ?_
  unfold okX8_putScalar at hok
  refine k_iload_n X dX8_putScalar_0 rfl 1 rfl rfl ?_
  refine k_mid2 [(b_r, .inr (7, [.ref b_xS, .ref r_vectors, .ref r_type, .int r_length, .int r_start, .int r_rounding, .int r_saturated, .long r_choices])), (b_xS, .inl (kI, 32, .inl (pX8_putScalar_17_xS xS u1 u2)))] [(0, .ref b_r), (1, .int u1), (2, .int u2)] [] 17 (fun hJ3 => ?_) ?_
  · skip
    refine k_if_le (tgt := 17) X dX8_putScalar_1 (by decide) rfl (fun c1 => ?_) (fun c1 => ?_)
    · skip
      have e4 : (pX8_putScalar_17_xS xS u1 u2) = xS := by rw [pX8_putScalar_17_xS, if_pos c1]
      rw [e4] at hJ3
      exact k_sub [0, 1, 2] rfl hJ3
    refine k_iload_n X dX8_putScalar_4 rfl 1 rfl rfl ?_
    refine k_bipush X dX8_putScalar_5 kc_b_32 rfl ?_
    refine k_icmp_ge (tgt := 17) X dX8_putScalar_7 (by decide) rfl (fun c2 => ?_) (fun c2 => ?_)
    · skip
      have e5 : (pX8_putScalar_17_xS xS u1 u2) = xS := by rw [pX8_putScalar_17_xS, if_neg c1, if_pos c2]
      rw [e5] at hJ3
      exact k_sub [0, 1, 2] rfl hJ3
    refine k_aload_n X dX8_putScalar_10 rfl 0 rfl rfl ?_
    refine k_get X i_wsX80 0 0 q2_19 rfl rfl rfl rfl rfl dX8_putScalar_11 rfl ?_
    refine k_iload_n X dX8_putScalar_14 rfl 1 rfl rfl ?_
    refine k_iload_n X dX8_putScalar_15 rfl 2 rfl rfl ?_
    refine k_iast (ws' := [(b_r, .inr (7, [.ref b_xS, .ref r_vectors, .ref r_type, .int r_length, .int r_start, .int r_rounding, .int r_saturated, .long r_choices])), (b_xS, .inl (kI, 32, .inl (upd xS (Int32.toNatClampNeg u1) u2)))]) X 1 0 rfl rfl (hok c1 c2) rfl dX8_putScalar_16 rfl ?_
    have e6 : (pX8_putScalar_17_xS xS u1 u2) = (upd xS (Int32.toNatClampNeg u1) u2) := by rw [pX8_putScalar_17_xS, if_neg c1, if_neg c2]
    rw [e6] at hJ3
    exact k_sub [0, 1, 2] rfl hJ3
  have e7 : (fX8_putScalar__xS xS u1 u2) = (pX8_putScalar_17_xS xS u1 u2) := by rw [fX8_putScalar__xS]
  exact k_vret X hRt hLk (by rw [e7]) dX8_putScalar_17
theorem vX8_putScalar : kVi yX8_putScalar cX8_putScalar 3 none 2 := ⟨q15_22, q1_16, q15_20, q15_21, by decide, by decide +kernel⟩
noncomputable def pX8_isChosen_21_S1 (r_choices : Int64) (u1 : Int32) : Int32 := (if ((lsru r_choices (u1 &&& (63 : Int32))) &&& (1 : Int64)) = (1 : Int64) then (1 : Int32) else (0 : Int32))
theorem zpX8_isChosen_21_S1 (r_choices : Int64) (u1 : Int32) : narrow .boolean (.int (pX8_isChosen_21_S1 r_choices u1)) = .int (pX8_isChosen_21_S1 r_choices u1) := by unfold pX8_isChosen_21_S1; exact (kzi rfl rfl)
noncomputable def fX8_isChosen (r_choices : Int64) (u1 : Int32) : Int32 := (pX8_isChosen_21_S1 r_choices u1)
theorem zX8_isChosen (r_choices : Int64) (u1 : Int32) : narrow .boolean (.int (fX8_isChosen r_choices u1)) = .int (fX8_isChosen r_choices u1) := by unfold fX8_isChosen; exact (zpX8_isChosen_21_S1 r_choices u1)
set_option maxRecDepth 100000 in
set_option maxHeartbeats 4000000 in
theorem kX8_isChosen (l : Launch) (D : va_G) (kI kZ : ClassId) (b_r : Nat) (r_scalars : Nat) (r_vectors : Nat) (r_type : Nat) (r_length : Int32) (r_start : Int32) (r_rounding : Int32) (r_saturated : Int32) (r_choices : Int64) (u1 : Int32) : kM l yX8_isChosen cX8_isChosen 2 (some .boolean) 0 0 0 0 D [(kI, .int), (kZ, .boolean)] [.ref b_r, .int u1] [(b_r, .inr (7, [.ref r_scalars, .ref r_vectors, .ref r_type, .int r_length, .int r_start, .int r_rounding, .int r_saturated, .long r_choices]))] (some (.int (fX8_isChosen r_choices u1))) [(b_r, .inr (7, [.ref r_scalars, .ref r_vectors, .ref r_type, .int r_length, .int r_start, .int r_rounding, .int r_saturated, .long r_choices]))] := by
  refine kM.of (by decide) rfl ?_
  intro p e R s m args below meth c A X _ _ hRt hLk
  refine k_sub [0, 1] (lv' := [(0, .ref b_r), (1, .int u1)]) rfl ?_
  refine k_aload_n X dX8_isChosen_0 rfl 0 rfl rfl ?_
  refine k_get X i_wsX80 0 7 q11_20 rfl rfl rfl rfl rfl dX8_isChosen_1 rfl ?_
  refine k_iload_n X dX8_isChosen_4 rfl 1 rfl rfl ?_
  refine k_bipush X dX8_isChosen_5 kc_b_63 rfl ?_
  refine k_iand X dX8_isChosen_7 rfl ?_
  refine k_lushr X dX8_isChosen_8 rfl ?_
  refine k_lconst (v := (1 : Int64)) X dX8_isChosen_9 rfl rfl ?_
  refine k_land X dX8_isChosen_10 rfl ?_
  refine k_lconst (v := (1 : Int64)) X dX8_isChosen_11 rfl rfl ?_
  refine k_mid2 [(b_r, .inr (7, [.ref r_scalars, .ref r_vectors, .ref r_type, .int r_length, .int r_start, .int r_rounding, .int r_saturated, .long r_choices]))] [(0, .ref b_r), (1, .int u1)] [.int (pX8_isChosen_21_S1 r_choices u1)] 21 (fun hJ2 => ?_) ?_
  · skip
    refine k_lcmp_ne (tgt := 20) X dX8_isChosen_12 rfl dX8_isChosen_13 (by decide) rfl (fun c1 => ?_) (fun c1 => ?_)
    · skip
      refine k_iconst X dX8_isChosen_16 kc_i_1 rfl ?_
      refine k_goto (tgt := 21) X dX8_isChosen_17 (by decide) ?_
      have e3 : (pX8_isChosen_21_S1 r_choices u1) = (1 : Int32) := by rw [pX8_isChosen_21_S1, if_pos c1]
      rw [e3] at hJ2
      exact k_sub [0, 1] rfl hJ2
    refine k_iconst X dX8_isChosen_20 kc_i_0 rfl ?_
    have e4 : (pX8_isChosen_21_S1 r_choices u1) = (0 : Int32) := by rw [pX8_isChosen_21_S1, if_neg c1]
    rw [e4] at hJ2
    exact k_sub [0, 1] rfl hJ2
  have e5 : (fX8_isChosen r_choices u1) = (pX8_isChosen_21_S1 r_choices u1) := by rw [fX8_isChosen]
  exact k_zret9 X hRt hLk (zpX8_isChosen_21_S1 r_choices u1) e5.symm rfl dX8_isChosen_21
theorem vX8_isChosen : kVi yX8_isChosen cX8_isChosen 2 (some .boolean) 1 := ⟨q11_19, q1_16, q11_17, q11_18, by decide, by decide +kernel⟩
noncomputable def pX6_close_26_S2 (y_shutPages : Int32) (u1 : Int32) (u2 : Int32) : Int32 := (if u2 = (0 : Int32) then (y_shutPages &&& ((shl (1 : Int32) u1) ^^^ (-1 : Int32))) else (y_shutPages ||| (shl (1 : Int32) u1)))
noncomputable def fX6_close__y_shutPages (y_shutPages : Int32) (u1 : Int32) (u2 : Int32) : Int32 := (pX6_close_26_S2 y_shutPages u1 u2)
set_option maxRecDepth 100000 in
set_option maxHeartbeats 4000000 in
theorem kX6_close (l : Launch) (D : va_G) (kI kZ : ClassId) (b_y : Nat) (y_words : Nat) (y_shutPages : Int32) (u1 : Int32) (u2 : Int32) : kM l yX6_close cX6_close 4 none 0 0 0 0 D [(kI, .int), (kZ, .boolean)] [.ref b_y, .int u1, .int u2] [(b_y, .inr (5, [.ref y_words, .int y_shutPages]))] none [(b_y, .inr (5, [.ref y_words, .int (fX6_close__y_shutPages y_shutPages u1 u2)]))] := by
  refine kM.of (by decide) rfl ?_
  intro p e R s m args below meth c A X _ _ hRt hLk
  refine k_sub [0, 1, 2] (lv' := [(0, .ref b_y), (1, .int u1), (2, .int u2)]) rfl ?_
  refine k_iconst X dX6_close_0 kc_i_1 rfl ?_
  refine k_iload_n X dX6_close_1 rfl 1 rfl rfl ?_
  refine k_ishl X dX6_close_2 rfl ?_
  refine k_istore_n (lv' := [(3, .int (shl (1 : Int32) u1)), (0, .ref b_y), (1, .int u1), (2, .int u2)]) X dX6_close_3 rfl rfl rfl rfl ?_
  refine k_aload_n X dX6_close_4 rfl 1 rfl rfl ?_
  refine k_iload_n X dX6_close_5 rfl 3 rfl rfl ?_
  refine k_mid2 [(b_y, .inr (5, [.ref y_words, .int y_shutPages]))] [(0, .ref b_y), (1, .int u1), (2, .int u2), (3, .int (shl (1 : Int32) u1))] [.int (pX6_close_26_S2 y_shutPages u1 u2), .ref b_y] 26 (fun hJ2 => ?_) ?_
  · skip
    refine k_if_eq (tgt := 18) X dX6_close_6 (by decide) rfl (fun c1 => ?_) (fun c1 => ?_)
    · skip
      refine k_aload_n X dX6_close_18 rfl 1 rfl rfl ?_
      refine k_get X i_wsX60 0 1 q12_13 rfl rfl rfl rfl rfl dX6_close_19 rfl ?_
      refine k_iload_n X dX6_close_22 rfl 0 rfl rfl ?_
      refine k_iconst X dX6_close_23 kc_i_m1 rfl ?_
      refine k_ixor X dX6_close_24 rfl ?_
      refine k_iand X dX6_close_25 rfl ?_
      have e3 : (pX6_close_26_S2 y_shutPages u1 u2) = (y_shutPages &&& ((shl (1 : Int32) u1) ^^^ (-1 : Int32))) := by rw [pX6_close_26_S2, if_pos c1]
      rw [e3] at hJ2
      exact k_sub [1, 2, 3, 0] rfl hJ2
    refine k_aload_n X dX6_close_9 rfl 1 rfl rfl ?_
    refine k_get X i_wsX60 0 1 q12_13 rfl rfl rfl rfl rfl dX6_close_10 rfl ?_
    refine k_iload_n X dX6_close_13 rfl 0 rfl rfl ?_
    refine k_ior X dX6_close_14 rfl ?_
    refine k_goto (tgt := 26) X dX6_close_15 (by decide) ?_
    have e4 : (pX6_close_26_S2 y_shutPages u1 u2) = (y_shutPages ||| (shl (1 : Int32) u1)) := by rw [pX6_close_26_S2, if_neg c1]
    rw [e4] at hJ2
    exact k_sub [1, 2, 3, 0] rfl hJ2
  refine k_put (ws' := [(b_y, .inr (5, [.ref y_words, .int (pX6_close_26_S2 y_shutPages u1 u2)]))]) X i_wsX60 tyX6 tyX6_ok nmX6 0 1 q12_13 rfl rfl rfl rfl rfl rfl rfl rfl rfl dX6_close_26 rfl ?_
  have e5 : (fX6_close__y_shutPages y_shutPages u1 u2) = (pX6_close_26_S2 y_shutPages u1 u2) := by rw [fX6_close__y_shutPages]
  exact k_vret X hRt hLk (by rw [e5]) dX6_close_29
theorem vX6_close : kVi yX6_close cX6_close 4 none 2 := ⟨q44_15, q1_20, q44_13, q44_14, by decide, by decide +kernel⟩
noncomputable def pX6_isOpenAt_19_S1 (y_shutPages : Int32) (u1 : Int32) : Int32 := (if ((sru y_shutPages (shr u1 (6 : Int32))) &&& (1 : Int32)) = (0 : Int32) then (1 : Int32) else (0 : Int32))
theorem zpX6_isOpenAt_19_S1 (y_shutPages : Int32) (u1 : Int32) : narrow .boolean (.int (pX6_isOpenAt_19_S1 y_shutPages u1)) = .int (pX6_isOpenAt_19_S1 y_shutPages u1) := by unfold pX6_isOpenAt_19_S1; exact (kzi rfl rfl)
noncomputable def fX6_isOpenAt (y_shutPages : Int32) (u1 : Int32) : Int32 := (pX6_isOpenAt_19_S1 y_shutPages u1)
theorem zX6_isOpenAt (y_shutPages : Int32) (u1 : Int32) : narrow .boolean (.int (fX6_isOpenAt y_shutPages u1)) = .int (fX6_isOpenAt y_shutPages u1) := by unfold fX6_isOpenAt; exact (zpX6_isOpenAt_19_S1 y_shutPages u1)
set_option maxRecDepth 100000 in
set_option maxHeartbeats 4000000 in
theorem kX6_isOpenAt (l : Launch) (D : va_G) (kI kZ : ClassId) (b_y : Nat) (y_words : Nat) (y_shutPages : Int32) (u1 : Int32) : kM l yX6_isOpenAt cX6_isOpenAt 2 (some .boolean) 0 0 0 0 D [(kI, .int), (kZ, .boolean)] [.ref b_y, .int u1] [(b_y, .inr (5, [.ref y_words, .int y_shutPages]))] (some (.int (fX6_isOpenAt y_shutPages u1))) [(b_y, .inr (5, [.ref y_words, .int y_shutPages]))] := by
  refine kM.of (by decide) rfl ?_
  intro p e R s m args below meth c A X _ _ hRt hLk
  refine k_sub [0, 1] (lv' := [(0, .ref b_y), (1, .int u1)]) rfl ?_
  refine k_aload_n X dX6_isOpenAt_0 rfl 0 rfl rfl ?_
  refine k_get X i_wsX60 0 1 q12_13 rfl rfl rfl rfl rfl dX6_isOpenAt_1 rfl ?_
  refine k_iload_n X dX6_isOpenAt_4 rfl 1 rfl rfl ?_
  refine k_bipush X dX6_isOpenAt_5 kc_b_6 rfl ?_
  refine k_ishr X dX6_isOpenAt_7 rfl ?_
  refine k_iushr X dX6_isOpenAt_8 rfl ?_
  refine k_iconst X dX6_isOpenAt_9 kc_i_1 rfl ?_
  refine k_iand X dX6_isOpenAt_10 rfl ?_
  refine k_mid2 [(b_y, .inr (5, [.ref y_words, .int y_shutPages]))] [(0, .ref b_y), (1, .int u1)] [.int (pX6_isOpenAt_19_S1 y_shutPages u1)] 19 (fun hJ2 => ?_) ?_
  · skip
    refine k_if_ne (tgt := 18) X dX6_isOpenAt_11 (by decide) rfl (fun c1 => ?_) (fun c1 => ?_)
    · skip
      refine k_iconst X dX6_isOpenAt_14 kc_i_1 rfl ?_
      refine k_goto (tgt := 19) X dX6_isOpenAt_15 (by decide) ?_
      have e3 : (pX6_isOpenAt_19_S1 y_shutPages u1) = (1 : Int32) := by rw [pX6_isOpenAt_19_S1, if_pos c1]
      rw [e3] at hJ2
      exact k_sub [0, 1] rfl hJ2
    refine k_iconst X dX6_isOpenAt_18 kc_i_0 rfl ?_
    have e4 : (pX6_isOpenAt_19_S1 y_shutPages u1) = (0 : Int32) := by rw [pX6_isOpenAt_19_S1, if_neg c1]
    rw [e4] at hJ2
    exact k_sub [0, 1] rfl hJ2
  have e5 : (fX6_isOpenAt y_shutPages u1) = (pX6_isOpenAt_19_S1 y_shutPages u1) := by rw [fX6_isOpenAt]
  exact k_zret9 X hRt hLk (zpX6_isOpenAt_19_S1 y_shutPages u1) e5.symm rfl dX6_isOpenAt_19
theorem vX6_isOpenAt : kVi yX6_isOpenAt cX6_isOpenAt 2 (some .boolean) 1 := ⟨q12_12, q1_20, q12_10, q12_11, by decide, by decide +kernel⟩
noncomputable def pX6_admits_40_S1 (y_shutPages : Int32) (u1 : Int32) (u2 : Int32) : Int32 := (if (fX6_isOpenAt y_shutPages u1) = (0 : Int32) then (0 : Int32) else (if (fX6_isOpenAt y_shutPages ((u1 + u2) - (1 : Int32))) = (0 : Int32) then (0 : Int32) else (1 : Int32)))
theorem zpX6_admits_40_S1 (y_shutPages : Int32) (u1 : Int32) (u2 : Int32) : narrow .boolean (.int (pX6_admits_40_S1 y_shutPages u1 u2)) = .int (pX6_admits_40_S1 y_shutPages u1 u2) := by unfold pX6_admits_40_S1; exact (kzi rfl (kzi rfl rfl))
noncomputable def fX6_admits (y_shutPages : Int32) (u1 : Int32) (u2 : Int32) : Int32 := (if u1 < (0 : Int32) then (0 : Int32) else (if u1 ≤ ((1024 : Int32) - u2) then (pX6_admits_40_S1 y_shutPages u1 u2) else (0 : Int32)))
theorem zX6_admits (y_shutPages : Int32) (u1 : Int32) (u2 : Int32) : narrow .boolean (.int (fX6_admits y_shutPages u1 u2)) = .int (fX6_admits y_shutPages u1 u2) := by unfold fX6_admits; exact (kzi rfl (kzi (zpX6_admits_40_S1 y_shutPages u1 u2) rfl))
set_option maxRecDepth 100000 in
set_option maxHeartbeats 4000000 in
theorem kX6_admits (l : Launch) (D : va_G) (kI kZ : ClassId) (b_y : Nat) (y_words : Nat) (y_shutPages : Int32) (u1 : Int32) (u2 : Int32) : kM l yX6_admits cX6_admits 3 (some .boolean) 1 13 0 0 D [(kI, .int), (kZ, .boolean)] [.ref b_y, .int u1, .int u2] [(b_y, .inr (5, [.ref y_words, .int y_shutPages]))] (some (.int (fX6_admits y_shutPages u1 u2))) [(b_y, .inr (5, [.ref y_words, .int y_shutPages]))] := by
  refine kM.of (by decide) rfl ?_
  intro p e R s m args below meth c A X _ _ hRt hLk
  refine k_sub [0, 1, 2] (lv' := [(0, .ref b_y), (1, .int u1), (2, .int u2)]) rfl ?_
  refine k_iload_n X dX6_admits_0 rfl 1 rfl rfl ?_
  refine k_if_lt (tgt := 13) X dX6_admits_1 (by decide) rfl (fun c1 => ?_) (fun c1 => ?_)
  · skip
    refine k_iconst X dX6_admits_13 kc_i_0 rfl ?_
    have e6 : (fX6_admits y_shutPages u1 u2) = (0 : Int32) := by rw [fX6_admits, if_pos c1]
    exact k_zret9 X hRt hLk rfl e6.symm rfl dX6_admits_14
  refine k_iload_n X dX6_admits_4 rfl 1 rfl rfl ?_
  refine k_sipush X dX6_admits_5 kc_s_1024 rfl ?_
  refine k_iload_n X dX6_admits_8 rfl 2 rfl rfl ?_
  refine k_isub X dX6_admits_9 rfl ?_
  refine k_icmp_le (tgt := 15) X dX6_admits_10 (by decide) rfl (fun c2 => ?_) (fun c2 => ?_)
  · skip
    refine k_aload_n X dX6_admits_15 rfl 0 rfl rfl ?_
    refine k_iload_n X dX6_admits_16 rfl 1 rfl rfl ?_
    refine k_cV1 (st := []) (ws' := [(b_y, .inr (5, [.ref y_words, .int y_shutPages]))]) (wr := []) (ci := 5) (q9 := 0) X [.int u1] 0 [0] [] [0] (kX6_isOpenAt l D kI kZ b_y y_words y_shutPages u1) vX6_isOpenAt q12_9 dX6_admits_17 rfl rfl rfl rfl rfl rfl rfl rfl rfl rfl rfl rfl rfl rfl rfl ?_
    refine k_mid2 [(b_y, .inr (5, [.ref y_words, .int y_shutPages]))] [(0, .ref b_y), (1, .int u1), (2, .int u2)] [.int (pX6_admits_40_S1 y_shutPages u1 u2)] 40 (fun hJ5 => ?_) ?_
    · skip
      refine k_if_eq (tgt := 39) X dX6_admits_20 (by decide) rfl (fun c3 => ?_) (fun c3 => ?_)
      · skip
        refine k_iconst X dX6_admits_39 kc_i_0 rfl ?_
        have e7 : (pX6_admits_40_S1 y_shutPages u1 u2) = (0 : Int32) := by rw [pX6_admits_40_S1, if_pos c3]
        rw [e7] at hJ5
        exact k_sub [0, 1, 2] rfl hJ5
      refine k_aload_n X dX6_admits_23 rfl 0 rfl rfl ?_
      refine k_iload_n X dX6_admits_24 rfl 1 rfl rfl ?_
      refine k_iload_n X dX6_admits_25 rfl 2 rfl rfl ?_
      refine k_iadd X dX6_admits_26 rfl ?_
      refine k_iconst X dX6_admits_27 kc_i_1 rfl ?_
      refine k_isub X dX6_admits_28 rfl ?_
      refine k_cV1 (st := []) (ws' := [(b_y, .inr (5, [.ref y_words, .int y_shutPages]))]) (wr := []) (ci := 5) (q9 := 0) X [.int ((u1 + u2) - (1 : Int32))] 0 [0] [] [0] (kX6_isOpenAt l D kI kZ b_y y_words y_shutPages ((u1 + u2) - (1 : Int32))) vX6_isOpenAt q12_9 dX6_admits_29 rfl rfl rfl rfl rfl rfl rfl rfl rfl rfl rfl rfl rfl rfl rfl ?_
      refine k_if_eq (tgt := 39) X dX6_admits_32 (by decide) rfl (fun c4 => ?_) (fun c4 => ?_)
      · skip
        refine k_iconst X dX6_admits_39 kc_i_0 rfl ?_
        have e8 : (pX6_admits_40_S1 y_shutPages u1 u2) = (0 : Int32) := by rw [pX6_admits_40_S1, if_neg c3, if_pos c4]
        rw [e8] at hJ5
        exact k_sub [0, 1, 2] rfl hJ5
      refine k_iconst X dX6_admits_35 kc_i_1 rfl ?_
      refine k_goto (tgt := 40) X dX6_admits_36 (by decide) ?_
      have e9 : (pX6_admits_40_S1 y_shutPages u1 u2) = (1 : Int32) := by rw [pX6_admits_40_S1, if_neg c3, if_neg c4]
      rw [e9] at hJ5
      exact k_sub [0, 1, 2] rfl hJ5
    have e10 : (fX6_admits y_shutPages u1 u2) = (pX6_admits_40_S1 y_shutPages u1 u2) := by rw [fX6_admits, if_neg c1, if_pos c2]
    exact k_zret9 X hRt hLk (zpX6_admits_40_S1 y_shutPages u1 u2) e10.symm rfl dX6_admits_40
  refine k_iconst X dX6_admits_13 kc_i_0 rfl ?_
  have e11 : (fX6_admits y_shutPages u1 u2) = (0 : Int32) := by rw [fX6_admits, if_neg c1, if_neg c2]
  exact k_zret9 X hRt hLk rfl e11.symm rfl dX6_admits_14
theorem vX6_admits : kVi yX6_admits cX6_admits 3 (some .boolean) 2 := ⟨q12_8, q1_20, q12_6, q12_7, by decide, by decide +kernel⟩
noncomputable def fX6_byteAt (xW : Nat → Int32) (u1 : Int32) : Int32 := (if (shr u1 (2 : Int32)) < (0 : Int32) then (0 : Int32) else (if (shr u1 (2 : Int32)) < (256 : Int32) then ((sru (xW (Int32.toNatClampNeg (shr u1 (2 : Int32)))) ((8 : Int32) * (u1 &&& (3 : Int32)))) &&& (255 : Int32)) else (0 : Int32)))
noncomputable def okX6_byteAt (u1 : Int32) : Prop := (¬ ((shr u1 (2 : Int32)) < (0 : Int32)) → ((shr u1 (2 : Int32)) < (256 : Int32)) → vp_in (shr u1 (2 : Int32)) 256)
set_option maxRecDepth 100000 in
set_option maxHeartbeats 4000000 in
theorem kX6_byteAt (l : Launch) (D : va_G) (kI kZ : ClassId) (b_y : Nat) (b_xW : Nat) (y_shutPages : Int32) (xW : Nat → Int32) (u1 : Int32) (hok : okX6_byteAt u1) : kM l yX6_byteAt cX6_byteAt 3 (some .int) 0 0 0 0 D [(kI, .int), (kZ, .boolean)] [.ref b_y, .int u1] [(b_y, .inr (5, [.ref b_xW, .int y_shutPages])), (b_xW, .inl (kI, 256, .inl xW))] (some (.int (fX6_byteAt xW u1))) [(b_y, .inr (5, [.ref b_xW, .int y_shutPages])), (b_xW, .inl (kI, 256, .inl xW))] := by
  refine kM.of (by decide) rfl ?_
  intro p e R s m args below meth c A X _ _ hRt hLk
  refine k_sub [0, 1] (lv' := [(0, .ref b_y), (1, .int u1)]) rfl ?_
  unfold okX6_byteAt at hok
  refine k_iload_n X dX6_byteAt_0 rfl 1 rfl rfl ?_
  refine k_iconst X dX6_byteAt_1 kc_i_2 rfl ?_
  refine k_ishr X dX6_byteAt_2 rfl ?_
  refine k_istore_n (lv' := [(2, .int (shr u1 (2 : Int32))), (0, .ref b_y), (1, .int u1)]) X dX6_byteAt_3 rfl rfl rfl rfl ?_
  refine k_iload_n X dX6_byteAt_4 rfl 0 rfl rfl ?_
  refine k_if_lt (tgt := 15) X dX6_byteAt_5 (by decide) rfl (fun c1 => ?_) (fun c1 => ?_)
  · skip
    refine k_iconst X dX6_byteAt_15 kc_i_0 rfl ?_
    have e3 : (fX6_byteAt xW u1) = (0 : Int32) := by rw [fX6_byteAt, if_pos c1]
    exact k_iret9 X hRt hLk e3.symm rfl dX6_byteAt_16
  refine k_iload_n X dX6_byteAt_8 rfl 0 rfl rfl ?_
  refine k_sipush X dX6_byteAt_9 kc_s_256 rfl ?_
  refine k_icmp_lt (tgt := 17) X dX6_byteAt_12 (by decide) rfl (fun c2 => ?_) (fun c2 => ?_)
  · skip
    refine k_aload_n X dX6_byteAt_17 rfl 1 rfl rfl ?_
    refine k_get X i_wsX60 0 0 q3_11 rfl rfl rfl rfl rfl dX6_byteAt_18 rfl ?_
    refine k_iload_n X dX6_byteAt_21 rfl 0 rfl rfl ?_
    refine k_iald X 1 0 rfl rfl (hok c1 c2) dX6_byteAt_22 rfl ?_
    refine k_bipush X dX6_byteAt_23 kc_b_8 rfl ?_
    refine k_iload_n X dX6_byteAt_25 rfl 2 rfl rfl ?_
    refine k_iconst X dX6_byteAt_26 kc_i_3 rfl ?_
    refine k_iand X dX6_byteAt_27 rfl ?_
    refine k_imul X dX6_byteAt_28 rfl ?_
    refine k_iushr X dX6_byteAt_29 rfl ?_
    refine k_sipush X dX6_byteAt_30 kc_s_255 rfl ?_
    refine k_iand X dX6_byteAt_33 rfl ?_
    have e4 : (fX6_byteAt xW u1) = ((sru (xW (Int32.toNatClampNeg (shr u1 (2 : Int32)))) ((8 : Int32) * (u1 &&& (3 : Int32)))) &&& (255 : Int32)) := by rw [fX6_byteAt, if_neg c1, if_pos c2]
    exact k_iret9 X hRt hLk e4.symm rfl dX6_byteAt_34
  refine k_iconst X dX6_byteAt_15 kc_i_0 rfl ?_
  have e5 : (fX6_byteAt xW u1) = (0 : Int32) := by rw [fX6_byteAt, if_neg c1, if_neg c2]
  exact k_iret9 X hRt hLk e5.symm rfl dX6_byteAt_16
theorem vX6_byteAt : kVi yX6_byteAt cX6_byteAt 3 (some .int) 1 := ⟨q13_9, q1_20, q13_7, q13_8, by decide, by decide +kernel⟩
noncomputable def eX6_putByte_49 (xW : Nat → Int32) (u1 : Int32) (u2 : Int32) : Int32 := (((xW (Int32.toNatClampNeg (shr u1 (2 : Int32)))) &&& ((shl (255 : Int32) ((8 : Int32) * (u1 &&& (3 : Int32)))) ^^^ (-1 : Int32))) ||| (shl u2 ((8 : Int32) * (u1 &&& (3 : Int32)))))
noncomputable def fX6_putByte__xW (xW : Nat → Int32) (u1 : Int32) (u2 : Int32) : Nat → Int32 := (if (shr u1 (2 : Int32)) < (0 : Int32) then xW else (if (shr u1 (2 : Int32)) < (256 : Int32) then (upd xW (Int32.toNatClampNeg (shr u1 (2 : Int32))) (eX6_putByte_49 xW u1 u2)) else xW))
noncomputable def okX6_putByte (u1 : Int32) : Prop := (¬ ((shr u1 (2 : Int32)) < (0 : Int32)) → ((shr u1 (2 : Int32)) < (256 : Int32)) → vp_in (shr u1 (2 : Int32)) 256)
set_option maxRecDepth 100000 in
set_option maxHeartbeats 4000000 in
theorem kX6_putByte (l : Launch) (D : va_G) (kI kZ : ClassId) (b_y : Nat) (b_xW : Nat) (y_shutPages : Int32) (xW : Nat → Int32) (u1 : Int32) (u2 : Int32) (hok : okX6_putByte u1) : kM l yX6_putByte cX6_putByte 5 none 0 0 0 0 D [(kI, .int), (kZ, .boolean)] [.ref b_y, .int u1, .int u2] [(b_y, .inr (5, [.ref b_xW, .int y_shutPages])), (b_xW, .inl (kI, 256, .inl xW))] none [(b_y, .inr (5, [.ref b_xW, .int y_shutPages])), (b_xW, .inl (kI, 256, .inl (fX6_putByte__xW xW u1 u2)))] := by
  refine kM.of (by decide) rfl ?_
  intro p e R s m args below meth c A X _ _ hRt hLk
  refine k_sub [0, 1, 2] (lv' := [(0, .ref b_y), (1, .int u1), (2, .int u2)]) rfl ?_
  unfold okX6_putByte at hok
  refine k_iload_n X dX6_putByte_0 rfl 1 rfl rfl ?_
  refine k_iconst X dX6_putByte_1 kc_i_2 rfl ?_
  refine k_ishr X dX6_putByte_2 rfl ?_
  refine k_istore_n (lv' := [(3, .int (shr u1 (2 : Int32))), (0, .ref b_y), (1, .int u1), (2, .int u2)]) X dX6_putByte_3 rfl rfl rfl rfl ?_
  refine k_iload_n X dX6_putByte_4 rfl 0 rfl rfl ?_
  refine k_if_lt (tgt := 15) X dX6_putByte_5 (by decide) rfl (fun c1 => ?_) (fun c1 => ?_)
  · skip
    have e3 : (fX6_putByte__xW xW u1 u2) = xW := by rw [fX6_putByte__xW, if_pos c1]
    exact k_vret X hRt hLk (by rw [e3]) dX6_putByte_15
  refine k_iload_n X dX6_putByte_8 rfl 0 rfl rfl ?_
  refine k_sipush X dX6_putByte_9 kc_s_256 rfl ?_
  refine k_icmp_lt (tgt := 16) X dX6_putByte_12 (by decide) rfl (fun c2 => ?_) (fun c2 => ?_)
  · skip
    refine k_bipush X dX6_putByte_16 kc_b_8 rfl ?_
    refine k_iload_n X dX6_putByte_18 rfl 2 rfl rfl ?_
    refine k_iconst X dX6_putByte_19 kc_i_3 rfl ?_
    refine k_iand X dX6_putByte_20 rfl ?_
    refine k_imul X dX6_putByte_21 rfl ?_
    refine k_istore (lv' := [(4, .int ((8 : Int32) * (u1 &&& (3 : Int32)))), (3, .int (shr u1 (2 : Int32))), (0, .ref b_y), (1, .int u1), (2, .int u2)]) X dX6_putByte_22 rfl rfl rfl ?_
    refine k_aload_n X dX6_putByte_24 rfl 2 rfl rfl ?_
    refine k_get X i_wsX60 0 0 q3_11 rfl rfl rfl rfl rfl dX6_putByte_25 rfl ?_
    refine k_iload_n X dX6_putByte_28 rfl 1 rfl rfl ?_
    refine k_aload_n X dX6_putByte_29 rfl 2 rfl rfl ?_
    refine k_get X i_wsX60 0 0 q3_11 rfl rfl rfl rfl rfl dX6_putByte_30 rfl ?_
    refine k_iload_n X dX6_putByte_33 rfl 1 rfl rfl ?_
    refine k_iald X 1 0 rfl rfl (hok c1 c2) dX6_putByte_34 rfl ?_
    refine k_sipush X dX6_putByte_35 kc_s_255 rfl ?_
    refine k_iload X dX6_putByte_38 0 rfl rfl ?_
    refine k_ishl X dX6_putByte_40 rfl ?_
    refine k_iconst X dX6_putByte_41 kc_i_m1 rfl ?_
    refine k_ixor X dX6_putByte_42 rfl ?_
    refine k_iand X dX6_putByte_43 rfl ?_
    refine k_iload_n X dX6_putByte_44 rfl 4 rfl rfl ?_
    refine k_iload X dX6_putByte_45 0 rfl rfl ?_
    refine k_ishl X dX6_putByte_47 rfl ?_
    refine k_ior X dX6_putByte_48 rfl ?_
    refine k_foldi (v := (eX6_putByte_49 xW u1 u2)) rfl ?_
    refine k_iast (ws' := [(b_y, .inr (5, [.ref b_xW, .int y_shutPages])), (b_xW, .inl (kI, 256, .inl (upd xW (Int32.toNatClampNeg (shr u1 (2 : Int32))) (eX6_putByte_49 xW u1 u2))))]) X 1 0 rfl rfl (hok c1 c2) rfl dX6_putByte_49 rfl ?_
    have e4 : (fX6_putByte__xW xW u1 u2) = (upd xW (Int32.toNatClampNeg (shr u1 (2 : Int32))) (eX6_putByte_49 xW u1 u2)) := by rw [fX6_putByte__xW, if_neg c1, if_pos c2]
    exact k_vret X hRt hLk (by rw [e4]) dX6_putByte_50
  have e5 : (fX6_putByte__xW xW u1 u2) = xW := by rw [fX6_putByte__xW, if_neg c1, if_neg c2]
  exact k_vret X hRt hLk (by rw [e5]) dX6_putByte_15
theorem vX6_putByte : kVi yX6_putByte cX6_putByte 5 none 2 := ⟨q13_1, q1_20, q12_23, q13_0, by decide, by decide +kernel⟩
noncomputable def eX6_load_28 (xW : Nat → Int32) (u1 : Int32) (w_L5 : Int32) (w_L3 : Int64) : Int64 := (w_L3 ||| (lshl (Int32.toInt64 (fX6_byteAt xW (u1 + w_L5))) ((8 : Int32) * w_L5)))
noncomputable def tX6_load_5 (u2 : Int32) (w_L5 : Int32) (w_L3 : Int64) : Prop := (if u2 ≤ w_L5 then False else True)
noncomputable def bX6_load_5_L5 (u2 : Int32) (w_L5 : Int32) (w_L3 : Int64) : Int32 := (if u2 ≤ w_L5 then w_L5 else (w_L5 + (1 : Int32)))
noncomputable def bX6_load_5_L3 (xW : Nat → Int32) (u1 : Int32) (u2 : Int32) (w_L5 : Int32) (w_L3 : Int64) : Int64 := (if u2 ≤ w_L5 then w_L3 else (eX6_load_28 xW u1 w_L5 w_L3))
noncomputable def LX6_load_5 (xW : Nat → Int32) (u1 : Int32) (u2 : Int32) : Nat → Int32 × Int64 → Int32 × Int64
  | 0, s => s
  | n + 1, s => LX6_load_5 xW u1 u2 n ((bX6_load_5_L5 u2 s.1 s.2), (bX6_load_5_L3 xW u1 u2 s.1 s.2))
noncomputable def oX6_load_5 (u1 : Int32) (u2 : Int32) (w_L5 : Int32) (w_L3 : Int64) : Prop := (¬ (u2 ≤ w_L5) → okX6_byteAt (u1 + w_L5))
noncomputable def KX6_load_5 (xW : Nat → Int32) (u1 : Int32) (u2 : Int32) : Nat → Int32 × Int64 → Prop
  | 0, _ => True
  | n + 1, s => (tX6_load_5 u2 s.1 s.2 ∧ oX6_load_5 u1 u2 s.1 s.2) ∧ KX6_load_5 xW u1 u2 n ((bX6_load_5_L5 u2 s.1 s.2), (bX6_load_5_L3 xW u1 u2 s.1 s.2))
theorem itX6_load_5 (xW : Nat → Int32) (u1 : Int32) (u2 : Int32) {b9 : Nat} (h9 : u2 = nI b9) (hb9 : b9 < 2147483648) : ∀ (n a : Nat) (w_L3 : Int64), a + n ≤ b9 → LX6_load_5 xW u1 u2 n (nI a, w_L3) = (nI (a + n), itr (fun k s => ((eX6_load_28 xW u1 (nI k) s))) n a (w_L3))
  | 0, a, w_L3, _ => rfl
  | n + 1, a, w_L3, h => by
    have hc : ¬ (u2 ≤ nI a) := by rw [h9]; exact nI_ge (by omega) hb9
    have e0 : bX6_load_5_L5 u2 (nI a) w_L3 = nI (a + 1) := by rw [bX6_load_5_L5, if_neg hc, nI_1]
    have e1 : bX6_load_5_L3 xW u1 u2 (nI a) w_L3 = (eX6_load_28 xW u1 (nI a) w_L3) := by rw [bX6_load_5_L3, if_neg hc]
    show LX6_load_5 xW u1 u2 n (bX6_load_5_L5 u2 (nI a) w_L3, bX6_load_5_L3 xW u1 u2 (nI a) w_L3) = _
    rw [e0, e1, itX6_load_5 xW u1 u2 h9 hb9 n (a + 1) _ (by omega), show a + (n + 1) = a + 1 + n by omega]; rfl
theorem ktX6_load_5 (xW : Nat → Int32) (u1 : Int32) (u2 : Int32) {b9 : Nat} (h9 : u2 = nI b9) (hb9 : b9 < 2147483648) (I : Nat → Int64 → Prop) (hI : ∀ (a : Nat) (w_L3 : Int64), I a (w_L3) → a < b9 → oX6_load_5 u1 u2 (nI a) w_L3 ∧ I (a + 1) ((eX6_load_28 xW u1 (nI a) w_L3))) : ∀ (n a : Nat) (w_L3 : Int64), a + n ≤ b9 → I a (w_L3) → KX6_load_5 xW u1 u2 n (nI a, w_L3)
  | 0, a, w_L3, _, _ => True.intro
  | n + 1, a, w_L3, h, hi => by
    have hc : ¬ (u2 ≤ nI a) := by rw [h9]; exact nI_ge (by omega) hb9
    have e0 : bX6_load_5_L5 u2 (nI a) w_L3 = nI (a + 1) := by rw [bX6_load_5_L5, if_neg hc, nI_1]
    have e1 : bX6_load_5_L3 xW u1 u2 (nI a) w_L3 = (eX6_load_28 xW u1 (nI a) w_L3) := by rw [bX6_load_5_L3, if_neg hc]
    obtain ⟨h1, h2⟩ := hI a w_L3 hi (by omega)
    show (tX6_load_5 u2 (nI a) w_L3 ∧ oX6_load_5 u1 u2 (nI a) w_L3) ∧ KX6_load_5 xW u1 u2 n (bX6_load_5_L5 u2 (nI a) w_L3, bX6_load_5_L3 xW u1 u2 (nI a) w_L3)
    refine ⟨⟨by rw [tX6_load_5, if_neg hc]; exact True.intro, h1⟩, ?_⟩
    rw [e0, e1]; exact ktX6_load_5 xW u1 u2 h9 hb9 I hI n (a + 1) _ (by omega) h2
theorem ntX6_load_5 (xW : Nat → Int32) (u1 : Int32) (u2 : Int32) {b9 : Nat} (h9 : u2 = nI b9) (hb9 : b9 < 2147483648) (w_L3 : Int64) : ¬ tX6_load_5 u2 (nI b9) w_L3 := by rw [tX6_load_5, if_pos (by rw [h9]; exact Int32.le_refl _)]; exact id
noncomputable def fX6_load (xW : Nat → Int32) (u1 : Int32) (u2 : Int32) : Int64 := (LX6_load_5 xW u1 u2 (cnt (0 : Int32) u2) ((0 : Int32), (0 : Int64))).2
noncomputable def okX6_load (xW : Nat → Int32) (u1 : Int32) (u2 : Int32) : Prop := (KX6_load_5 xW u1 u2 (cnt (0 : Int32) u2) ((0 : Int32), (0 : Int64))) ∧ (¬ (tX6_load_5 u2 ((LX6_load_5 xW u1 u2 (cnt (0 : Int32) u2) ((0 : Int32), (0 : Int64))).1) ((LX6_load_5 xW u1 u2 (cnt (0 : Int32) u2) ((0 : Int32), (0 : Int64))).2))) ∧ (¬ (u2 ≤ (LX6_load_5 xW u1 u2 (cnt (0 : Int32) u2) ((0 : Int32), (0 : Int64))).1) → okX6_byteAt (u1 + (LX6_load_5 xW u1 u2 (cnt (0 : Int32) u2) ((0 : Int32), (0 : Int64))).1))
set_option maxRecDepth 100000 in
set_option maxHeartbeats 4000000 in
theorem kX6_load (l : Launch) (D : va_G) (kI kZ : ClassId) (b_y : Nat) (b_xW : Nat) (y_shutPages : Int32) (xW : Nat → Int32) (u1 : Int32) (u2 : Int32) (hok : okX6_load xW u1 u2) : kM l yX6_load cX6_load 6 (some .long) 1 16 0 0 D [(kI, .int), (kZ, .boolean)] [.ref b_y, .int u1, .int u2] [(b_y, .inr (5, [.ref b_xW, .int y_shutPages])), (b_xW, .inl (kI, 256, .inl xW))] (some (.long (fX6_load xW u1 u2))) [(b_y, .inr (5, [.ref b_xW, .int y_shutPages])), (b_xW, .inl (kI, 256, .inl xW))] := by
  refine kM.of (by decide) rfl ?_
  intro p e R s m args below meth c A X _ _ hRt hLk
  refine k_sub [0, 1, 2] (lv' := [(0, .ref b_y), (1, .int u1), (2, .int u2)]) rfl ?_
  unfold okX6_load at hok
  refine k_lconst (v := (0 : Int64)) X dX6_load_0 rfl rfl ?_
  refine k_lstore_n (lv' := [(3, .long (0 : Int64)), (0, .ref b_y), (1, .int u1), (2, .int u2)]) X dX6_load_1 rfl rfl rfl rfl ?_
  refine k_iconst X dX6_load_2 kc_i_0 rfl ?_
  refine k_istore (lv' := [(5, .int (0 : Int32)), (3, .long (0 : Int64)), (0, .ref b_y), (1, .int u1), (2, .int u2)]) X dX6_load_3 rfl rfl rfl ?_
  refine k_sub [2, 3, 4, 1, 0] (lv' := [(0, .ref b_y), (1, .int u1), (2, .int u2), (3, .long (0 : Int64)), (5, .int (0 : Int32))]) rfl ?_
  refine k_loop (KX6_load_5 xW u1 u2) (LX6_load_5 xW u1 u2) (fun s9 => (bX6_load_5_L5 u2 s9.1 s9.2, bX6_load_5_L3 xW u1 u2 s9.1 s9.2)) (fun s9 => tX6_load_5 u2 s9.1 s9.2 ∧ oX6_load_5 u1 u2 s9.1 s9.2) (fun s9 => [(b_y, .inr (5, [.ref b_xW, .int y_shutPages])), (b_xW, .inl (kI, 256, .inl xW))]) (fun s9 => [(0, .ref b_y), (1, .int u1), (2, .int u2), (3, .long s9.2), (5, .int s9.1)]) 5 (fun _ => rfl) (fun _ _ => rfl) (fun _ _ h => h) ?_ (cnt (0 : Int32) u2) ((0 : Int32), (0 : Int64)) (hok.1) ?_
  · rintro ⟨w_L5, w_L3⟩ ⟨hlat, hob⟩ g0
    try dsimp only at hlat hob g0 ⊢
    unfold oX6_load_5 at hob
    refine k_iload X dX6_load_5 4 rfl rfl ?_
    refine k_iload_n X dX6_load_7 rfl 2 rfl rfl ?_
    refine k_icmp_ge (tgt := 35) X dX6_load_8 (by decide) rfl (fun c1 => ?_) (fun c1 => ?_)
    · skip
      exact absurd hlat (by rw [tX6_load_5, if_pos c1]; exact id)
    refine k_lload_n X dX6_load_11 rfl 3 rfl rfl ?_
    refine k_aload_n X dX6_load_12 rfl 0 rfl rfl ?_
    refine k_iload_n X dX6_load_13 rfl 1 rfl rfl ?_
    refine k_iload X dX6_load_14 4 rfl rfl ?_
    refine k_iadd X dX6_load_16 rfl ?_
    refine k_cV1 (st := [.long w_L3]) (ws' := [(b_y, .inr (5, [.ref b_xW, .int y_shutPages])), (b_xW, .inl (kI, 256, .inl xW))]) (wr := []) (ci := 5) (q9 := 0) X [.int (u1 + w_L5)] 2 [0, 1] [] [0, 1] (kX6_byteAt l D kI kZ b_y b_xW y_shutPages xW (u1 + w_L5) (hob c1)) vX6_byteAt q13_6 dX6_load_17 rfl rfl rfl rfl rfl rfl rfl rfl rfl rfl rfl rfl rfl rfl rfl ?_
    refine k_i2l X dX6_load_20 rfl ?_
    refine k_bipush X dX6_load_21 kc_b_8 rfl ?_
    refine k_iload X dX6_load_23 4 rfl rfl ?_
    refine k_imul X dX6_load_25 rfl ?_
    refine k_lshl X dX6_load_26 rfl ?_
    refine k_lor X dX6_load_27 rfl ?_
    refine k_foldl (v := (eX6_load_28 xW u1 w_L5 w_L3)) rfl ?_
    refine k_lstore_n (lv' := [(3, .long (eX6_load_28 xW u1 w_L5 w_L3)), (0, .ref b_y), (1, .int u1), (2, .int u2), (5, .int w_L5)]) X dX6_load_28 rfl rfl rfl rfl ?_
    refine k_iinc (lv' := [(5, .int (w_L5 + (1 : Int32))), (3, .long (eX6_load_28 xW u1 w_L5 w_L3)), (0, .ref b_y), (1, .int u1), (2, .int u2)]) X dX6_load_29 4 rfl kc_i_1 rfl rfl rfl ?_
    refine k_goto (tgt := 5) X dX6_load_32 (by decide) ?_
    have e3 : bX6_load_5_L5 u2 w_L5 w_L3 = (w_L5 + (1 : Int32)) := by rw [bX6_load_5_L5, if_neg c1]
    rw [e3] at g0
    have e4 : bX6_load_5_L3 xW u1 u2 w_L5 w_L3 = (eX6_load_28 xW u1 w_L5 w_L3) := by rw [bX6_load_5_L3, if_neg c1]
    rw [e4] at g0
    exact k_sub [2, 3, 4, 1, 0] rfl g0
  try dsimp only
  refine k_iload X dX6_load_5 4 rfl rfl ?_
  refine k_iload_n X dX6_load_7 rfl 2 rfl rfl ?_
  refine k_icmp_ge (tgt := 35) X dX6_load_8 (by decide) rfl (fun c2 => ?_) (fun c2 => ?_)
  · skip
    refine k_lload_n X dX6_load_35 rfl 3 rfl rfl ?_
    have e5 : (fX6_load xW u1 u2) = (LX6_load_5 xW u1 u2 (cnt (0 : Int32) u2) ((0 : Int32), (0 : Int64))).2 := by rw [fX6_load]
    exact k_lret9 X hRt hLk e5.symm rfl dX6_load_36
  refine k_lload_n X dX6_load_11 rfl 3 rfl rfl ?_
  refine k_aload_n X dX6_load_12 rfl 0 rfl rfl ?_
  refine k_iload_n X dX6_load_13 rfl 1 rfl rfl ?_
  refine k_iload X dX6_load_14 4 rfl rfl ?_
  refine k_iadd X dX6_load_16 rfl ?_
  refine k_cV1 (st := [.long ((LX6_load_5 xW u1 u2 (cnt (0 : Int32) u2) ((0 : Int32), (0 : Int64))).2)]) (ws' := [(b_y, .inr (5, [.ref b_xW, .int y_shutPages])), (b_xW, .inl (kI, 256, .inl xW))]) (wr := []) (ci := 5) (q9 := 0) X [.int (u1 + (LX6_load_5 xW u1 u2 (cnt (0 : Int32) u2) ((0 : Int32), (0 : Int64))).1)] 2 [0, 1] [] [0, 1] (kX6_byteAt l D kI kZ b_y b_xW y_shutPages xW (u1 + (LX6_load_5 xW u1 u2 (cnt (0 : Int32) u2) ((0 : Int32), (0 : Int64))).1) (hok.2.2 c2)) vX6_byteAt q13_6 dX6_load_17 rfl rfl rfl rfl rfl rfl rfl rfl rfl rfl rfl rfl rfl rfl rfl ?_
  refine k_i2l X dX6_load_20 rfl ?_
  refine k_bipush X dX6_load_21 kc_b_8 rfl ?_
  refine k_iload X dX6_load_23 4 rfl rfl ?_
  refine k_imul X dX6_load_25 rfl ?_
  refine k_lshl X dX6_load_26 rfl ?_
  refine k_lor X dX6_load_27 rfl ?_
  refine k_foldl (v := (eX6_load_28 xW u1 ((LX6_load_5 xW u1 u2 (cnt (0 : Int32) u2) ((0 : Int32), (0 : Int64))).1) ((LX6_load_5 xW u1 u2 (cnt (0 : Int32) u2) ((0 : Int32), (0 : Int64))).2))) rfl ?_
  refine k_lstore_n (lv' := [(3, .long (eX6_load_28 xW u1 ((LX6_load_5 xW u1 u2 (cnt (0 : Int32) u2) ((0 : Int32), (0 : Int64))).1) ((LX6_load_5 xW u1 u2 (cnt (0 : Int32) u2) ((0 : Int32), (0 : Int64))).2))), (0, .ref b_y), (1, .int u1), (2, .int u2), (5, .int ((LX6_load_5 xW u1 u2 (cnt (0 : Int32) u2) ((0 : Int32), (0 : Int64))).1))]) X dX6_load_28 rfl rfl rfl rfl ?_
  refine k_iinc (lv' := [(5, .int ((LX6_load_5 xW u1 u2 (cnt (0 : Int32) u2) ((0 : Int32), (0 : Int64))).1 + (1 : Int32))), (3, .long (eX6_load_28 xW u1 ((LX6_load_5 xW u1 u2 (cnt (0 : Int32) u2) ((0 : Int32), (0 : Int64))).1) ((LX6_load_5 xW u1 u2 (cnt (0 : Int32) u2) ((0 : Int32), (0 : Int64))).2))), (0, .ref b_y), (1, .int u1), (2, .int u2)]) X dX6_load_29 4 rfl kc_i_1 rfl rfl rfl ?_
  refine k_goto (tgt := 5) X dX6_load_32 (by decide) ?_
  exact absurd (show tX6_load_5 u2 ((LX6_load_5 xW u1 u2 (cnt (0 : Int32) u2) ((0 : Int32), (0 : Int64))).1) ((LX6_load_5 xW u1 u2 (cnt (0 : Int32) u2) ((0 : Int32), (0 : Int64))).2) from by rw [tX6_load_5, if_neg c2]; exact True.intro) (hok.2.1)
theorem vX6_load : kVi yX6_load cX6_load 6 (some .long) 2 := ⟨q13_5, q1_20, q13_3, q13_4, by decide, by decide +kernel⟩
noncomputable def tX6_store_3 (u2 : Int32) (w_L5 : Int32) (w_xW : Nat → Int32) : Prop := (if u2 ≤ w_L5 then False else True)
noncomputable def bX6_store_3_L5 (u2 : Int32) (w_L5 : Int32) (w_xW : Nat → Int32) : Int32 := (if u2 ≤ w_L5 then w_L5 else (w_L5 + (1 : Int32)))
noncomputable def bX6_store_3_xW (u1 : Int32) (u2 : Int32) (u3 : Int64) (w_L5 : Int32) (w_xW : Nat → Int32) : Nat → Int32 := (if u2 ≤ w_L5 then w_xW else (fX6_putByte__xW w_xW (u1 + w_L5) ((Int64.toInt32 (lsru u3 ((8 : Int32) * w_L5))) &&& (255 : Int32))))
noncomputable def LX6_store_3 (u1 : Int32) (u2 : Int32) (u3 : Int64) : Nat → Int32 × (Nat → Int32) → Int32 × (Nat → Int32)
  | 0, s => s
  | n + 1, s => LX6_store_3 u1 u2 u3 n ((bX6_store_3_L5 u2 s.1 s.2), (bX6_store_3_xW u1 u2 u3 s.1 s.2))
noncomputable def oX6_store_3 (u1 : Int32) (u2 : Int32) (w_L5 : Int32) (w_xW : Nat → Int32) : Prop := (¬ (u2 ≤ w_L5) → okX6_putByte (u1 + w_L5))
noncomputable def KX6_store_3 (u1 : Int32) (u2 : Int32) (u3 : Int64) : Nat → Int32 × (Nat → Int32) → Prop
  | 0, _ => True
  | n + 1, s => (tX6_store_3 u2 s.1 s.2 ∧ oX6_store_3 u1 u2 s.1 s.2) ∧ KX6_store_3 u1 u2 u3 n ((bX6_store_3_L5 u2 s.1 s.2), (bX6_store_3_xW u1 u2 u3 s.1 s.2))
theorem itX6_store_3 (u1 : Int32) (u2 : Int32) (u3 : Int64) {b9 : Nat} (h9 : u2 = nI b9) (hb9 : b9 < 2147483648) : ∀ (n a : Nat) (w_xW : Nat → Int32), a + n ≤ b9 → LX6_store_3 u1 u2 u3 n (nI a, w_xW) = (nI (a + n), itr (fun k s => ((fX6_putByte__xW s (u1 + (nI k)) ((Int64.toInt32 (lsru u3 ((8 : Int32) * (nI k)))) &&& (255 : Int32))))) n a (w_xW))
  | 0, a, w_xW, _ => rfl
  | n + 1, a, w_xW, h => by
    have hc : ¬ (u2 ≤ nI a) := by rw [h9]; exact nI_ge (by omega) hb9
    have e0 : bX6_store_3_L5 u2 (nI a) w_xW = nI (a + 1) := by rw [bX6_store_3_L5, if_neg hc, nI_1]
    have e1 : bX6_store_3_xW u1 u2 u3 (nI a) w_xW = (fX6_putByte__xW w_xW (u1 + (nI a)) ((Int64.toInt32 (lsru u3 ((8 : Int32) * (nI a)))) &&& (255 : Int32))) := by rw [bX6_store_3_xW, if_neg hc]
    show LX6_store_3 u1 u2 u3 n (bX6_store_3_L5 u2 (nI a) w_xW, bX6_store_3_xW u1 u2 u3 (nI a) w_xW) = _
    rw [e0, e1, itX6_store_3 u1 u2 u3 h9 hb9 n (a + 1) _ (by omega), show a + (n + 1) = a + 1 + n by omega]; rfl
theorem ktX6_store_3 (u1 : Int32) (u2 : Int32) (u3 : Int64) {b9 : Nat} (h9 : u2 = nI b9) (hb9 : b9 < 2147483648) (I : Nat → (Nat → Int32) → Prop) (hI : ∀ (a : Nat) (w_xW : Nat → Int32), I a (w_xW) → a < b9 → oX6_store_3 u1 u2 (nI a) w_xW ∧ I (a + 1) ((fX6_putByte__xW w_xW (u1 + (nI a)) ((Int64.toInt32 (lsru u3 ((8 : Int32) * (nI a)))) &&& (255 : Int32))))) : ∀ (n a : Nat) (w_xW : Nat → Int32), a + n ≤ b9 → I a (w_xW) → KX6_store_3 u1 u2 u3 n (nI a, w_xW)
  | 0, a, w_xW, _, _ => True.intro
  | n + 1, a, w_xW, h, hi => by
    have hc : ¬ (u2 ≤ nI a) := by rw [h9]; exact nI_ge (by omega) hb9
    have e0 : bX6_store_3_L5 u2 (nI a) w_xW = nI (a + 1) := by rw [bX6_store_3_L5, if_neg hc, nI_1]
    have e1 : bX6_store_3_xW u1 u2 u3 (nI a) w_xW = (fX6_putByte__xW w_xW (u1 + (nI a)) ((Int64.toInt32 (lsru u3 ((8 : Int32) * (nI a)))) &&& (255 : Int32))) := by rw [bX6_store_3_xW, if_neg hc]
    obtain ⟨h1, h2⟩ := hI a w_xW hi (by omega)
    show (tX6_store_3 u2 (nI a) w_xW ∧ oX6_store_3 u1 u2 (nI a) w_xW) ∧ KX6_store_3 u1 u2 u3 n (bX6_store_3_L5 u2 (nI a) w_xW, bX6_store_3_xW u1 u2 u3 (nI a) w_xW)
    refine ⟨⟨by rw [tX6_store_3, if_neg hc]; exact True.intro, h1⟩, ?_⟩
    rw [e0, e1]; exact ktX6_store_3 u1 u2 u3 h9 hb9 I hI n (a + 1) _ (by omega) h2
theorem ntX6_store_3 (u1 : Int32) (u2 : Int32) (u3 : Int64) {b9 : Nat} (h9 : u2 = nI b9) (hb9 : b9 < 2147483648) (w_xW : Nat → Int32) : ¬ tX6_store_3 u2 (nI b9) w_xW := by rw [tX6_store_3, if_pos (by rw [h9]; exact Int32.le_refl _)]; exact id
noncomputable def fX6_store__xW (xW : Nat → Int32) (u1 : Int32) (u2 : Int32) (u3 : Int64) : Nat → Int32 := (LX6_store_3 u1 u2 u3 (cnt (0 : Int32) u2) ((0 : Int32), xW)).2
noncomputable def okX6_store (xW : Nat → Int32) (u1 : Int32) (u2 : Int32) (u3 : Int64) : Prop := (KX6_store_3 u1 u2 u3 (cnt (0 : Int32) u2) ((0 : Int32), xW)) ∧ (¬ (tX6_store_3 u2 ((LX6_store_3 u1 u2 u3 (cnt (0 : Int32) u2) ((0 : Int32), xW)).1) ((LX6_store_3 u1 u2 u3 (cnt (0 : Int32) u2) ((0 : Int32), xW)).2))) ∧ (¬ (u2 ≤ (LX6_store_3 u1 u2 u3 (cnt (0 : Int32) u2) ((0 : Int32), xW)).1) → okX6_putByte (u1 + (LX6_store_3 u1 u2 u3 (cnt (0 : Int32) u2) ((0 : Int32), xW)).1))
set_option maxRecDepth 100000 in
set_option maxHeartbeats 4000000 in
theorem kX6_store (l : Launch) (D : va_G) (kI kZ : ClassId) (b_y : Nat) (b_xW : Nat) (y_shutPages : Int32) (xW : Nat → Int32) (u1 : Int32) (u2 : Int32) (u3 : Int64) (hok : okX6_store xW u1 u2 u3) : kM l yX6_store cX6_store 6 none 1 16 0 0 D [(kI, .int), (kZ, .boolean)] [.ref b_y, .int u1, .int u2, .long u3] [(b_y, .inr (5, [.ref b_xW, .int y_shutPages])), (b_xW, .inl (kI, 256, .inl xW))] none [(b_y, .inr (5, [.ref b_xW, .int y_shutPages])), (b_xW, .inl (kI, 256, .inl (fX6_store__xW xW u1 u2 u3)))] := by
  refine kM.of (by decide) rfl ?_
  intro p e R s m args below meth c A X _ _ hRt hLk
  refine k_sub [0, 1, 2, 3] (lv' := [(0, .ref b_y), (1, .int u1), (2, .int u2), (3, .long u3)]) rfl ?_
  unfold okX6_store at hok
  refine k_iconst X dX6_store_0 kc_i_0 rfl ?_
  refine k_istore (lv' := [(5, .int (0 : Int32)), (0, .ref b_y), (1, .int u1), (2, .int u2), (3, .long u3)]) X dX6_store_1 rfl rfl rfl ?_
  refine k_sub [1, 2, 3, 4, 0] (lv' := [(0, .ref b_y), (1, .int u1), (2, .int u2), (3, .long u3), (5, .int (0 : Int32))]) rfl ?_
  refine k_loop (KX6_store_3 u1 u2 u3) (LX6_store_3 u1 u2 u3) (fun s9 => (bX6_store_3_L5 u2 s9.1 s9.2, bX6_store_3_xW u1 u2 u3 s9.1 s9.2)) (fun s9 => tX6_store_3 u2 s9.1 s9.2 ∧ oX6_store_3 u1 u2 s9.1 s9.2) (fun s9 => [(b_y, .inr (5, [.ref b_xW, .int y_shutPages])), (b_xW, .inl (kI, 256, .inl s9.2))]) (fun s9 => [(0, .ref b_y), (1, .int u1), (2, .int u2), (3, .long u3), (5, .int s9.1)]) 3 (fun _ => rfl) (fun _ _ => rfl) (fun _ _ h => h) ?_ (cnt (0 : Int32) u2) ((0 : Int32), xW) (hok.1) ?_
  · rintro ⟨w_L5, w_xW⟩ ⟨hlat, hob⟩ g0
    try dsimp only at hlat hob g0 ⊢
    unfold oX6_store_3 at hob
    refine k_iload X dX6_store_3 4 rfl rfl ?_
    refine k_iload_n X dX6_store_5 rfl 2 rfl rfl ?_
    refine k_icmp_ge (tgt := 35) X dX6_store_6 (by decide) rfl (fun c1 => ?_) (fun c1 => ?_)
    · skip
      exact absurd hlat (by rw [tX6_store_3, if_pos c1]; exact id)
    refine k_aload_n X dX6_store_9 rfl 0 rfl rfl ?_
    refine k_iload_n X dX6_store_10 rfl 1 rfl rfl ?_
    refine k_iload X dX6_store_11 4 rfl rfl ?_
    refine k_iadd X dX6_store_13 rfl ?_
    refine k_lload_n X dX6_store_14 rfl 3 rfl rfl ?_
    refine k_bipush X dX6_store_15 kc_b_8 rfl ?_
    refine k_iload X dX6_store_17 4 rfl rfl ?_
    refine k_imul X dX6_store_19 rfl ?_
    refine k_lushr X dX6_store_20 rfl ?_
    refine k_l2i X dX6_store_21 rfl ?_
    refine k_sipush X dX6_store_22 kc_s_255 rfl ?_
    refine k_iand X dX6_store_25 rfl ?_
    refine k_cV0 (st := []) (ws' := [(b_y, .inr (5, [.ref b_xW, .int y_shutPages])), (b_xW, .inl (kI, 256, .inl (fX6_putByte__xW w_xW (u1 + w_L5) ((Int64.toInt32 (lsru u3 ((8 : Int32) * w_L5))) &&& (255 : Int32)))))]) (wr := []) (ci := 5) (q9 := 0) X [.int (u1 + w_L5), .int ((Int64.toInt32 (lsru u3 ((8 : Int32) * w_L5))) &&& (255 : Int32))] 0 [0, 1] [] [0, 1] (kX6_putByte l D kI kZ b_y b_xW y_shutPages w_xW (u1 + w_L5) ((Int64.toInt32 (lsru u3 ((8 : Int32) * w_L5))) &&& (255 : Int32)) (hob c1)) vX6_putByte q12_22 dX6_store_26 rfl rfl rfl rfl rfl rfl rfl rfl rfl rfl rfl rfl rfl rfl rfl ?_
    refine k_iinc (lv' := [(5, .int (w_L5 + (1 : Int32))), (0, .ref b_y), (1, .int u1), (2, .int u2), (3, .long u3)]) X dX6_store_29 4 rfl kc_i_1 rfl rfl rfl ?_
    refine k_goto (tgt := 3) X dX6_store_32 (by decide) ?_
    have e3 : bX6_store_3_L5 u2 w_L5 w_xW = (w_L5 + (1 : Int32)) := by rw [bX6_store_3_L5, if_neg c1]
    rw [e3] at g0
    have e4 : bX6_store_3_xW u1 u2 u3 w_L5 w_xW = (fX6_putByte__xW w_xW (u1 + w_L5) ((Int64.toInt32 (lsru u3 ((8 : Int32) * w_L5))) &&& (255 : Int32))) := by rw [bX6_store_3_xW, if_neg c1]
    rw [e4] at g0
    exact k_sub [1, 2, 3, 4, 0] rfl g0
  try dsimp only
  refine k_iload X dX6_store_3 4 rfl rfl ?_
  refine k_iload_n X dX6_store_5 rfl 2 rfl rfl ?_
  refine k_icmp_ge (tgt := 35) X dX6_store_6 (by decide) rfl (fun c2 => ?_) (fun c2 => ?_)
  · skip
    have e5 : (fX6_store__xW xW u1 u2 u3) = (LX6_store_3 u1 u2 u3 (cnt (0 : Int32) u2) ((0 : Int32), xW)).2 := by rw [fX6_store__xW]
    exact k_vret X hRt hLk (by rw [e5]) dX6_store_35
  refine k_aload_n X dX6_store_9 rfl 0 rfl rfl ?_
  refine k_iload_n X dX6_store_10 rfl 1 rfl rfl ?_
  refine k_iload X dX6_store_11 4 rfl rfl ?_
  refine k_iadd X dX6_store_13 rfl ?_
  refine k_lload_n X dX6_store_14 rfl 3 rfl rfl ?_
  refine k_bipush X dX6_store_15 kc_b_8 rfl ?_
  refine k_iload X dX6_store_17 4 rfl rfl ?_
  refine k_imul X dX6_store_19 rfl ?_
  refine k_lushr X dX6_store_20 rfl ?_
  refine k_l2i X dX6_store_21 rfl ?_
  refine k_sipush X dX6_store_22 kc_s_255 rfl ?_
  refine k_iand X dX6_store_25 rfl ?_
  refine k_cV0 (st := []) (ws' := [(b_y, .inr (5, [.ref b_xW, .int y_shutPages])), (b_xW, .inl (kI, 256, .inl (fX6_putByte__xW ((LX6_store_3 u1 u2 u3 (cnt (0 : Int32) u2) ((0 : Int32), xW)).2) (u1 + (LX6_store_3 u1 u2 u3 (cnt (0 : Int32) u2) ((0 : Int32), xW)).1) ((Int64.toInt32 (lsru u3 ((8 : Int32) * (LX6_store_3 u1 u2 u3 (cnt (0 : Int32) u2) ((0 : Int32), xW)).1))) &&& (255 : Int32)))))]) (wr := []) (ci := 5) (q9 := 0) X [.int (u1 + (LX6_store_3 u1 u2 u3 (cnt (0 : Int32) u2) ((0 : Int32), xW)).1), .int ((Int64.toInt32 (lsru u3 ((8 : Int32) * (LX6_store_3 u1 u2 u3 (cnt (0 : Int32) u2) ((0 : Int32), xW)).1))) &&& (255 : Int32))] 0 [0, 1] [] [0, 1] (kX6_putByte l D kI kZ b_y b_xW y_shutPages ((LX6_store_3 u1 u2 u3 (cnt (0 : Int32) u2) ((0 : Int32), xW)).2) (u1 + (LX6_store_3 u1 u2 u3 (cnt (0 : Int32) u2) ((0 : Int32), xW)).1) ((Int64.toInt32 (lsru u3 ((8 : Int32) * (LX6_store_3 u1 u2 u3 (cnt (0 : Int32) u2) ((0 : Int32), xW)).1))) &&& (255 : Int32)) (hok.2.2 c2)) vX6_putByte q12_22 dX6_store_26 rfl rfl rfl rfl rfl rfl rfl rfl rfl rfl rfl rfl rfl rfl rfl ?_
  refine k_iinc (lv' := [(5, .int ((LX6_store_3 u1 u2 u3 (cnt (0 : Int32) u2) ((0 : Int32), xW)).1 + (1 : Int32))), (0, .ref b_y), (1, .int u1), (2, .int u2), (3, .long u3)]) X dX6_store_29 4 rfl kc_i_1 rfl rfl rfl ?_
  refine k_goto (tgt := 3) X dX6_store_32 (by decide) ?_
  exact absurd (show tX6_store_3 u2 ((LX6_store_3 u1 u2 u3 (cnt (0 : Int32) u2) ((0 : Int32), xW)).1) ((LX6_store_3 u1 u2 u3 (cnt (0 : Int32) u2) ((0 : Int32), xW)).2) from by rw [tX6_store_3, if_neg c2]; exact True.intro) (hok.2.1)
theorem vX6_store : kVi yX6_store cX6_store 6 none 3 := ⟨q12_21, q1_20, q12_19, q12_20, by decide, by decide +kernel⟩
