noncomputable def fX1_formBit (u0 : Int32) : Int32 := (if u0 = (0 : Int32) then (32 : Int32) else (if u0 = (2 : Int32) then (32 : Int32) else (if u0 = (3 : Int32) then (128 : Int32) else (if u0 = (4 : Int32) then (64 : Int32) else (if u0 = (6 : Int32) then (64 : Int32) else (0 : Int32))))))
set_option maxRecDepth 100000 in
set_option maxHeartbeats 4000000 in
theorem kX1_formBit (l : Launch) (D : va_G) (kI kZ : ClassId) (u0 : Int32) : kM l yX1_formBit cX1_formBit 1 (some .int) 0 0 0 0 D [(kI, .int), (kZ, .boolean)] [.int u0] [] (some (.int (fX1_formBit u0))) [] := by
  refine kM.of (by decide) rfl ?_
  intro p e R s m args below meth c A X _ _ hRt hLk
  refine k_sub [0] (lv' := [(0, .int u0)]) rfl ?_
  refine k_iload_n X dX1_formBit_0 rfl 0 rfl rfl ?_
  by_cases c1 : u0 = (0 : Int32)
  · refine k_tblIn (tgt := 44) X dX1_formBit_1 c1 (by decide) (by decide) rfl (by decide) ?_
    refine k_bipush X dX1_formBit_44 kc_b_32 rfl ?_
    have e6 : (fX1_formBit u0) = (32 : Int32) := by rw [fX1_formBit, if_pos c1]
    exact k_iret9 X hRt hLk e6.symm rfl dX1_formBit_46
  by_cases c2 : u0 = (2 : Int32)
  · refine k_tblIn (tgt := 44) X dX1_formBit_1 c2 (by decide) (by decide) rfl (by decide) ?_
    refine k_bipush X dX1_formBit_44 kc_b_32 rfl ?_
    have e7 : (fX1_formBit u0) = (32 : Int32) := by rw [fX1_formBit, if_neg c1, if_pos c2]
    exact k_iret9 X hRt hLk e7.symm rfl dX1_formBit_46
  by_cases c3 : u0 = (3 : Int32)
  · refine k_tblIn (tgt := 50) X dX1_formBit_1 c3 (by decide) (by decide) rfl (by decide) ?_
    refine k_sipush X dX1_formBit_50 kc_s_128 rfl ?_
    have e8 : (fX1_formBit u0) = (128 : Int32) := by rw [fX1_formBit, if_neg c1, if_neg c2, if_pos c3]
    exact k_iret9 X hRt hLk e8.symm rfl dX1_formBit_53
  by_cases c4 : u0 = (4 : Int32)
  · refine k_tblIn (tgt := 47) X dX1_formBit_1 c4 (by decide) (by decide) rfl (by decide) ?_
    refine k_bipush X dX1_formBit_47 kc_b_64 rfl ?_
    have e9 : (fX1_formBit u0) = (64 : Int32) := by rw [fX1_formBit, if_neg c1, if_neg c2, if_neg c3, if_pos c4]
    exact k_iret9 X hRt hLk e9.symm rfl dX1_formBit_49
  by_cases c5 : u0 = (6 : Int32)
  · refine k_tblIn (tgt := 47) X dX1_formBit_1 c5 (by decide) (by decide) rfl (by decide) ?_
    refine k_bipush X dX1_formBit_47 kc_b_64 rfl ?_
    have e10 : (fX1_formBit u0) = (64 : Int32) := by rw [fX1_formBit, if_neg c1, if_neg c2, if_neg c3, if_neg c4, if_pos c5]
    exact k_iret9 X hRt hLk e10.symm rfl dX1_formBit_49
  refine k_tblD (tgt := 54) X dX1_formBit_1 [(0 : Int32), (2 : Int32), (3 : Int32), (4 : Int32), (6 : Int32)] (List.forall_mem_cons.mpr ⟨c1, (List.forall_mem_cons.mpr ⟨c2, (List.forall_mem_cons.mpr ⟨c3, (List.forall_mem_cons.mpr ⟨c4, (List.forall_mem_cons.mpr ⟨c5, (fun _ h => absurd h List.not_mem_nil)⟩)⟩)⟩)⟩)⟩) (by decide +kernel) (by decide) ?_
  refine k_iconst X dX1_formBit_54 kc_i_0 rfl ?_
  have e11 : (fX1_formBit u0) = (0 : Int32) := by rw [fX1_formBit, if_neg c1, if_neg c2, if_neg c3, if_neg c4, if_neg c5]
  exact k_iret9 X hRt hLk e11.symm rfl dX1_formBit_55
theorem vX1_formBit : kSt yX1_formBit cX1_formBit 1 (some .int) 1 := ⟨q16_22, q16_9, q16_21, by decide, by decide +kernel⟩
noncomputable def pX1_wholeMove_26_S1 (u0 : Int32) : Int32 := (if u0 = (0 : Int32) then (26 : Int32) else (if u0 = (1 : Int32) then (26 : Int32) else (if u0 = (3 : Int32) then (26 : Int32) else (if u0 = (7 : Int32) then (26 : Int32) else (0 : Int32)))))
noncomputable def fX1_wholeMove (u0 : Int32) : Int32 := (pX1_wholeMove_26_S1 u0)
set_option maxRecDepth 100000 in
set_option maxHeartbeats 4000000 in
theorem kX1_wholeMove (l : Launch) (D : va_G) (kI kZ : ClassId) (u0 : Int32) : kM l yX1_wholeMove cX1_wholeMove 1 (some .int) 0 0 0 0 D [(kI, .int), (kZ, .boolean)] [.int u0] [] (some (.int (fX1_wholeMove u0))) [] := by
  refine kM.of (by decide) rfl ?_
  intro p e R s m args below meth c A X _ _ hRt hLk
  refine k_sub [0] (lv' := [(0, .int u0)]) rfl ?_
  refine k_iload_n X dX1_wholeMove_0 rfl 0 rfl rfl ?_
  refine k_mid2 [] [(0, .int u0)] [.int (pX1_wholeMove_26_S1 u0)] 26 (fun hJ5 => ?_) ?_
  · skip
    refine k_if_eq (tgt := 20) X dX1_wholeMove_1 (by decide) rfl (fun c1 => ?_) (fun c1 => ?_)
    · skip
      refine k_bipush X dX1_wholeMove_20 kc_b_26 rfl ?_
      refine k_goto (tgt := 26) X dX1_wholeMove_22 (by decide) ?_
      have e6 : (pX1_wholeMove_26_S1 u0) = (26 : Int32) := by rw [pX1_wholeMove_26_S1, if_pos c1]
      rw [e6] at hJ5
      exact k_sub [0] rfl hJ5
    refine k_iload_n X dX1_wholeMove_4 rfl 0 rfl rfl ?_
    refine k_iconst X dX1_wholeMove_5 kc_i_1 rfl ?_
    refine k_icmp_eq (tgt := 20) X dX1_wholeMove_6 (by decide) rfl (fun c2 => ?_) (fun c2 => ?_)
    · skip
      refine k_bipush X dX1_wholeMove_20 kc_b_26 rfl ?_
      refine k_goto (tgt := 26) X dX1_wholeMove_22 (by decide) ?_
      have e7 : (pX1_wholeMove_26_S1 u0) = (26 : Int32) := by rw [pX1_wholeMove_26_S1, if_neg c1, if_pos c2]
      rw [e7] at hJ5
      exact k_sub [0] rfl hJ5
    refine k_iload_n X dX1_wholeMove_9 rfl 0 rfl rfl ?_
    refine k_iconst X dX1_wholeMove_10 kc_i_3 rfl ?_
    refine k_icmp_eq (tgt := 20) X dX1_wholeMove_11 (by decide) rfl (fun c3 => ?_) (fun c3 => ?_)
    · skip
      refine k_bipush X dX1_wholeMove_20 kc_b_26 rfl ?_
      refine k_goto (tgt := 26) X dX1_wholeMove_22 (by decide) ?_
      have e8 : (pX1_wholeMove_26_S1 u0) = (26 : Int32) := by rw [pX1_wholeMove_26_S1, if_neg c1, if_neg c2, if_pos c3]
      rw [e8] at hJ5
      exact k_sub [0] rfl hJ5
    refine k_iload_n X dX1_wholeMove_14 rfl 0 rfl rfl ?_
    refine k_bipush X dX1_wholeMove_15 kc_b_7 rfl ?_
    refine k_icmp_ne (tgt := 25) X dX1_wholeMove_17 (by decide) rfl (fun c4 => ?_) (fun c4 => ?_)
    · skip
      refine k_bipush X dX1_wholeMove_20 kc_b_26 rfl ?_
      refine k_goto (tgt := 26) X dX1_wholeMove_22 (by decide) ?_
      have e9 : (pX1_wholeMove_26_S1 u0) = (26 : Int32) := by rw [pX1_wholeMove_26_S1, if_neg c1, if_neg c2, if_neg c3, if_pos c4]
      rw [e9] at hJ5
      exact k_sub [0] rfl hJ5
    refine k_iconst X dX1_wholeMove_25 kc_i_0 rfl ?_
    have e10 : (pX1_wholeMove_26_S1 u0) = (0 : Int32) := by rw [pX1_wholeMove_26_S1, if_neg c1, if_neg c2, if_neg c3, if_neg c4]
    rw [e10] at hJ5
    exact k_sub [0] rfl hJ5
  have e11 : (fX1_wholeMove u0) = (pX1_wholeMove_26_S1 u0) := by rw [fX1_wholeMove]
  exact k_iret9 X hRt hLk e11.symm rfl dX1_wholeMove_26
theorem vX1_wholeMove : kSt yX1_wholeMove cX1_wholeMove 1 (some .int) 1 := ⟨q17_14, q16_9, q17_13, by decide, by decide +kernel⟩
noncomputable def fX1_intoScalar (u0 : Int32) : Int32 := (if u0 = (0 : Int32) then (17 : Int32) else (if u0 = (16 : Int32) then (13 : Int32) else (if u0 = (17 : Int32) then (13 : Int32) else (0 : Int32))))
set_option maxRecDepth 100000 in
set_option maxHeartbeats 4000000 in
theorem kX1_intoScalar (l : Launch) (D : va_G) (kI kZ : ClassId) (u0 : Int32) : kM l yX1_intoScalar cX1_intoScalar 1 (some .int) 0 0 0 0 D [(kI, .int), (kZ, .boolean)] [.int u0] [] (some (.int (fX1_intoScalar u0))) [] := by
  refine kM.of (by decide) rfl ?_
  intro p e R s m args below meth c A X _ _ hRt hLk
  refine k_sub [0] (lv' := [(0, .int u0)]) rfl ?_
  refine k_iload_n X dX1_intoScalar_0 rfl 0 rfl rfl ?_
  by_cases c1 : u0 = (0 : Int32)
  · refine k_lkI (tgt := 36) X dX1_intoScalar_1 (by decide) c1 rfl (by decide) ?_
    refine k_bipush X dX1_intoScalar_36 kc_b_17 rfl ?_
    have e4 : (fX1_intoScalar u0) = (17 : Int32) := by rw [fX1_intoScalar, if_pos c1]
    exact k_iret9 X hRt hLk e4.symm rfl dX1_intoScalar_38
  by_cases c2 : u0 = (16 : Int32)
  · refine k_lkI (tgt := 39) X dX1_intoScalar_1 (by decide) c2 rfl (by decide) ?_
    refine k_bipush X dX1_intoScalar_39 kc_b_13 rfl ?_
    have e5 : (fX1_intoScalar u0) = (13 : Int32) := by rw [fX1_intoScalar, if_neg c1, if_pos c2]
    exact k_iret9 X hRt hLk e5.symm rfl dX1_intoScalar_41
  by_cases c3 : u0 = (17 : Int32)
  · refine k_lkI (tgt := 42) X dX1_intoScalar_1 (by decide) c3 rfl (by decide) ?_
    refine k_bipush X dX1_intoScalar_42 kc_b_13 rfl ?_
    have e6 : (fX1_intoScalar u0) = (13 : Int32) := by rw [fX1_intoScalar, if_neg c1, if_neg c2, if_pos c3]
    exact k_iret9 X hRt hLk e6.symm rfl dX1_intoScalar_44
  refine k_lkD (tgt := 45) X dX1_intoScalar_1 (by decide) [(0 : Int32), (16 : Int32), (17 : Int32)] (List.forall_mem_cons.mpr ⟨c1, (List.forall_mem_cons.mpr ⟨c2, (List.forall_mem_cons.mpr ⟨c3, (fun _ h => absurd h List.not_mem_nil)⟩)⟩)⟩) (by decide +kernel) (by decide) ?_
  refine k_iconst X dX1_intoScalar_45 kc_i_0 rfl ?_
  have e7 : (fX1_intoScalar u0) = (0 : Int32) := by rw [fX1_intoScalar, if_neg c1, if_neg c2, if_neg c3]
  exact k_iret9 X hRt hLk e7.symm rfl dX1_intoScalar_46
theorem vX1_intoScalar : kSt yX1_intoScalar cX1_intoScalar 1 (some .int) 1 := ⟨q17_17, q16_9, q17_16, by decide, by decide +kernel⟩
noncomputable def pX1_fromMask_74_S1 (u1 : Int32) : Int32 := (if u1 = (0 : Int32) then (16 : Int32) else (0 : Int32))
noncomputable def fX1_fromMask (u0 : Int32) (u1 : Int32) : Int32 := (if u0 = (1 : Int32) then (14 : Int32) else (if u0 = (2 : Int32) then (14 : Int32) else (if u0 = (3 : Int32) then (14 : Int32) else (if u0 = (16 : Int32) then (15 : Int32) else (if u0 = (17 : Int32) then (pX1_fromMask_74_S1 u1) else (0 : Int32))))))
set_option maxRecDepth 100000 in
set_option maxHeartbeats 4000000 in
theorem kX1_fromMask (l : Launch) (D : va_G) (kI kZ : ClassId) (u0 : Int32) (u1 : Int32) : kM l yX1_fromMask cX1_fromMask 2 (some .int) 0 0 0 0 D [(kI, .int), (kZ, .boolean)] [.int u0, .int u1] [] (some (.int (fX1_fromMask u0 u1))) [] := by
  refine kM.of (by decide) rfl ?_
  intro p e R s m args below meth c A X _ _ hRt hLk
  refine k_sub [0, 1] (lv' := [(0, .int u0), (1, .int u1)]) rfl ?_
  refine k_iload_n X dX1_fromMask_0 rfl 0 rfl rfl ?_
  by_cases c1 : u0 = (1 : Int32)
  · refine k_lkI (tgt := 52) X dX1_fromMask_1 (by decide) c1 rfl (by decide) ?_
    refine k_bipush X dX1_fromMask_52 kc_b_14 rfl ?_
    have e8 : (fX1_fromMask u0 u1) = (14 : Int32) := by rw [fX1_fromMask, if_pos c1]
    exact k_iret9 X hRt hLk e8.symm rfl dX1_fromMask_54
  by_cases c2 : u0 = (2 : Int32)
  · refine k_lkI (tgt := 55) X dX1_fromMask_1 (by decide) c2 rfl (by decide) ?_
    refine k_bipush X dX1_fromMask_55 kc_b_14 rfl ?_
    have e9 : (fX1_fromMask u0 u1) = (14 : Int32) := by rw [fX1_fromMask, if_neg c1, if_pos c2]
    exact k_iret9 X hRt hLk e9.symm rfl dX1_fromMask_57
  by_cases c3 : u0 = (3 : Int32)
  · refine k_lkI (tgt := 58) X dX1_fromMask_1 (by decide) c3 rfl (by decide) ?_
    refine k_bipush X dX1_fromMask_58 kc_b_14 rfl ?_
    have e10 : (fX1_fromMask u0 u1) = (14 : Int32) := by rw [fX1_fromMask, if_neg c1, if_neg c2, if_pos c3]
    exact k_iret9 X hRt hLk e10.symm rfl dX1_fromMask_60
  by_cases c4 : u0 = (16 : Int32)
  · refine k_lkI (tgt := 61) X dX1_fromMask_1 (by decide) c4 rfl (by decide) ?_
    refine k_bipush X dX1_fromMask_61 kc_b_15 rfl ?_
    have e11 : (fX1_fromMask u0 u1) = (15 : Int32) := by rw [fX1_fromMask, if_neg c1, if_neg c2, if_neg c3, if_pos c4]
    exact k_iret9 X hRt hLk e11.symm rfl dX1_fromMask_63
  by_cases c5 : u0 = (17 : Int32)
  · refine k_lkI (tgt := 64) X dX1_fromMask_1 (by decide) c5 rfl (by decide) ?_
    refine k_iload_n X dX1_fromMask_64 rfl 1 rfl rfl ?_
    refine k_mid2 [] [(0, .int u0), (1, .int u1)] [.int (pX1_fromMask_74_S1 u1)] 74 (fun hJ7 => ?_) ?_
    · skip
      refine k_if_ne (tgt := 73) X dX1_fromMask_65 (by decide) rfl (fun c6 => ?_) (fun c6 => ?_)
      · skip
        refine k_bipush X dX1_fromMask_68 kc_b_16 rfl ?_
        refine k_goto (tgt := 74) X dX1_fromMask_70 (by decide) ?_
        have e12 : (pX1_fromMask_74_S1 u1) = (16 : Int32) := by rw [pX1_fromMask_74_S1, if_pos c6]
        rw [e12] at hJ7
        exact k_sub [0, 1] rfl hJ7
      refine k_iconst X dX1_fromMask_73 kc_i_0 rfl ?_
      have e13 : (pX1_fromMask_74_S1 u1) = (0 : Int32) := by rw [pX1_fromMask_74_S1, if_neg c6]
      rw [e13] at hJ7
      exact k_sub [0, 1] rfl hJ7
    have e14 : (fX1_fromMask u0 u1) = (pX1_fromMask_74_S1 u1) := by rw [fX1_fromMask, if_neg c1, if_neg c2, if_neg c3, if_neg c4, if_pos c5]
    exact k_iret9 X hRt hLk e14.symm rfl dX1_fromMask_74
  refine k_lkD (tgt := 75) X dX1_fromMask_1 (by decide) [(1 : Int32), (2 : Int32), (3 : Int32), (16 : Int32), (17 : Int32)] (List.forall_mem_cons.mpr ⟨c1, (List.forall_mem_cons.mpr ⟨c2, (List.forall_mem_cons.mpr ⟨c3, (List.forall_mem_cons.mpr ⟨c4, (List.forall_mem_cons.mpr ⟨c5, (fun _ h => absurd h List.not_mem_nil)⟩)⟩)⟩)⟩)⟩) (by decide +kernel) (by decide) ?_
  refine k_iconst X dX1_fromMask_75 kc_i_0 rfl ?_
  have e15 : (fX1_fromMask u0 u1) = (0 : Int32) := by rw [fX1_fromMask, if_neg c1, if_neg c2, if_neg c3, if_neg c4, if_neg c5]
  exact k_iret9 X hRt hLk e15.symm rfl dX1_fromMask_76
theorem vX1_fromMask : kSt yX1_fromMask cX1_fromMask 2 (some .int) 2 := ⟨q17_20, q16_9, q17_19, by decide, by decide +kernel⟩
noncomputable def pX1_refined_69_S1 (i_form : Int32) (u1 : Int32) : Int32 := (if (fX3_takesVector i_form) = (0 : Int32) then u1 else (24 : Int32))
noncomputable def pX1_refined_88_S1 (i_form : Int32) (i_rs1 : Int32) (u1 : Int32) : Int32 := (if (fX3_takesNumber i_form) = (0 : Int32) then u1 else (fX1_wholeMove i_rs1))
noncomputable def pX1_refined_119_S1 (i_form : Int32) (i_rs1 : Int32) (i_rs2 : Int32) : Int32 := (if (fX3_takesVector i_form) = (0 : Int32) then (if i_rs2 = (0 : Int32) then (18 : Int32) else (0 : Int32)) else (fX1_intoScalar i_rs1))
noncomputable def pX1_refined_142_S1 (i_rs1 : Int32) (u1 : Int32) : Int32 := (if i_rs1 < (4 : Int32) then (0 : Int32) else (if (7 : Int32) < i_rs1 then (0 : Int32) else u1))
noncomputable def fX1_refined (i_form : Int32) (i_rs1 : Int32) (i_rs2 : Int32) (i_high : Int32) (u1 : Int32) : Int32 := (if (fX3_operation i_form i_high) = (14 : Int32) then (pX1_refined_69_S1 i_form u1) else (if (fX3_operation i_form i_high) = (39 : Int32) then (pX1_refined_88_S1 i_form i_rs1 u1) else (if (fX3_operation i_form i_high) = (80 : Int32) then (pX1_refined_119_S1 i_form i_rs1 i_rs2) else (if (fX3_operation i_form i_high) = (82 : Int32) then (pX1_refined_142_S1 i_rs1 u1) else (if (fX3_operation i_form i_high) = (84 : Int32) then (fX1_fromMask i_rs1 i_rs2) else u1)))))
set_option maxRecDepth 100000 in
set_option maxHeartbeats 4000000 in
theorem kX1_refined (l : Launch) (D : va_G) (kI kZ : ClassId) (b_i : Nat) (i_bits : Int32) (i_code : Int32) (i_form : Int32) (i_rd : Int32) (i_rs1 : Int32) (i_rs2 : Int32) (i_high : Int32) (i_masked : Int32) (u1 : Int32) : kM l yX1_refined cX1_refined 2 (some .int) 1 13 0 0 D [(kI, .int), (kZ, .boolean)] [.ref b_i, .int u1] [(b_i, .inr (2, [.int i_bits, .int i_code, .int i_form, .int i_rd, .int i_rs1, .int i_rs2, .int i_high, .int i_masked]))] (some (.int (fX1_refined i_form i_rs1 i_rs2 i_high u1))) [(b_i, .inr (2, [.int i_bits, .int i_code, .int i_form, .int i_rd, .int i_rs1, .int i_rs2, .int i_high, .int i_masked]))] := by
  refine kM.of (by decide) rfl ?_
  intro p e R s m args below meth c A X _ _ hRt hLk
  refine k_sub [0, 1] (lv' := [(0, .ref b_i), (1, .int u1)]) rfl ?_
  refine k_aload_n X dX1_refined_0 rfl 0 rfl rfl ?_
  refine k_cV1 (st := []) (ws' := [(b_i, .inr (2, [.int i_bits, .int i_code, .int i_form, .int i_rd, .int i_rs1, .int i_rs2, .int i_high, .int i_masked]))]) (wr := []) (ci := 2) (q9 := 0) X [] 0 [0] [] [0] (kX3_operation l D kI kZ b_i i_bits i_code i_form i_rd i_rs1 i_rs2 i_high i_masked) vX3_operation q16_12 dX1_refined_1 rfl rfl rfl rfl rfl rfl rfl rfl rfl rfl rfl rfl rfl rfl rfl ?_
  by_cases c1 : (fX3_operation i_form i_high) = (14 : Int32)
  · refine k_lkI (tgt := 56) X dX1_refined_4 (by decide) c1 rfl (by decide) ?_
    refine k_aload_n X dX1_refined_56 rfl 0 rfl rfl ?_
    refine k_cV1 (st := []) (ws' := [(b_i, .inr (2, [.int i_bits, .int i_code, .int i_form, .int i_rd, .int i_rs1, .int i_rs2, .int i_high, .int i_masked]))]) (wr := []) (ci := 2) (q9 := 0) X [] 0 [0] [] [0] (kX3_takesVector l D kI kZ b_i i_bits i_code i_form i_rd i_rs1 i_rs2 i_high i_masked) vX3_takesVector q17_4 dX1_refined_57 rfl rfl rfl rfl rfl rfl rfl rfl rfl rfl rfl rfl rfl rfl rfl ?_
    refine k_mid2 [(b_i, .inr (2, [.int i_bits, .int i_code, .int i_form, .int i_rd, .int i_rs1, .int i_rs2, .int i_high, .int i_masked]))] [(0, .ref b_i), (1, .int u1)] [.int (pX1_refined_69_S1 i_form u1)] 69 (fun hJ3 => ?_) ?_
    · skip
      refine k_if_eq (tgt := 68) X dX1_refined_60 (by decide) rfl (fun c2 => ?_) (fun c2 => ?_)
      · skip
        refine k_iload_n X dX1_refined_68 rfl 1 rfl rfl ?_
        have e16 : (pX1_refined_69_S1 i_form u1) = u1 := by rw [pX1_refined_69_S1, if_pos c2]
        rw [e16] at hJ3
        exact k_sub [0, 1] rfl hJ3
      refine k_bipush X dX1_refined_63 kc_b_24 rfl ?_
      refine k_goto (tgt := 69) X dX1_refined_65 (by decide) ?_
      have e17 : (pX1_refined_69_S1 i_form u1) = (24 : Int32) := by rw [pX1_refined_69_S1, if_neg c2]
      rw [e17] at hJ3
      exact k_sub [0, 1] rfl hJ3
    have e18 : (fX1_refined i_form i_rs1 i_rs2 i_high u1) = (pX1_refined_69_S1 i_form u1) := by rw [fX1_refined, if_pos c1]
    exact k_iret9 X hRt hLk e18.symm rfl dX1_refined_69
  by_cases c4 : (fX3_operation i_form i_high) = (39 : Int32)
  · refine k_lkI (tgt := 70) X dX1_refined_4 (by decide) c4 rfl (by decide) ?_
    refine k_aload_n X dX1_refined_70 rfl 0 rfl rfl ?_
    refine k_cV1 (st := []) (ws' := [(b_i, .inr (2, [.int i_bits, .int i_code, .int i_form, .int i_rd, .int i_rs1, .int i_rs2, .int i_high, .int i_masked]))]) (wr := []) (ci := 2) (q9 := 0) X [] 0 [0] [] [0] (kX3_takesNumber l D kI kZ b_i i_bits i_code i_form i_rd i_rs1 i_rs2 i_high i_masked) vX3_takesNumber q17_8 dX1_refined_71 rfl rfl rfl rfl rfl rfl rfl rfl rfl rfl rfl rfl rfl rfl rfl ?_
    refine k_mid2 [(b_i, .inr (2, [.int i_bits, .int i_code, .int i_form, .int i_rd, .int i_rs1, .int i_rs2, .int i_high, .int i_masked]))] [(0, .ref b_i), (1, .int u1)] [.int (pX1_refined_88_S1 i_form i_rs1 u1)] 88 (fun hJ6 => ?_) ?_
    · skip
      refine k_if_eq (tgt := 87) X dX1_refined_74 (by decide) rfl (fun c5 => ?_) (fun c5 => ?_)
      · skip
        refine k_iload_n X dX1_refined_87 rfl 1 rfl rfl ?_
        have e19 : (pX1_refined_88_S1 i_form i_rs1 u1) = u1 := by rw [pX1_refined_88_S1, if_pos c5]
        rw [e19] at hJ6
        exact k_sub [0, 1] rfl hJ6
      refine k_aload_n X dX1_refined_77 rfl 0 rfl rfl ?_
      refine k_get X i_wsX30 0 4 q17_2 rfl rfl rfl rfl rfl dX1_refined_78 rfl ?_
      refine k_cS1 (st := []) (ws' := [(b_i, .inr (2, [.int i_bits, .int i_code, .int i_form, .int i_rd, .int i_rs1, .int i_rs2, .int i_high, .int i_masked]))]) (wr := [(b_i, .inr (2, [.int i_bits, .int i_code, .int i_form, .int i_rd, .int i_rs1, .int i_rs2, .int i_high, .int i_masked]))]) X [.int i_rs1] 0 [] [0] [0] (kX1_wholeMove l D kI kZ i_rs1) vX1_wholeMove q17_12 dX1_refined_81 rfl rfl rfl rfl rfl rfl rfl rfl rfl rfl rfl rfl rfl ?_
      refine k_goto (tgt := 88) X dX1_refined_84 (by decide) ?_
      have e20 : (pX1_refined_88_S1 i_form i_rs1 u1) = (fX1_wholeMove i_rs1) := by rw [pX1_refined_88_S1, if_neg c5]
      rw [e20] at hJ6
      exact k_sub [0, 1] rfl hJ6
    have e21 : (fX1_refined i_form i_rs1 i_rs2 i_high u1) = (pX1_refined_88_S1 i_form i_rs1 u1) := by rw [fX1_refined, if_neg c1, if_pos c4]
    exact k_iret9 X hRt hLk e21.symm rfl dX1_refined_88
  by_cases c7 : (fX3_operation i_form i_high) = (80 : Int32)
  · refine k_lkI (tgt := 89) X dX1_refined_4 (by decide) c7 rfl (by decide) ?_
    refine k_aload_n X dX1_refined_89 rfl 0 rfl rfl ?_
    refine k_cV1 (st := []) (ws' := [(b_i, .inr (2, [.int i_bits, .int i_code, .int i_form, .int i_rd, .int i_rs1, .int i_rs2, .int i_high, .int i_masked]))]) (wr := []) (ci := 2) (q9 := 0) X [] 0 [0] [] [0] (kX3_takesVector l D kI kZ b_i i_bits i_code i_form i_rd i_rs1 i_rs2 i_high i_masked) vX3_takesVector q17_4 dX1_refined_90 rfl rfl rfl rfl rfl rfl rfl rfl rfl rfl rfl rfl rfl rfl rfl ?_
    refine k_mid2 [(b_i, .inr (2, [.int i_bits, .int i_code, .int i_form, .int i_rd, .int i_rs1, .int i_rs2, .int i_high, .int i_masked]))] [(0, .ref b_i), (1, .int u1)] [.int (pX1_refined_119_S1 i_form i_rs1 i_rs2)] 119 (fun hJ10 => ?_) ?_
    · skip
      refine k_if_eq (tgt := 106) X dX1_refined_93 (by decide) rfl (fun c8 => ?_) (fun c8 => ?_)
      · skip
        refine k_aload_n X dX1_refined_106 rfl 0 rfl rfl ?_
        refine k_get X i_wsX30 0 5 q17_3 rfl rfl rfl rfl rfl dX1_refined_107 rfl ?_
        refine k_if_ne (tgt := 118) X dX1_refined_110 (by decide) rfl (fun c9 => ?_) (fun c9 => ?_)
        · skip
          refine k_bipush X dX1_refined_113 kc_b_18 rfl ?_
          refine k_goto (tgt := 119) X dX1_refined_115 (by decide) ?_
          have e22 : (pX1_refined_119_S1 i_form i_rs1 i_rs2) = (18 : Int32) := by rw [pX1_refined_119_S1, if_pos c8, if_pos c9]
          rw [e22] at hJ10
          exact k_sub [0, 1] rfl hJ10
        refine k_iconst X dX1_refined_118 kc_i_0 rfl ?_
        have e23 : (pX1_refined_119_S1 i_form i_rs1 i_rs2) = (0 : Int32) := by rw [pX1_refined_119_S1, if_pos c8, if_neg c9]
        rw [e23] at hJ10
        exact k_sub [0, 1] rfl hJ10
      refine k_aload_n X dX1_refined_96 rfl 0 rfl rfl ?_
      refine k_get X i_wsX30 0 4 q17_2 rfl rfl rfl rfl rfl dX1_refined_97 rfl ?_
      refine k_cS1 (st := []) (ws' := [(b_i, .inr (2, [.int i_bits, .int i_code, .int i_form, .int i_rd, .int i_rs1, .int i_rs2, .int i_high, .int i_masked]))]) (wr := [(b_i, .inr (2, [.int i_bits, .int i_code, .int i_form, .int i_rd, .int i_rs1, .int i_rs2, .int i_high, .int i_masked]))]) X [.int i_rs1] 0 [] [0] [0] (kX1_intoScalar l D kI kZ i_rs1) vX1_intoScalar q17_15 dX1_refined_100 rfl rfl rfl rfl rfl rfl rfl rfl rfl rfl rfl rfl rfl ?_
      refine k_goto (tgt := 119) X dX1_refined_103 (by decide) ?_
      have e24 : (pX1_refined_119_S1 i_form i_rs1 i_rs2) = (fX1_intoScalar i_rs1) := by rw [pX1_refined_119_S1, if_neg c8]
      rw [e24] at hJ10
      exact k_sub [0, 1] rfl hJ10
    have e25 : (fX1_refined i_form i_rs1 i_rs2 i_high u1) = (pX1_refined_119_S1 i_form i_rs1 i_rs2) := by rw [fX1_refined, if_neg c1, if_neg c4, if_pos c7]
    exact k_iret9 X hRt hLk e25.symm rfl dX1_refined_119
  by_cases c11 : (fX3_operation i_form i_high) = (82 : Int32)
  · refine k_lkI (tgt := 120) X dX1_refined_4 (by decide) c11 rfl (by decide) ?_
    refine k_aload_n X dX1_refined_120 rfl 0 rfl rfl ?_
    refine k_get X i_wsX30 0 4 q17_2 rfl rfl rfl rfl rfl dX1_refined_121 rfl ?_
    refine k_iconst X dX1_refined_124 kc_i_4 rfl ?_
    refine k_mid2 [(b_i, .inr (2, [.int i_bits, .int i_code, .int i_form, .int i_rd, .int i_rs1, .int i_rs2, .int i_high, .int i_masked]))] [(0, .ref b_i), (1, .int u1)] [.int (pX1_refined_142_S1 i_rs1 u1)] 142 (fun hJ14 => ?_) ?_
    · skip
      refine k_icmp_lt (tgt := 141) X dX1_refined_125 (by decide) rfl (fun c12 => ?_) (fun c12 => ?_)
      · skip
        refine k_iconst X dX1_refined_141 kc_i_0 rfl ?_
        have e26 : (pX1_refined_142_S1 i_rs1 u1) = (0 : Int32) := by rw [pX1_refined_142_S1, if_pos c12]
        rw [e26] at hJ14
        exact k_sub [0, 1] rfl hJ14
      refine k_aload_n X dX1_refined_128 rfl 0 rfl rfl ?_
      refine k_get X i_wsX30 0 4 q17_2 rfl rfl rfl rfl rfl dX1_refined_129 rfl ?_
      refine k_bipush X dX1_refined_132 kc_b_7 rfl ?_
      refine k_icmp_gt (tgt := 141) X dX1_refined_134 (by decide) rfl (fun c13 => ?_) (fun c13 => ?_)
      · skip
        refine k_iconst X dX1_refined_141 kc_i_0 rfl ?_
        have e27 : (pX1_refined_142_S1 i_rs1 u1) = (0 : Int32) := by rw [pX1_refined_142_S1, if_neg c12, if_pos c13]
        rw [e27] at hJ14
        exact k_sub [0, 1] rfl hJ14
      refine k_iload_n X dX1_refined_137 rfl 1 rfl rfl ?_
      refine k_goto (tgt := 142) X dX1_refined_138 (by decide) ?_
      have e28 : (pX1_refined_142_S1 i_rs1 u1) = u1 := by rw [pX1_refined_142_S1, if_neg c12, if_neg c13]
      rw [e28] at hJ14
      exact k_sub [0, 1] rfl hJ14
    have e29 : (fX1_refined i_form i_rs1 i_rs2 i_high u1) = (pX1_refined_142_S1 i_rs1 u1) := by rw [fX1_refined, if_neg c1, if_neg c4, if_neg c7, if_pos c11]
    exact k_iret9 X hRt hLk e29.symm rfl dX1_refined_142
  by_cases c15 : (fX3_operation i_form i_high) = (84 : Int32)
  · refine k_lkI (tgt := 143) X dX1_refined_4 (by decide) c15 rfl (by decide) ?_
    refine k_aload_n X dX1_refined_143 rfl 0 rfl rfl ?_
    refine k_get X i_wsX30 0 4 q17_2 rfl rfl rfl rfl rfl dX1_refined_144 rfl ?_
    refine k_aload_n X dX1_refined_147 rfl 0 rfl rfl ?_
    refine k_get X i_wsX30 0 5 q17_3 rfl rfl rfl rfl rfl dX1_refined_148 rfl ?_
    refine k_cS1 (st := []) (ws' := [(b_i, .inr (2, [.int i_bits, .int i_code, .int i_form, .int i_rd, .int i_rs1, .int i_rs2, .int i_high, .int i_masked]))]) (wr := [(b_i, .inr (2, [.int i_bits, .int i_code, .int i_form, .int i_rd, .int i_rs1, .int i_rs2, .int i_high, .int i_masked]))]) X [.int i_rs1, .int i_rs2] 0 [] [0] [0] (kX1_fromMask l D kI kZ i_rs1 i_rs2) vX1_fromMask q17_18 dX1_refined_151 rfl rfl rfl rfl rfl rfl rfl rfl rfl rfl rfl rfl rfl ?_
    have e30 : (fX1_refined i_form i_rs1 i_rs2 i_high u1) = (fX1_fromMask i_rs1 i_rs2) := by rw [fX1_refined, if_neg c1, if_neg c4, if_neg c7, if_neg c11, if_pos c15]
    exact k_iret9 X hRt hLk e30.symm rfl dX1_refined_154
  refine k_lkD (tgt := 155) X dX1_refined_4 (by decide) [(14 : Int32), (39 : Int32), (80 : Int32), (82 : Int32), (84 : Int32)] (List.forall_mem_cons.mpr ⟨c1, (List.forall_mem_cons.mpr ⟨c4, (List.forall_mem_cons.mpr ⟨c7, (List.forall_mem_cons.mpr ⟨c11, (List.forall_mem_cons.mpr ⟨c15, (fun _ h => absurd h List.not_mem_nil)⟩)⟩)⟩)⟩)⟩) (by decide +kernel) (by decide) ?_
  refine k_iload_n X dX1_refined_155 rfl 1 rfl rfl ?_
  have e31 : (fX1_refined i_form i_rs1 i_rs2 i_high u1) = u1 := by rw [fX1_refined, if_neg c1, if_neg c4, if_neg c7, if_neg c11, if_neg c15]
  exact k_iret9 X hRt hLk e31.symm rfl dX1_refined_156
theorem vX1_refined : kSt yX1_refined cX1_refined 2 (some .int) 2 := ⟨q17_1, q16_9, q17_0, by decide, by decide +kernel⟩
noncomputable def pX1_isMaskBitRight_136_S1 (i_rs2 : Int32) (i_masked : Int32) : Int32 := (if i_masked = (0 : Int32) then (if i_rs2 = (0 : Int32) then (1 : Int32) else (0 : Int32)) else (1 : Int32))
theorem zpX1_isMaskBitRight_136_S1 (i_rs2 : Int32) (i_masked : Int32) : narrow .boolean (.int (pX1_isMaskBitRight_136_S1 i_rs2 i_masked)) = .int (pX1_isMaskBitRight_136_S1 i_rs2 i_masked) := by unfold pX1_isMaskBitRight_136_S1; exact (kzi (kzi rfl rfl) rfl)
noncomputable def pX1_isMaskBitRight_149_S1 (i_masked : Int32) : Int32 := (if i_masked = (0 : Int32) then (1 : Int32) else (0 : Int32))
theorem zpX1_isMaskBitRight_149_S1 (i_masked : Int32) : narrow .boolean (.int (pX1_isMaskBitRight_149_S1 i_masked)) = .int (pX1_isMaskBitRight_149_S1 i_masked) := by unfold pX1_isMaskBitRight_149_S1; exact (kzi rfl rfl)
noncomputable def fX1_isMaskBitRight (i_rs2 : Int32) (i_masked : Int32) (u1 : Int32) : Int32 := (if u1 = (3 : Int32) then i_masked else (if u1 = (5 : Int32) then (pX1_isMaskBitRight_136_S1 i_rs2 i_masked) else (if u1 = (12 : Int32) then (pX1_isMaskBitRight_149_S1 i_masked) else (if u1 = (17 : Int32) then (pX1_isMaskBitRight_149_S1 i_masked) else (if u1 = (18 : Int32) then (pX1_isMaskBitRight_149_S1 i_masked) else (if u1 = (25 : Int32) then (pX1_isMaskBitRight_149_S1 i_masked) else (if u1 = (26 : Int32) then (pX1_isMaskBitRight_149_S1 i_masked) else (1 : Int32))))))))
noncomputable def okX1_isMaskBitRight (i_masked : Int32) (u1 : Int32) : Prop := ((u1 = (3 : Int32)) → narrow .boolean (.int i_masked) = .int i_masked)
theorem zX1_isMaskBitRight (i_rs2 : Int32) (i_masked : Int32) (u1 : Int32) (hz0 : narrow .boolean (.int i_masked) = .int i_masked) : narrow .boolean (.int (fX1_isMaskBitRight i_rs2 i_masked u1)) = .int (fX1_isMaskBitRight i_rs2 i_masked u1) := by unfold fX1_isMaskBitRight; exact (kzi hz0 (kzi (zpX1_isMaskBitRight_136_S1 i_rs2 i_masked) (kzi (zpX1_isMaskBitRight_149_S1 i_masked) (kzi (zpX1_isMaskBitRight_149_S1 i_masked) (kzi (zpX1_isMaskBitRight_149_S1 i_masked) (kzi (zpX1_isMaskBitRight_149_S1 i_masked) (kzi (zpX1_isMaskBitRight_149_S1 i_masked) rfl)))))))
set_option maxRecDepth 100000 in
set_option maxHeartbeats 4000000 in
theorem kX1_isMaskBitRight (l : Launch) (D : va_G) (kI kZ : ClassId) (b_i : Nat) (i_bits : Int32) (i_code : Int32) (i_form : Int32) (i_rd : Int32) (i_rs1 : Int32) (i_rs2 : Int32) (i_high : Int32) (i_masked : Int32) (u1 : Int32) (hok : okX1_isMaskBitRight i_masked u1) : kM l yX1_isMaskBitRight cX1_isMaskBitRight 2 (some .boolean) 0 0 0 0 D [(kI, .int), (kZ, .boolean)] [.ref b_i, .int u1] [(b_i, .inr (2, [.int i_bits, .int i_code, .int i_form, .int i_rd, .int i_rs1, .int i_rs2, .int i_high, .int i_masked]))] (some (.int (fX1_isMaskBitRight i_rs2 i_masked u1))) [(b_i, .inr (2, [.int i_bits, .int i_code, .int i_form, .int i_rd, .int i_rs1, .int i_rs2, .int i_high, .int i_masked]))] := by
  refine kM.of (by decide) rfl ?_
  intro p e R s m args below meth c A X _ _ hRt hLk
  refine k_sub [0, 1] (lv' := [(0, .ref b_i), (1, .int u1)]) rfl ?_
  unfold okX1_isMaskBitRight at hok
  refine k_iload_n X dX1_isMaskBitRight_0 rfl 1 rfl rfl ?_
  by_cases c1 : u1 = (3 : Int32)
  · refine k_tblIn (tgt := 112) X dX1_isMaskBitRight_1 c1 (by decide) (by decide) rfl (by decide) ?_
    refine k_aload_n X dX1_isMaskBitRight_112 rfl 0 rfl rfl ?_
    refine k_get X i_wsX30 0 7 q18_0 rfl rfl rfl rfl rfl dX1_isMaskBitRight_113 rfl ?_
    have e21 : (fX1_isMaskBitRight i_rs2 i_masked u1) = i_masked := by rw [fX1_isMaskBitRight, if_pos c1]
    exact k_zret9 X hRt hLk (hok c1) e21.symm rfl dX1_isMaskBitRight_116
  by_cases c2 : u1 = (5 : Int32)
  · refine k_tblIn (tgt := 117) X dX1_isMaskBitRight_1 c2 (by decide) (by decide) rfl (by decide) ?_
    refine k_aload_n X dX1_isMaskBitRight_117 rfl 0 rfl rfl ?_
    refine k_get X i_wsX30 0 7 q18_0 rfl rfl rfl rfl rfl dX1_isMaskBitRight_118 rfl ?_
    refine k_mid2 [(b_i, .inr (2, [.int i_bits, .int i_code, .int i_form, .int i_rd, .int i_rs1, .int i_rs2, .int i_high, .int i_masked]))] [(0, .ref b_i), (1, .int u1)] [.int (pX1_isMaskBitRight_136_S1 i_rs2 i_masked)] 136 (fun hJ5 => ?_) ?_
    · skip
      refine k_if_ne (tgt := 131) X dX1_isMaskBitRight_121 (by decide) rfl (fun c3 => ?_) (fun c3 => ?_)
      · skip
        refine k_aload_n X dX1_isMaskBitRight_124 rfl 0 rfl rfl ?_
        refine k_get X i_wsX30 0 5 q17_3 rfl rfl rfl rfl rfl dX1_isMaskBitRight_125 rfl ?_
        refine k_if_ne (tgt := 135) X dX1_isMaskBitRight_128 (by decide) rfl (fun c4 => ?_) (fun c4 => ?_)
        · skip
          refine k_iconst X dX1_isMaskBitRight_131 kc_i_1 rfl ?_
          refine k_goto (tgt := 136) X dX1_isMaskBitRight_132 (by decide) ?_
          have e22 : (pX1_isMaskBitRight_136_S1 i_rs2 i_masked) = (1 : Int32) := by rw [pX1_isMaskBitRight_136_S1, if_pos c3, if_pos c4]
          rw [e22] at hJ5
          exact k_sub [0, 1] rfl hJ5
        refine k_iconst X dX1_isMaskBitRight_135 kc_i_0 rfl ?_
        have e23 : (pX1_isMaskBitRight_136_S1 i_rs2 i_masked) = (0 : Int32) := by rw [pX1_isMaskBitRight_136_S1, if_pos c3, if_neg c4]
        rw [e23] at hJ5
        exact k_sub [0, 1] rfl hJ5
      refine k_iconst X dX1_isMaskBitRight_131 kc_i_1 rfl ?_
      refine k_goto (tgt := 136) X dX1_isMaskBitRight_132 (by decide) ?_
      have e24 : (pX1_isMaskBitRight_136_S1 i_rs2 i_masked) = (1 : Int32) := by rw [pX1_isMaskBitRight_136_S1, if_neg c3]
      rw [e24] at hJ5
      exact k_sub [0, 1] rfl hJ5
    have e25 : (fX1_isMaskBitRight i_rs2 i_masked u1) = (pX1_isMaskBitRight_136_S1 i_rs2 i_masked) := by rw [fX1_isMaskBitRight, if_neg c1, if_pos c2]
    exact k_zret9 X hRt hLk (zpX1_isMaskBitRight_136_S1 i_rs2 i_masked) e25.symm rfl dX1_isMaskBitRight_136
  by_cases c6 : u1 = (12 : Int32)
  · refine k_tblIn (tgt := 137) X dX1_isMaskBitRight_1 c6 (by decide) (by decide) rfl (by decide) ?_
    refine k_aload_n X dX1_isMaskBitRight_137 rfl 0 rfl rfl ?_
    refine k_get X i_wsX30 0 7 q18_0 rfl rfl rfl rfl rfl dX1_isMaskBitRight_138 rfl ?_
    refine k_mid2 [(b_i, .inr (2, [.int i_bits, .int i_code, .int i_form, .int i_rd, .int i_rs1, .int i_rs2, .int i_high, .int i_masked]))] [(0, .ref b_i), (1, .int u1)] [.int (pX1_isMaskBitRight_149_S1 i_masked)] 149 (fun hJ8 => ?_) ?_
    · skip
      refine k_if_ne (tgt := 148) X dX1_isMaskBitRight_141 (by decide) rfl (fun c7 => ?_) (fun c7 => ?_)
      · skip
        refine k_iconst X dX1_isMaskBitRight_144 kc_i_1 rfl ?_
        refine k_goto (tgt := 149) X dX1_isMaskBitRight_145 (by decide) ?_
        have e26 : (pX1_isMaskBitRight_149_S1 i_masked) = (1 : Int32) := by rw [pX1_isMaskBitRight_149_S1, if_pos c7]
        rw [e26] at hJ8
        exact k_sub [0, 1] rfl hJ8
      refine k_iconst X dX1_isMaskBitRight_148 kc_i_0 rfl ?_
      have e27 : (pX1_isMaskBitRight_149_S1 i_masked) = (0 : Int32) := by rw [pX1_isMaskBitRight_149_S1, if_neg c7]
      rw [e27] at hJ8
      exact k_sub [0, 1] rfl hJ8
    have e28 : (fX1_isMaskBitRight i_rs2 i_masked u1) = (pX1_isMaskBitRight_149_S1 i_masked) := by rw [fX1_isMaskBitRight, if_neg c1, if_neg c2, if_pos c6]
    exact k_zret9 X hRt hLk (zpX1_isMaskBitRight_149_S1 i_masked) e28.symm rfl dX1_isMaskBitRight_149
  by_cases c9 : u1 = (17 : Int32)
  · refine k_tblIn (tgt := 137) X dX1_isMaskBitRight_1 c9 (by decide) (by decide) rfl (by decide) ?_
    refine k_aload_n X dX1_isMaskBitRight_137 rfl 0 rfl rfl ?_
    refine k_get X i_wsX30 0 7 q18_0 rfl rfl rfl rfl rfl dX1_isMaskBitRight_138 rfl ?_
    refine k_mid2 [(b_i, .inr (2, [.int i_bits, .int i_code, .int i_form, .int i_rd, .int i_rs1, .int i_rs2, .int i_high, .int i_masked]))] [(0, .ref b_i), (1, .int u1)] [.int (pX1_isMaskBitRight_149_S1 i_masked)] 149 (fun hJ11 => ?_) ?_
    · skip
      refine k_if_ne (tgt := 148) X dX1_isMaskBitRight_141 (by decide) rfl (fun c10 => ?_) (fun c10 => ?_)
      · skip
        refine k_iconst X dX1_isMaskBitRight_144 kc_i_1 rfl ?_
        refine k_goto (tgt := 149) X dX1_isMaskBitRight_145 (by decide) ?_
        have e29 : (pX1_isMaskBitRight_149_S1 i_masked) = (1 : Int32) := by rw [pX1_isMaskBitRight_149_S1, if_pos c10]
        rw [e29] at hJ11
        exact k_sub [0, 1] rfl hJ11
      refine k_iconst X dX1_isMaskBitRight_148 kc_i_0 rfl ?_
      have e30 : (pX1_isMaskBitRight_149_S1 i_masked) = (0 : Int32) := by rw [pX1_isMaskBitRight_149_S1, if_neg c10]
      rw [e30] at hJ11
      exact k_sub [0, 1] rfl hJ11
    have e31 : (fX1_isMaskBitRight i_rs2 i_masked u1) = (pX1_isMaskBitRight_149_S1 i_masked) := by rw [fX1_isMaskBitRight, if_neg c1, if_neg c2, if_neg c6, if_pos c9]
    exact k_zret9 X hRt hLk (zpX1_isMaskBitRight_149_S1 i_masked) e31.symm rfl dX1_isMaskBitRight_149
  by_cases c12 : u1 = (18 : Int32)
  · refine k_tblIn (tgt := 137) X dX1_isMaskBitRight_1 c12 (by decide) (by decide) rfl (by decide) ?_
    refine k_aload_n X dX1_isMaskBitRight_137 rfl 0 rfl rfl ?_
    refine k_get X i_wsX30 0 7 q18_0 rfl rfl rfl rfl rfl dX1_isMaskBitRight_138 rfl ?_
    refine k_mid2 [(b_i, .inr (2, [.int i_bits, .int i_code, .int i_form, .int i_rd, .int i_rs1, .int i_rs2, .int i_high, .int i_masked]))] [(0, .ref b_i), (1, .int u1)] [.int (pX1_isMaskBitRight_149_S1 i_masked)] 149 (fun hJ14 => ?_) ?_
    · skip
      refine k_if_ne (tgt := 148) X dX1_isMaskBitRight_141 (by decide) rfl (fun c13 => ?_) (fun c13 => ?_)
      · skip
        refine k_iconst X dX1_isMaskBitRight_144 kc_i_1 rfl ?_
        refine k_goto (tgt := 149) X dX1_isMaskBitRight_145 (by decide) ?_
        have e32 : (pX1_isMaskBitRight_149_S1 i_masked) = (1 : Int32) := by rw [pX1_isMaskBitRight_149_S1, if_pos c13]
        rw [e32] at hJ14
        exact k_sub [0, 1] rfl hJ14
      refine k_iconst X dX1_isMaskBitRight_148 kc_i_0 rfl ?_
      have e33 : (pX1_isMaskBitRight_149_S1 i_masked) = (0 : Int32) := by rw [pX1_isMaskBitRight_149_S1, if_neg c13]
      rw [e33] at hJ14
      exact k_sub [0, 1] rfl hJ14
    have e34 : (fX1_isMaskBitRight i_rs2 i_masked u1) = (pX1_isMaskBitRight_149_S1 i_masked) := by rw [fX1_isMaskBitRight, if_neg c1, if_neg c2, if_neg c6, if_neg c9, if_pos c12]
    exact k_zret9 X hRt hLk (zpX1_isMaskBitRight_149_S1 i_masked) e34.symm rfl dX1_isMaskBitRight_149
  by_cases c15 : u1 = (25 : Int32)
  · refine k_tblIn (tgt := 137) X dX1_isMaskBitRight_1 c15 (by decide) (by decide) rfl (by decide) ?_
    refine k_aload_n X dX1_isMaskBitRight_137 rfl 0 rfl rfl ?_
    refine k_get X i_wsX30 0 7 q18_0 rfl rfl rfl rfl rfl dX1_isMaskBitRight_138 rfl ?_
    refine k_mid2 [(b_i, .inr (2, [.int i_bits, .int i_code, .int i_form, .int i_rd, .int i_rs1, .int i_rs2, .int i_high, .int i_masked]))] [(0, .ref b_i), (1, .int u1)] [.int (pX1_isMaskBitRight_149_S1 i_masked)] 149 (fun hJ17 => ?_) ?_
    · skip
      refine k_if_ne (tgt := 148) X dX1_isMaskBitRight_141 (by decide) rfl (fun c16 => ?_) (fun c16 => ?_)
      · skip
        refine k_iconst X dX1_isMaskBitRight_144 kc_i_1 rfl ?_
        refine k_goto (tgt := 149) X dX1_isMaskBitRight_145 (by decide) ?_
        have e35 : (pX1_isMaskBitRight_149_S1 i_masked) = (1 : Int32) := by rw [pX1_isMaskBitRight_149_S1, if_pos c16]
        rw [e35] at hJ17
        exact k_sub [0, 1] rfl hJ17
      refine k_iconst X dX1_isMaskBitRight_148 kc_i_0 rfl ?_
      have e36 : (pX1_isMaskBitRight_149_S1 i_masked) = (0 : Int32) := by rw [pX1_isMaskBitRight_149_S1, if_neg c16]
      rw [e36] at hJ17
      exact k_sub [0, 1] rfl hJ17
    have e37 : (fX1_isMaskBitRight i_rs2 i_masked u1) = (pX1_isMaskBitRight_149_S1 i_masked) := by rw [fX1_isMaskBitRight, if_neg c1, if_neg c2, if_neg c6, if_neg c9, if_neg c12, if_pos c15]
    exact k_zret9 X hRt hLk (zpX1_isMaskBitRight_149_S1 i_masked) e37.symm rfl dX1_isMaskBitRight_149
  by_cases c18 : u1 = (26 : Int32)
  · refine k_tblIn (tgt := 137) X dX1_isMaskBitRight_1 c18 (by decide) (by decide) rfl (by decide) ?_
    refine k_aload_n X dX1_isMaskBitRight_137 rfl 0 rfl rfl ?_
    refine k_get X i_wsX30 0 7 q18_0 rfl rfl rfl rfl rfl dX1_isMaskBitRight_138 rfl ?_
    refine k_mid2 [(b_i, .inr (2, [.int i_bits, .int i_code, .int i_form, .int i_rd, .int i_rs1, .int i_rs2, .int i_high, .int i_masked]))] [(0, .ref b_i), (1, .int u1)] [.int (pX1_isMaskBitRight_149_S1 i_masked)] 149 (fun hJ20 => ?_) ?_
    · skip
      refine k_if_ne (tgt := 148) X dX1_isMaskBitRight_141 (by decide) rfl (fun c19 => ?_) (fun c19 => ?_)
      · skip
        refine k_iconst X dX1_isMaskBitRight_144 kc_i_1 rfl ?_
        refine k_goto (tgt := 149) X dX1_isMaskBitRight_145 (by decide) ?_
        have e38 : (pX1_isMaskBitRight_149_S1 i_masked) = (1 : Int32) := by rw [pX1_isMaskBitRight_149_S1, if_pos c19]
        rw [e38] at hJ20
        exact k_sub [0, 1] rfl hJ20
      refine k_iconst X dX1_isMaskBitRight_148 kc_i_0 rfl ?_
      have e39 : (pX1_isMaskBitRight_149_S1 i_masked) = (0 : Int32) := by rw [pX1_isMaskBitRight_149_S1, if_neg c19]
      rw [e39] at hJ20
      exact k_sub [0, 1] rfl hJ20
    have e40 : (fX1_isMaskBitRight i_rs2 i_masked u1) = (pX1_isMaskBitRight_149_S1 i_masked) := by rw [fX1_isMaskBitRight, if_neg c1, if_neg c2, if_neg c6, if_neg c9, if_neg c12, if_neg c15, if_pos c18]
    exact k_zret9 X hRt hLk (zpX1_isMaskBitRight_149_S1 i_masked) e40.symm rfl dX1_isMaskBitRight_149
  refine k_tblD (tgt := 150) X dX1_isMaskBitRight_1 [(3 : Int32), (5 : Int32), (12 : Int32), (17 : Int32), (18 : Int32), (25 : Int32), (26 : Int32)] (List.forall_mem_cons.mpr ⟨c1, (List.forall_mem_cons.mpr ⟨c2, (List.forall_mem_cons.mpr ⟨c6, (List.forall_mem_cons.mpr ⟨c9, (List.forall_mem_cons.mpr ⟨c12, (List.forall_mem_cons.mpr ⟨c15, (List.forall_mem_cons.mpr ⟨c18, (fun _ h => absurd h List.not_mem_nil)⟩)⟩)⟩)⟩)⟩)⟩)⟩) (by decide +kernel) (by decide) ?_
  refine k_iconst X dX1_isMaskBitRight_150 kc_i_1 rfl ?_
  have e41 : (fX1_isMaskBitRight i_rs2 i_masked u1) = (1 : Int32) := by rw [fX1_isMaskBitRight, if_neg c1, if_neg c2, if_neg c6, if_neg c9, if_neg c12, if_neg c15, if_neg c18]
  exact k_zret9 X hRt hLk rfl e41.symm rfl dX1_isMaskBitRight_151
theorem vX1_isMaskBitRight : kSt yX1_isMaskBitRight cX1_isMaskBitRight 2 (some .boolean) 2 := ⟨q17_23, q16_9, q17_22, by decide, by decide +kernel⟩
noncomputable def eX1_kindOf_30 (i_form : Int32) (i_rs1 : Int32) (i_rs2 : Int32) (i_high : Int32) : Int32 := (fX1_refined i_form i_rs1 i_rs2 i_high ((fX1_entryOf (fX3_operation i_form i_high)) &&& (31 : Int32)))
noncomputable def pX1_kindOf_44_S1 (i_form : Int32) (i_rs1 : Int32) (i_rs2 : Int32) (i_high : Int32) (i_masked : Int32) : Int32 := (if (fX1_isMaskBitRight i_rs2 i_masked (eX1_kindOf_30 i_form i_rs1 i_rs2 i_high)) = (0 : Int32) then (0 : Int32) else (eX1_kindOf_30 i_form i_rs1 i_rs2 i_high))
noncomputable def fX1_kindOf (i_form : Int32) (i_rs1 : Int32) (i_rs2 : Int32) (i_high : Int32) (i_masked : Int32) : Int32 := (if ((fX1_entryOf (fX3_operation i_form i_high)) &&& (fX1_formBit i_form)) = (0 : Int32) then (0 : Int32) else (pX1_kindOf_44_S1 i_form i_rs1 i_rs2 i_high i_masked))
noncomputable def okX1_kindOf (i_form : Int32) (i_rs1 : Int32) (i_rs2 : Int32) (i_high : Int32) (i_masked : Int32) : Prop := (¬ (((fX1_entryOf (fX3_operation i_form i_high)) &&& (fX1_formBit i_form)) = (0 : Int32)) → okX1_isMaskBitRight i_masked (eX1_kindOf_30 i_form i_rs1 i_rs2 i_high))
set_option maxRecDepth 100000 in
set_option maxHeartbeats 4000000 in
theorem kX1_kindOf (l : Launch) (D : va_G) (kI kZ : ClassId) (b_i : Nat) (i_bits : Int32) (i_code : Int32) (i_form : Int32) (i_rd : Int32) (i_rs1 : Int32) (i_rs2 : Int32) (i_high : Int32) (i_masked : Int32) (hok : okX1_kindOf i_form i_rs1 i_rs2 i_high i_masked) : kM l yX1_kindOf cX1_kindOf 3 (some .int) 2 26 0 0 D [(kI, .int), (kZ, .boolean)] [.ref b_i] [(b_i, .inr (2, [.int i_bits, .int i_code, .int i_form, .int i_rd, .int i_rs1, .int i_rs2, .int i_high, .int i_masked]))] (some (.int (fX1_kindOf i_form i_rs1 i_rs2 i_high i_masked))) [(b_i, .inr (2, [.int i_bits, .int i_code, .int i_form, .int i_rd, .int i_rs1, .int i_rs2, .int i_high, .int i_masked]))] := by
  refine kM.of (by decide) rfl ?_
  intro p e R s m args below meth c A X _ _ hRt hLk
  refine k_sub [0] (lv' := [(0, .ref b_i)]) rfl ?_
  unfold okX1_kindOf at hok
  refine k_aload_n X dX1_kindOf_0 rfl 0 rfl rfl ?_
  refine k_cV1 (st := []) (ws' := [(b_i, .inr (2, [.int i_bits, .int i_code, .int i_form, .int i_rd, .int i_rs1, .int i_rs2, .int i_high, .int i_masked]))]) (wr := []) (ci := 2) (q9 := 0) X [] 0 [0] [] [0] (kX3_operation l D kI kZ b_i i_bits i_code i_form i_rd i_rs1 i_rs2 i_high i_masked) vX3_operation q16_12 dX1_kindOf_1 rfl rfl rfl rfl rfl rfl rfl rfl rfl rfl rfl rfl rfl rfl rfl ?_
  refine k_cS1 (st := []) (ws' := [(b_i, .inr (2, [.int i_bits, .int i_code, .int i_form, .int i_rd, .int i_rs1, .int i_rs2, .int i_high, .int i_masked]))]) (wr := [(b_i, .inr (2, [.int i_bits, .int i_code, .int i_form, .int i_rd, .int i_rs1, .int i_rs2, .int i_high, .int i_masked]))]) X [.int (fX3_operation i_form i_high)] 0 [] [0] [0] (kX1_entryOf l D kI kZ (fX3_operation i_form i_high)) vX1_entryOf q16_16 dX1_kindOf_4 rfl rfl rfl rfl rfl rfl rfl rfl rfl rfl rfl rfl rfl ?_
  refine k_istore_n (lv' := [(1, .int (fX1_entryOf (fX3_operation i_form i_high))), (0, .ref b_i)]) X dX1_kindOf_7 rfl rfl rfl rfl ?_
  refine k_iload_n X dX1_kindOf_8 rfl 0 rfl rfl ?_
  refine k_aload_n X dX1_kindOf_9 rfl 1 rfl rfl ?_
  refine k_get X i_wsX30 0 2 q16_11 rfl rfl rfl rfl rfl dX1_kindOf_10 rfl ?_
  refine k_cS1 (st := [.int (fX1_entryOf (fX3_operation i_form i_high))]) (ws' := [(b_i, .inr (2, [.int i_bits, .int i_code, .int i_form, .int i_rd, .int i_rs1, .int i_rs2, .int i_high, .int i_masked]))]) (wr := [(b_i, .inr (2, [.int i_bits, .int i_code, .int i_form, .int i_rd, .int i_rs1, .int i_rs2, .int i_high, .int i_masked]))]) X [.int i_form] 1 [] [0] [0] (kX1_formBit l D kI kZ i_form) vX1_formBit q16_20 dX1_kindOf_13 rfl rfl rfl rfl rfl rfl rfl rfl rfl rfl rfl rfl rfl ?_
  refine k_iand X dX1_kindOf_16 rfl ?_
  refine k_if_ne (tgt := 22) X dX1_kindOf_17 (by decide) rfl (fun c1 => ?_) (fun c1 => ?_)
  · skip
    refine k_iconst X dX1_kindOf_20 kc_i_0 rfl ?_
    have e4 : (fX1_kindOf i_form i_rs1 i_rs2 i_high i_masked) = (0 : Int32) := by rw [fX1_kindOf, if_pos c1]
    exact k_iret9 X hRt hLk e4.symm rfl dX1_kindOf_21
  refine k_aload_n X dX1_kindOf_22 rfl 1 rfl rfl ?_
  refine k_iload_n X dX1_kindOf_23 rfl 0 rfl rfl ?_
  refine k_bipush X dX1_kindOf_24 kc_b_31 rfl ?_
  refine k_iand X dX1_kindOf_26 rfl ?_
  refine k_cS1 (st := []) (ws' := [(b_i, .inr (2, [.int i_bits, .int i_code, .int i_form, .int i_rd, .int i_rs1, .int i_rs2, .int i_high, .int i_masked]))]) (wr := []) X [.ref b_i, .int ((fX1_entryOf (fX3_operation i_form i_high)) &&& (31 : Int32))] 0 [0] [] [0] (kX1_refined l D kI kZ b_i i_bits i_code i_form i_rd i_rs1 i_rs2 i_high i_masked ((fX1_entryOf (fX3_operation i_form i_high)) &&& (31 : Int32))) vX1_refined q16_23 dX1_kindOf_27 rfl rfl rfl rfl rfl rfl rfl rfl rfl rfl rfl rfl rfl ?_
  refine k_foldi (v := (eX1_kindOf_30 i_form i_rs1 i_rs2 i_high)) rfl ?_
  refine k_istore_n (lv' := [(2, .int (eX1_kindOf_30 i_form i_rs1 i_rs2 i_high)), (1, .int (fX1_entryOf (fX3_operation i_form i_high))), (0, .ref b_i)]) X dX1_kindOf_30 rfl rfl rfl rfl ?_
  refine k_aload_n X dX1_kindOf_31 rfl 2 rfl rfl ?_
  refine k_iload_n X dX1_kindOf_32 rfl 0 rfl rfl ?_
  refine k_cS1 (st := []) (ws' := [(b_i, .inr (2, [.int i_bits, .int i_code, .int i_form, .int i_rd, .int i_rs1, .int i_rs2, .int i_high, .int i_masked]))]) (wr := []) X [.ref b_i, .int (eX1_kindOf_30 i_form i_rs1 i_rs2 i_high)] 0 [0] [] [0] (kX1_isMaskBitRight l D kI kZ b_i i_bits i_code i_form i_rd i_rs1 i_rs2 i_high i_masked (eX1_kindOf_30 i_form i_rs1 i_rs2 i_high) (hok c1)) vX1_isMaskBitRight q17_21 dX1_kindOf_33 rfl rfl rfl rfl rfl rfl rfl rfl rfl rfl rfl rfl rfl ?_
  refine k_mid2 [(b_i, .inr (2, [.int i_bits, .int i_code, .int i_form, .int i_rd, .int i_rs1, .int i_rs2, .int i_high, .int i_masked]))] [(0, .ref b_i), (1, .int (fX1_entryOf (fX3_operation i_form i_high))), (2, .int (eX1_kindOf_30 i_form i_rs1 i_rs2 i_high))] [.int (pX1_kindOf_44_S1 i_form i_rs1 i_rs2 i_high i_masked)] 44 (fun hJ3 => ?_) ?_
  · skip
    refine k_if_eq (tgt := 43) X dX1_kindOf_36 (by decide) rfl (fun c2 => ?_) (fun c2 => ?_)
    · skip
      refine k_iconst X dX1_kindOf_43 kc_i_0 rfl ?_
      have e5 : (pX1_kindOf_44_S1 i_form i_rs1 i_rs2 i_high i_masked) = (0 : Int32) := by rw [pX1_kindOf_44_S1, if_pos c2]
      rw [e5] at hJ3
      exact k_sub [2, 1, 0] rfl hJ3
    refine k_iload_n X dX1_kindOf_39 rfl 0 rfl rfl ?_
    refine k_goto (tgt := 44) X dX1_kindOf_40 (by decide) ?_
    have e6 : (pX1_kindOf_44_S1 i_form i_rs1 i_rs2 i_high i_masked) = (eX1_kindOf_30 i_form i_rs1 i_rs2 i_high) := by rw [pX1_kindOf_44_S1, if_neg c2]
    rw [e6] at hJ3
    exact k_sub [2, 1, 0] rfl hJ3
  have e7 : (fX1_kindOf i_form i_rs1 i_rs2 i_high i_masked) = (pX1_kindOf_44_S1 i_form i_rs1 i_rs2 i_high i_masked) := by rw [fX1_kindOf, if_neg c1]
  exact k_iret9 X hRt hLk e7.symm rfl dX1_kindOf_44
theorem vX1_kindOf : kSt yX1_kindOf cX1_kindOf 3 (some .int) 1 := ⟨q16_10, q16_9, q16_8, by decide, by decide +kernel⟩
