noncomputable def fX10_choose__r_choices (u1 : Int64) : Int64 := u1
set_option maxRecDepth 100000 in
set_option maxHeartbeats 4000000 in
theorem kX10_choose (l : Launch) (D : va_G) (kI kZ : ClassId) (b_q : Nat) (b_r : Nat) (q_memory : Nat) (q_current : Nat) (q_lengthUnit : Nat) (q_lanes : Nat) (q_port : Nat) (q_doneCount : Int32) (q_illegalCount : Int32) (q_trapCount : Int32) (r_scalars : Nat) (r_vectors : Nat) (r_type : Nat) (r_length : Int32) (r_start : Int32) (r_rounding : Int32) (r_saturated : Int32) (r_choices : Int64) (u1 : Int64) : kM l yX10_choose cX10_choose 3 none 0 0 0 0 D [(kI, .int), (kZ, .boolean)] [.ref b_q, .long u1] [(b_q, .inr (9, [.ref b_r, .ref q_memory, .ref q_current, .ref q_lengthUnit, .ref q_lanes, .ref q_port, .int q_doneCount, .int q_illegalCount, .int q_trapCount])), (b_r, .inr (7, [.ref r_scalars, .ref r_vectors, .ref r_type, .int r_length, .int r_start, .int r_rounding, .int r_saturated, .long r_choices]))] none [(b_q, .inr (9, [.ref b_r, .ref q_memory, .ref q_current, .ref q_lengthUnit, .ref q_lanes, .ref q_port, .int q_doneCount, .int q_illegalCount, .int q_trapCount])), (b_r, .inr (7, [.ref r_scalars, .ref r_vectors, .ref r_type, .int r_length, .int r_start, .int r_rounding, .int r_saturated, .long (fX10_choose__r_choices u1)]))] := by
  refine kM.of (by decide) rfl ?_
  intro p e R s m args below meth c A X _ _ hRt hLk
  refine k_sub [0, 1] (lv' := [(0, .ref b_q), (1, .long u1)]) rfl ?_
  refine k_aload_n X dX10_choose_0 rfl 0 rfl rfl ?_
  refine k_get X i_wsX100 0 0 q1_17 rfl rfl rfl rfl rfl dX10_choose_1 rfl ?_
  refine k_lload_n X dX10_choose_4 rfl 1 rfl rfl ?_
  refine k_put (ws' := [(b_q, .inr (9, [.ref b_r, .ref q_memory, .ref q_current, .ref q_lengthUnit, .ref q_lanes, .ref q_port, .int q_doneCount, .int q_illegalCount, .int q_trapCount])), (b_r, .inr (7, [.ref r_scalars, .ref r_vectors, .ref r_type, .int r_length, .int r_start, .int r_rounding, .int r_saturated, .long u1]))]) X i_wsX80 tyX8 tyX8_ok nmX8 1 7 q40_8 rfl rfl rfl rfl rfl rfl rfl rfl rfl dX10_choose_5 rfl ?_
  have e1 : (fX10_choose__r_choices u1) = u1 := by rw [fX10_choose__r_choices]
  exact k_vret X hRt hLk (by rw [e1]) dX10_choose_8
theorem vX10_choose : kVi yX10_choose cX10_choose 3 none 1 := ⟨q40_7, q1_2, q40_5, q40_6, by decide, by decide +kernel⟩
noncomputable def fX10_setState (u1 : Int32) : Int32 := (if u1 = (2 : Int32) then (1 : Int32) else (if u1 = (3 : Int32) then (1 : Int32) else (if u1 = (4 : Int32) then (1 : Int32) else (0 : Int32))))
noncomputable def fX10_setState__r_start (r_start : Int32) (u1 : Int32) (u2 : Int32) : Int32 := (if u1 = (2 : Int32) then (u2 &&& (127 : Int32)) else r_start)
noncomputable def fX10_setState__r_rounding (r_rounding : Int32) (u1 : Int32) (u2 : Int32) : Int32 := (if u1 = (2 : Int32) then r_rounding else (if u1 = (3 : Int32) then (u2 &&& (3 : Int32)) else r_rounding))
noncomputable def fX10_setState__r_saturated (r_saturated : Int32) (u1 : Int32) (u2 : Int32) : Int32 := (if u1 = (2 : Int32) then r_saturated else (if u1 = (3 : Int32) then r_saturated else (if u1 = (4 : Int32) then (u2 &&& (1 : Int32)) else r_saturated)))
theorem zX10_setState (u1 : Int32) : narrow .boolean (.int (fX10_setState u1)) = .int (fX10_setState u1) := by unfold fX10_setState; exact (kzi rfl (kzi rfl (kzi rfl rfl)))
set_option maxRecDepth 100000 in
set_option maxHeartbeats 4000000 in
theorem kX10_setState (l : Launch) (D : va_G) (kI kZ : ClassId) (b_q : Nat) (b_r : Nat) (q_memory : Nat) (q_current : Nat) (q_lengthUnit : Nat) (q_lanes : Nat) (q_port : Nat) (q_doneCount : Int32) (q_illegalCount : Int32) (q_trapCount : Int32) (r_scalars : Nat) (r_vectors : Nat) (r_type : Nat) (r_length : Int32) (r_start : Int32) (r_rounding : Int32) (r_saturated : Int32) (r_choices : Int64) (u1 : Int32) (u2 : Int32) : kM l yX10_setState cX10_setState 3 (some .boolean) 0 0 0 0 D [(kI, .int), (kZ, .boolean)] [.ref b_q, .int u1, .int u2] [(b_q, .inr (9, [.ref b_r, .ref q_memory, .ref q_current, .ref q_lengthUnit, .ref q_lanes, .ref q_port, .int q_doneCount, .int q_illegalCount, .int q_trapCount])), (b_r, .inr (7, [.ref r_scalars, .ref r_vectors, .ref r_type, .int r_length, .int r_start, .int r_rounding, .int r_saturated, .long r_choices]))] (some (.int (fX10_setState u1))) [(b_q, .inr (9, [.ref b_r, .ref q_memory, .ref q_current, .ref q_lengthUnit, .ref q_lanes, .ref q_port, .int q_doneCount, .int q_illegalCount, .int q_trapCount])), (b_r, .inr (7, [.ref r_scalars, .ref r_vectors, .ref r_type, .int r_length, .int (fX10_setState__r_start r_start u1 u2), .int (fX10_setState__r_rounding r_rounding u1 u2), .int (fX10_setState__r_saturated r_saturated u1 u2), .long r_choices]))] := by
  refine kM.of (by decide) rfl ?_
  intro p e R s m args below meth c A X _ _ hRt hLk
  refine k_sub [0, 1, 2] (lv' := [(0, .ref b_q), (1, .int u1), (2, .int u2)]) rfl ?_
  refine k_iload_n X dX10_setState_0 rfl 1 rfl rfl ?_
  by_cases c1 : u1 = (2 : Int32)
  · refine k_tblIn (tgt := 28) X dX10_setState_1 c1 (by decide) (by decide) rfl (by decide) ?_
    refine k_aload_n X dX10_setState_28 rfl 0 rfl rfl ?_
    refine k_get X i_wsX100 0 0 q1_17 rfl rfl rfl rfl rfl dX10_setState_29 rfl ?_
    refine k_iload_n X dX10_setState_32 rfl 2 rfl rfl ?_
    refine k_bipush X dX10_setState_33 kc_b_127 rfl ?_
    refine k_iand X dX10_setState_35 rfl ?_
    refine k_put (ws' := [(b_q, .inr (9, [.ref b_r, .ref q_memory, .ref q_current, .ref q_lengthUnit, .ref q_lanes, .ref q_port, .int q_doneCount, .int q_illegalCount, .int q_trapCount])), (b_r, .inr (7, [.ref r_scalars, .ref r_vectors, .ref r_type, .int r_length, .int (u2 &&& (127 : Int32)), .int r_rounding, .int r_saturated, .long r_choices]))]) X i_wsX80 tyX8 tyX8_ok nmX8 1 4 q6_7 rfl rfl rfl rfl rfl rfl rfl rfl rfl dX10_setState_36 rfl ?_
    refine k_iconst X dX10_setState_39 kc_i_1 rfl ?_
    have e4 : (fX10_setState u1) = (1 : Int32) := by rw [fX10_setState, if_pos c1]
    have e5 : (fX10_setState__r_start r_start u1 u2) = (u2 &&& (127 : Int32)) := by rw [fX10_setState__r_start, if_pos c1]
    have e6 : (fX10_setState__r_rounding r_rounding u1 u2) = r_rounding := by rw [fX10_setState__r_rounding, if_pos c1]
    have e7 : (fX10_setState__r_saturated r_saturated u1 u2) = r_saturated := by rw [fX10_setState__r_saturated, if_pos c1]
    exact k_zret9 X hRt hLk rfl e4.symm (by rw [e5, e6, e7]) dX10_setState_40
  by_cases c2 : u1 = (3 : Int32)
  · refine k_tblIn (tgt := 41) X dX10_setState_1 c2 (by decide) (by decide) rfl (by decide) ?_
    refine k_aload_n X dX10_setState_41 rfl 0 rfl rfl ?_
    refine k_get X i_wsX100 0 0 q1_17 rfl rfl rfl rfl rfl dX10_setState_42 rfl ?_
    refine k_iload_n X dX10_setState_45 rfl 2 rfl rfl ?_
    refine k_iconst X dX10_setState_46 kc_i_3 rfl ?_
    refine k_iand X dX10_setState_47 rfl ?_
    refine k_put (ws' := [(b_q, .inr (9, [.ref b_r, .ref q_memory, .ref q_current, .ref q_lengthUnit, .ref q_lanes, .ref q_port, .int q_doneCount, .int q_illegalCount, .int q_trapCount])), (b_r, .inr (7, [.ref r_scalars, .ref r_vectors, .ref r_type, .int r_length, .int r_start, .int (u2 &&& (3 : Int32)), .int r_saturated, .long r_choices]))]) X i_wsX80 tyX8 tyX8_ok nmX8 1 5 q45_3 rfl rfl rfl rfl rfl rfl rfl rfl rfl dX10_setState_48 rfl ?_
    refine k_iconst X dX10_setState_51 kc_i_1 rfl ?_
    have e8 : (fX10_setState u1) = (1 : Int32) := by rw [fX10_setState, if_neg c1, if_pos c2]
    have e9 : (fX10_setState__r_start r_start u1 u2) = r_start := by rw [fX10_setState__r_start, if_neg c1]
    have e10 : (fX10_setState__r_rounding r_rounding u1 u2) = (u2 &&& (3 : Int32)) := by rw [fX10_setState__r_rounding, if_neg c1, if_pos c2]
    have e11 : (fX10_setState__r_saturated r_saturated u1 u2) = r_saturated := by rw [fX10_setState__r_saturated, if_neg c1, if_pos c2]
    exact k_zret9 X hRt hLk rfl e8.symm (by rw [e9, e10, e11]) dX10_setState_52
  by_cases c3 : u1 = (4 : Int32)
  · refine k_tblIn (tgt := 53) X dX10_setState_1 c3 (by decide) (by decide) rfl (by decide) ?_
    refine k_aload_n X dX10_setState_53 rfl 0 rfl rfl ?_
    refine k_get X i_wsX100 0 0 q1_17 rfl rfl rfl rfl rfl dX10_setState_54 rfl ?_
    refine k_iload_n X dX10_setState_57 rfl 2 rfl rfl ?_
    refine k_iconst X dX10_setState_58 kc_i_1 rfl ?_
    refine k_iand X dX10_setState_59 rfl ?_
    refine k_put (ws' := [(b_q, .inr (9, [.ref b_r, .ref q_memory, .ref q_current, .ref q_lengthUnit, .ref q_lanes, .ref q_port, .int q_doneCount, .int q_illegalCount, .int q_trapCount])), (b_r, .inr (7, [.ref r_scalars, .ref r_vectors, .ref r_type, .int r_length, .int r_start, .int r_rounding, .int (u2 &&& (1 : Int32)), .long r_choices]))]) X i_wsX80 tyX8 tyX8_ok nmX8 1 6 q45_4 rfl rfl rfl rfl rfl rfl rfl rfl rfl dX10_setState_60 rfl ?_
    refine k_iconst X dX10_setState_63 kc_i_1 rfl ?_
    have e12 : (fX10_setState u1) = (1 : Int32) := by rw [fX10_setState, if_neg c1, if_neg c2, if_pos c3]
    have e13 : (fX10_setState__r_start r_start u1 u2) = r_start := by rw [fX10_setState__r_start, if_neg c1]
    have e14 : (fX10_setState__r_rounding r_rounding u1 u2) = r_rounding := by rw [fX10_setState__r_rounding, if_neg c1, if_neg c2]
    have e15 : (fX10_setState__r_saturated r_saturated u1 u2) = (u2 &&& (1 : Int32)) := by rw [fX10_setState__r_saturated, if_neg c1, if_neg c2, if_pos c3]
    exact k_zret9 X hRt hLk rfl e12.symm (by rw [e13, e14, e15]) dX10_setState_64
  refine k_tblD (tgt := 65) X dX10_setState_1 [(2 : Int32), (3 : Int32), (4 : Int32)] (List.forall_mem_cons.mpr ⟨c1, (List.forall_mem_cons.mpr ⟨c2, (List.forall_mem_cons.mpr ⟨c3, (fun _ h => absurd h List.not_mem_nil)⟩)⟩)⟩) (by decide +kernel) (by decide) ?_
  refine k_iconst X dX10_setState_65 kc_i_0 rfl ?_
  have e16 : (fX10_setState u1) = (0 : Int32) := by rw [fX10_setState, if_neg c1, if_neg c2, if_neg c3]
  have e17 : (fX10_setState__r_start r_start u1 u2) = r_start := by rw [fX10_setState__r_start, if_neg c1]
  have e18 : (fX10_setState__r_rounding r_rounding u1 u2) = r_rounding := by rw [fX10_setState__r_rounding, if_neg c1, if_neg c2]
  have e19 : (fX10_setState__r_saturated r_saturated u1 u2) = r_saturated := by rw [fX10_setState__r_saturated, if_neg c1, if_neg c2, if_neg c3]
  exact k_zret9 X hRt hLk rfl e16.symm (by rw [e17, e18, e19]) dX10_setState_66
theorem vX10_setState : kVi yX10_setState cX10_setState 3 (some .boolean) 2 := ⟨q45_14, q1_2, q45_12, q45_13, by decide, by decide +kernel⟩
noncomputable def fX10_state (q_doneCount : Int32) (q_illegalCount : Int32) (q_trapCount : Int32) (r_length : Int32) (r_start : Int32) (r_rounding : Int32) (r_saturated : Int32) (t_bits : Int32) (t_most : Int32) (o_trapAddress : Int32) (u1 : Int32) : Int32 := (if u1 = (0 : Int32) then r_length else (if u1 = (1 : Int32) then t_bits else (if u1 = (2 : Int32) then r_start else (if u1 = (3 : Int32) then r_rounding else (if u1 = (4 : Int32) then r_saturated else (if u1 = (5 : Int32) then t_most else (if u1 = (6 : Int32) then q_doneCount else (if u1 = (7 : Int32) then q_illegalCount else (if u1 = (8 : Int32) then q_trapCount else (if u1 = (9 : Int32) then o_trapAddress else (-1 : Int32)))))))))))
set_option maxRecDepth 100000 in
set_option maxHeartbeats 4000000 in
theorem kX10_state (l : Launch) (D : va_G) (kI kZ : ClassId) (b_q : Nat) (b_r : Nat) (b_t : Nat) (b_o : Nat) (q_memory : Nat) (q_current : Nat) (q_lengthUnit : Nat) (q_lanes : Nat) (q_doneCount : Int32) (q_illegalCount : Int32) (q_trapCount : Int32) (r_scalars : Nat) (r_vectors : Nat) (r_length : Int32) (r_start : Int32) (r_rounding : Int32) (r_saturated : Int32) (r_choices : Int64) (t_bits : Int32) (t_sew : Int32) (t_eighths : Int32) (t_most : Int32) (t_tailOpen : Int32) (t_maskedOpen : Int32) (o_memory : Nat) (o_data : Nat) (o_index : Nat) (o_mask : Nat) (o_base : Int32) (o_stride : Int32) (o_length : Int32) (o_isStore : Int32) (o_isMasked : Int32) (o_isIndexed : Int32) (o_isFirstOnly : Int32) (o_isMaskBytes : Int32) (o_trapAddress : Int32) (u1 : Int32) : kM l yX10_state cX10_state 2 (some .int) 0 0 0 0 D [(kI, .int), (kZ, .boolean)] [.ref b_q, .int u1] [(b_q, .inr (9, [.ref b_r, .ref q_memory, .ref q_current, .ref q_lengthUnit, .ref q_lanes, .ref b_o, .int q_doneCount, .int q_illegalCount, .int q_trapCount])), (b_r, .inr (7, [.ref r_scalars, .ref r_vectors, .ref b_t, .int r_length, .int r_start, .int r_rounding, .int r_saturated, .long r_choices])), (b_t, .inr (8, [.int t_bits, .int t_sew, .int t_eighths, .int t_most, .int t_tailOpen, .int t_maskedOpen])), (b_o, .inr (6, [.ref b_r, .ref o_memory, .ref o_data, .ref o_index, .ref o_mask, .int o_base, .int o_stride, .int o_length, .int o_isStore, .int o_isMasked, .int o_isIndexed, .int o_isFirstOnly, .int o_isMaskBytes, .int o_trapAddress]))] (some (.int (fX10_state q_doneCount q_illegalCount q_trapCount r_length r_start r_rounding r_saturated t_bits t_most o_trapAddress u1))) [(b_q, .inr (9, [.ref b_r, .ref q_memory, .ref q_current, .ref q_lengthUnit, .ref q_lanes, .ref b_o, .int q_doneCount, .int q_illegalCount, .int q_trapCount])), (b_r, .inr (7, [.ref r_scalars, .ref r_vectors, .ref b_t, .int r_length, .int r_start, .int r_rounding, .int r_saturated, .long r_choices])), (b_t, .inr (8, [.int t_bits, .int t_sew, .int t_eighths, .int t_most, .int t_tailOpen, .int t_maskedOpen])), (b_o, .inr (6, [.ref b_r, .ref o_memory, .ref o_data, .ref o_index, .ref o_mask, .int o_base, .int o_stride, .int o_length, .int o_isStore, .int o_isMasked, .int o_isIndexed, .int o_isFirstOnly, .int o_isMaskBytes, .int o_trapAddress]))] := by
  refine kM.of (by decide) rfl ?_
  intro p e R s m args below meth c A X _ _ hRt hLk
  refine k_sub [0, 1] (lv' := [(0, .ref b_q), (1, .int u1)]) rfl ?_
  refine k_iload_n X dX10_state_0 rfl 1 rfl rfl ?_
  by_cases c1 : u1 = (0 : Int32)
  · refine k_tblIn (tgt := 56) X dX10_state_1 c1 (by decide) (by decide) rfl (by decide) ?_
    refine k_aload_n X dX10_state_56 rfl 0 rfl rfl ?_
    refine k_get X i_wsX100 0 0 q1_17 rfl rfl rfl rfl rfl dX10_state_57 rfl ?_
    refine k_get X i_wsX80 1 3 q45_0 rfl rfl rfl rfl rfl dX10_state_60 rfl ?_
    have e11 : (fX10_state q_doneCount q_illegalCount q_trapCount r_length r_start r_rounding r_saturated t_bits t_most o_trapAddress u1) = r_length := by rw [fX10_state, if_pos c1]
    exact k_iret9 X hRt hLk e11.symm rfl dX10_state_63
  by_cases c2 : u1 = (1 : Int32)
  · refine k_tblIn (tgt := 64) X dX10_state_1 c2 (by decide) (by decide) rfl (by decide) ?_
    refine k_aload_n X dX10_state_64 rfl 0 rfl rfl ?_
    refine k_get X i_wsX100 0 0 q1_17 rfl rfl rfl rfl rfl dX10_state_65 rfl ?_
    refine k_get X i_wsX80 1 2 q45_1 rfl rfl rfl rfl rfl dX10_state_68 rfl ?_
    refine k_get X i_wsX90 2 0 q45_2 rfl rfl rfl rfl rfl dX10_state_71 rfl ?_
    have e12 : (fX10_state q_doneCount q_illegalCount q_trapCount r_length r_start r_rounding r_saturated t_bits t_most o_trapAddress u1) = t_bits := by rw [fX10_state, if_neg c1, if_pos c2]
    exact k_iret9 X hRt hLk e12.symm rfl dX10_state_74
  by_cases c3 : u1 = (2 : Int32)
  · refine k_tblIn (tgt := 75) X dX10_state_1 c3 (by decide) (by decide) rfl (by decide) ?_
    refine k_aload_n X dX10_state_75 rfl 0 rfl rfl ?_
    refine k_get X i_wsX100 0 0 q1_17 rfl rfl rfl rfl rfl dX10_state_76 rfl ?_
    refine k_get X i_wsX80 1 4 q6_7 rfl rfl rfl rfl rfl dX10_state_79 rfl ?_
    have e13 : (fX10_state q_doneCount q_illegalCount q_trapCount r_length r_start r_rounding r_saturated t_bits t_most o_trapAddress u1) = r_start := by rw [fX10_state, if_neg c1, if_neg c2, if_pos c3]
    exact k_iret9 X hRt hLk e13.symm rfl dX10_state_82
  by_cases c4 : u1 = (3 : Int32)
  · refine k_tblIn (tgt := 83) X dX10_state_1 c4 (by decide) (by decide) rfl (by decide) ?_
    refine k_aload_n X dX10_state_83 rfl 0 rfl rfl ?_
    refine k_get X i_wsX100 0 0 q1_17 rfl rfl rfl rfl rfl dX10_state_84 rfl ?_
    refine k_get X i_wsX80 1 5 q45_3 rfl rfl rfl rfl rfl dX10_state_87 rfl ?_
    have e14 : (fX10_state q_doneCount q_illegalCount q_trapCount r_length r_start r_rounding r_saturated t_bits t_most o_trapAddress u1) = r_rounding := by rw [fX10_state, if_neg c1, if_neg c2, if_neg c3, if_pos c4]
    exact k_iret9 X hRt hLk e14.symm rfl dX10_state_90
  by_cases c5 : u1 = (4 : Int32)
  · refine k_tblIn (tgt := 91) X dX10_state_1 c5 (by decide) (by decide) rfl (by decide) ?_
    refine k_aload_n X dX10_state_91 rfl 0 rfl rfl ?_
    refine k_get X i_wsX100 0 0 q1_17 rfl rfl rfl rfl rfl dX10_state_92 rfl ?_
    refine k_get X i_wsX80 1 6 q45_4 rfl rfl rfl rfl rfl dX10_state_95 rfl ?_
    have e15 : (fX10_state q_doneCount q_illegalCount q_trapCount r_length r_start r_rounding r_saturated t_bits t_most o_trapAddress u1) = r_saturated := by rw [fX10_state, if_neg c1, if_neg c2, if_neg c3, if_neg c4, if_pos c5]
    exact k_iret9 X hRt hLk e15.symm rfl dX10_state_98
  by_cases c6 : u1 = (5 : Int32)
  · refine k_tblIn (tgt := 99) X dX10_state_1 c6 (by decide) (by decide) rfl (by decide) ?_
    refine k_aload_n X dX10_state_99 rfl 0 rfl rfl ?_
    refine k_get X i_wsX100 0 0 q1_17 rfl rfl rfl rfl rfl dX10_state_100 rfl ?_
    refine k_get X i_wsX80 1 2 q45_1 rfl rfl rfl rfl rfl dX10_state_103 rfl ?_
    refine k_get X i_wsX90 2 3 q45_5 rfl rfl rfl rfl rfl dX10_state_106 rfl ?_
    have e16 : (fX10_state q_doneCount q_illegalCount q_trapCount r_length r_start r_rounding r_saturated t_bits t_most o_trapAddress u1) = t_most := by rw [fX10_state, if_neg c1, if_neg c2, if_neg c3, if_neg c4, if_neg c5, if_pos c6]
    exact k_iret9 X hRt hLk e16.symm rfl dX10_state_109
  by_cases c7 : u1 = (6 : Int32)
  · refine k_tblIn (tgt := 110) X dX10_state_1 c7 (by decide) (by decide) rfl (by decide) ?_
    refine k_aload_n X dX10_state_110 rfl 0 rfl rfl ?_
    refine k_get X i_wsX100 0 6 q6_8 rfl rfl rfl rfl rfl dX10_state_111 rfl ?_
    have e17 : (fX10_state q_doneCount q_illegalCount q_trapCount r_length r_start r_rounding r_saturated t_bits t_most o_trapAddress u1) = q_doneCount := by rw [fX10_state, if_neg c1, if_neg c2, if_neg c3, if_neg c4, if_neg c5, if_neg c6, if_pos c7]
    exact k_iret9 X hRt hLk e17.symm rfl dX10_state_114
  by_cases c8 : u1 = (7 : Int32)
  · refine k_tblIn (tgt := 115) X dX10_state_1 c8 (by decide) (by decide) rfl (by decide) ?_
    refine k_aload_n X dX10_state_115 rfl 0 rfl rfl ?_
    refine k_get X i_wsX100 0 7 q6_9 rfl rfl rfl rfl rfl dX10_state_116 rfl ?_
    have e18 : (fX10_state q_doneCount q_illegalCount q_trapCount r_length r_start r_rounding r_saturated t_bits t_most o_trapAddress u1) = q_illegalCount := by rw [fX10_state, if_neg c1, if_neg c2, if_neg c3, if_neg c4, if_neg c5, if_neg c6, if_neg c7, if_pos c8]
    exact k_iret9 X hRt hLk e18.symm rfl dX10_state_119
  by_cases c9 : u1 = (8 : Int32)
  · refine k_tblIn (tgt := 120) X dX10_state_1 c9 (by decide) (by decide) rfl (by decide) ?_
    refine k_aload_n X dX10_state_120 rfl 0 rfl rfl ?_
    refine k_get X i_wsX100 0 8 q6_10 rfl rfl rfl rfl rfl dX10_state_121 rfl ?_
    have e19 : (fX10_state q_doneCount q_illegalCount q_trapCount r_length r_start r_rounding r_saturated t_bits t_most o_trapAddress u1) = q_trapCount := by rw [fX10_state, if_neg c1, if_neg c2, if_neg c3, if_neg c4, if_neg c5, if_neg c6, if_neg c7, if_neg c8, if_pos c9]
    exact k_iret9 X hRt hLk e19.symm rfl dX10_state_124
  by_cases c10 : u1 = (9 : Int32)
  · refine k_tblIn (tgt := 125) X dX10_state_1 c10 (by decide) (by decide) rfl (by decide) ?_
    refine k_aload_n X dX10_state_125 rfl 0 rfl rfl ?_
    refine k_get X i_wsX100 0 5 q2_13 rfl rfl rfl rfl rfl dX10_state_126 rfl ?_
    refine k_get X i_wsX70 3 13 q45_6 rfl rfl rfl rfl rfl dX10_state_129 rfl ?_
    have e20 : (fX10_state q_doneCount q_illegalCount q_trapCount r_length r_start r_rounding r_saturated t_bits t_most o_trapAddress u1) = o_trapAddress := by rw [fX10_state, if_neg c1, if_neg c2, if_neg c3, if_neg c4, if_neg c5, if_neg c6, if_neg c7, if_neg c8, if_neg c9, if_pos c10]
    exact k_iret9 X hRt hLk e20.symm rfl dX10_state_132
  refine k_tblD (tgt := 133) X dX10_state_1 [(0 : Int32), (1 : Int32), (2 : Int32), (3 : Int32), (4 : Int32), (5 : Int32), (6 : Int32), (7 : Int32), (8 : Int32), (9 : Int32)] (List.forall_mem_cons.mpr ⟨c1, (List.forall_mem_cons.mpr ⟨c2, (List.forall_mem_cons.mpr ⟨c3, (List.forall_mem_cons.mpr ⟨c4, (List.forall_mem_cons.mpr ⟨c5, (List.forall_mem_cons.mpr ⟨c6, (List.forall_mem_cons.mpr ⟨c7, (List.forall_mem_cons.mpr ⟨c8, (List.forall_mem_cons.mpr ⟨c9, (List.forall_mem_cons.mpr ⟨c10, (fun _ h => absurd h List.not_mem_nil)⟩)⟩)⟩)⟩)⟩)⟩)⟩)⟩)⟩)⟩) (by decide +kernel) (by decide) ?_
  refine k_iconst X dX10_state_133 kc_i_m1 rfl ?_
  have e21 : (fX10_state q_doneCount q_illegalCount q_trapCount r_length r_start r_rounding r_saturated t_bits t_most o_trapAddress u1) = (-1 : Int32) := by rw [fX10_state, if_neg c1, if_neg c2, if_neg c3, if_neg c4, if_neg c5, if_neg c6, if_neg c7, if_neg c8, if_neg c9, if_neg c10]
  exact k_iret9 X hRt hLk e21.symm rfl dX10_state_134
theorem vX10_state : kVi yX10_state cX10_state 2 (some .int) 1 := ⟨q44_23, q1_2, q44_21, q44_22, by decide, by decide +kernel⟩
noncomputable def tX10_sum_4 (w_L2 : Int32) (w_L1 : Int32) : Prop := (if (128 : Int32) ≤ w_L2 then False else True)
noncomputable def bX10_sum_4_L2 (w_L2 : Int32) (w_L1 : Int32) : Int32 := (if (128 : Int32) ≤ w_L2 then w_L2 else (w_L2 + (1 : Int32)))
noncomputable def bX10_sum_4_L1 (xV : Nat → Int32) (w_L2 : Int32) (w_L1 : Int32) : Int32 := (if (128 : Int32) ≤ w_L2 then w_L1 else (((31 : Int32) * w_L1) + (xV (Int32.toNatClampNeg w_L2))))
noncomputable def LX10_sum_4 (xV : Nat → Int32) : Nat → Int32 × Int32 → Int32 × Int32
  | 0, s => s
  | n + 1, s => LX10_sum_4 xV n ((bX10_sum_4_L2 s.1 s.2), (bX10_sum_4_L1 xV s.1 s.2))
noncomputable def oX10_sum_4 (w_L2 : Int32) (w_L1 : Int32) : Prop := (¬ ((128 : Int32) ≤ w_L2) → vp_in w_L2 128)
noncomputable def KX10_sum_4 (xV : Nat → Int32) : Nat → Int32 × Int32 → Prop
  | 0, _ => True
  | n + 1, s => (tX10_sum_4 s.1 s.2 ∧ oX10_sum_4 s.1 s.2) ∧ KX10_sum_4 xV n ((bX10_sum_4_L2 s.1 s.2), (bX10_sum_4_L1 xV s.1 s.2))
theorem itX10_sum_4 (xV : Nat → Int32) {b9 : Nat} (h9 : (128 : Int32) = nI b9) (hb9 : b9 < 2147483648) : ∀ (n a : Nat) (w_L1 : Int32), a + n ≤ b9 → LX10_sum_4 xV n (nI a, w_L1) = (nI (a + n), itr (fun k s => ((((31 : Int32) * s) + (xV (Int32.toNatClampNeg (nI k)))))) n a (w_L1))
  | 0, a, w_L1, _ => rfl
  | n + 1, a, w_L1, h => by
    have hc : ¬ ((128 : Int32) ≤ nI a) := by rw [h9]; exact nI_ge (by omega) hb9
    have e0 : bX10_sum_4_L2 (nI a) w_L1 = nI (a + 1) := by rw [bX10_sum_4_L2, if_neg hc, nI_1]
    have e1 : bX10_sum_4_L1 xV (nI a) w_L1 = (((31 : Int32) * w_L1) + (xV (Int32.toNatClampNeg (nI a)))) := by rw [bX10_sum_4_L1, if_neg hc]
    show LX10_sum_4 xV n (bX10_sum_4_L2 (nI a) w_L1, bX10_sum_4_L1 xV (nI a) w_L1) = _
    rw [e0, e1, itX10_sum_4 xV h9 hb9 n (a + 1) _ (by omega), show a + (n + 1) = a + 1 + n by omega]; rfl
theorem ktX10_sum_4 (xV : Nat → Int32) {b9 : Nat} (h9 : (128 : Int32) = nI b9) (hb9 : b9 < 2147483648) (I : Nat → Int32 → Prop) (hI : ∀ (a : Nat) (w_L1 : Int32), I a (w_L1) → a < b9 → oX10_sum_4 (nI a) w_L1 ∧ I (a + 1) ((((31 : Int32) * w_L1) + (xV (Int32.toNatClampNeg (nI a)))))) : ∀ (n a : Nat) (w_L1 : Int32), a + n ≤ b9 → I a (w_L1) → KX10_sum_4 xV n (nI a, w_L1)
  | 0, a, w_L1, _, _ => True.intro
  | n + 1, a, w_L1, h, hi => by
    have hc : ¬ ((128 : Int32) ≤ nI a) := by rw [h9]; exact nI_ge (by omega) hb9
    have e0 : bX10_sum_4_L2 (nI a) w_L1 = nI (a + 1) := by rw [bX10_sum_4_L2, if_neg hc, nI_1]
    have e1 : bX10_sum_4_L1 xV (nI a) w_L1 = (((31 : Int32) * w_L1) + (xV (Int32.toNatClampNeg (nI a)))) := by rw [bX10_sum_4_L1, if_neg hc]
    obtain ⟨h1, h2⟩ := hI a w_L1 hi (by omega)
    show (tX10_sum_4 (nI a) w_L1 ∧ oX10_sum_4 (nI a) w_L1) ∧ KX10_sum_4 xV n (bX10_sum_4_L2 (nI a) w_L1, bX10_sum_4_L1 xV (nI a) w_L1)
    refine ⟨⟨by rw [tX10_sum_4, if_neg hc]; exact True.intro, h1⟩, ?_⟩
    rw [e0, e1]; exact ktX10_sum_4 xV h9 hb9 I hI n (a + 1) _ (by omega) h2
theorem ntX10_sum_4 (xV : Nat → Int32) {b9 : Nat} (h9 : (128 : Int32) = nI b9) (hb9 : b9 < 2147483648) (w_L1 : Int32) : ¬ tX10_sum_4 (nI b9) w_L1 := by rw [tX10_sum_4, if_pos (by rw [h9]; exact Int32.le_refl _)]; exact id
noncomputable def fX10_sum (xV : Nat → Int32) : Int32 := (LX10_sum_4 xV (kN 128) ((0 : Int32), (0 : Int32))).2
noncomputable def okX10_sum (xV : Nat → Int32) : Prop := (KX10_sum_4 xV (kN 128) ((0 : Int32), (0 : Int32))) ∧ (¬ (tX10_sum_4 ((LX10_sum_4 xV (kN 128) ((0 : Int32), (0 : Int32))).1) ((LX10_sum_4 xV (kN 128) ((0 : Int32), (0 : Int32))).2))) ∧ (¬ ((128 : Int32) ≤ (LX10_sum_4 xV (kN 128) ((0 : Int32), (0 : Int32))).1) → vp_in ((LX10_sum_4 xV (kN 128) ((0 : Int32), (0 : Int32))).1) 128)
set_option maxRecDepth 100000 in
set_option maxHeartbeats 4000000 in
theorem kX10_sum (l : Launch) (D : va_G) (kI kZ : ClassId) (b_q : Nat) (b_r : Nat) (b_xV : Nat) (q_memory : Nat) (q_current : Nat) (q_lengthUnit : Nat) (q_lanes : Nat) (q_port : Nat) (q_doneCount : Int32) (q_illegalCount : Int32) (q_trapCount : Int32) (r_scalars : Nat) (r_type : Nat) (r_length : Int32) (r_start : Int32) (r_rounding : Int32) (r_saturated : Int32) (r_choices : Int64) (xV : Nat → Int32) (hok : okX10_sum xV) : kM l yX10_sum cX10_sum 3 (some .int) 0 0 0 0 D [(kI, .int), (kZ, .boolean)] [.ref b_q] [(b_q, .inr (9, [.ref b_r, .ref q_memory, .ref q_current, .ref q_lengthUnit, .ref q_lanes, .ref q_port, .int q_doneCount, .int q_illegalCount, .int q_trapCount])), (b_r, .inr (7, [.ref r_scalars, .ref b_xV, .ref r_type, .int r_length, .int r_start, .int r_rounding, .int r_saturated, .long r_choices])), (b_xV, .inl (kI, 128, .inl xV))] (some (.int (fX10_sum xV))) [(b_q, .inr (9, [.ref b_r, .ref q_memory, .ref q_current, .ref q_lengthUnit, .ref q_lanes, .ref q_port, .int q_doneCount, .int q_illegalCount, .int q_trapCount])), (b_r, .inr (7, [.ref r_scalars, .ref b_xV, .ref r_type, .int r_length, .int r_start, .int r_rounding, .int r_saturated, .long r_choices])), (b_xV, .inl (kI, 128, .inl xV))] := by
  refine kM.of (by decide) rfl ?_
  intro p e R s m args below meth c A X _ _ hRt hLk
  refine k_sub [0] (lv' := [(0, .ref b_q)]) rfl ?_
  unfold okX10_sum at hok
  refine k_iconst X dX10_sum_0 kc_i_0 rfl ?_
  refine k_istore_n (lv' := [(1, .int (0 : Int32)), (0, .ref b_q)]) X dX10_sum_1 rfl rfl rfl rfl ?_
  refine k_iconst X dX10_sum_2 kc_i_0 rfl ?_
  refine k_istore_n (lv' := [(2, .int (0 : Int32)), (1, .int (0 : Int32)), (0, .ref b_q)]) X dX10_sum_3 rfl rfl rfl rfl ?_
  refine k_sub [2, 1, 0] (lv' := [(0, .ref b_q), (1, .int (0 : Int32)), (2, .int (0 : Int32))]) rfl ?_
  refine k_loop (KX10_sum_4 xV) (LX10_sum_4 xV) (fun s9 => (bX10_sum_4_L2 s9.1 s9.2, bX10_sum_4_L1 xV s9.1 s9.2)) (fun s9 => tX10_sum_4 s9.1 s9.2 ∧ oX10_sum_4 s9.1 s9.2) (fun s9 => [(b_q, .inr (9, [.ref b_r, .ref q_memory, .ref q_current, .ref q_lengthUnit, .ref q_lanes, .ref q_port, .int q_doneCount, .int q_illegalCount, .int q_trapCount])), (b_r, .inr (7, [.ref r_scalars, .ref b_xV, .ref r_type, .int r_length, .int r_start, .int r_rounding, .int r_saturated, .long r_choices])), (b_xV, .inl (kI, 128, .inl xV))]) (fun s9 => [(0, .ref b_q), (1, .int s9.2), (2, .int s9.1)]) 4 (fun _ => rfl) (fun _ _ => rfl) (fun _ _ h => h) ?_ (kN 128) ((0 : Int32), (0 : Int32)) (hok.1) ?_
  · rintro ⟨w_L2, w_L1⟩ ⟨hlat, hob⟩ g0
    try dsimp only at hlat hob g0 ⊢
    unfold oX10_sum_4 at hob
    refine k_iload_n X dX10_sum_4 rfl 2 rfl rfl ?_
    refine k_sipush X dX10_sum_5 kc_s_128 rfl ?_
    refine k_icmp_ge (tgt := 32) X dX10_sum_8 (by decide) rfl (fun c1 => ?_) (fun c1 => ?_)
    · skip
      exact absurd hlat (by rw [tX10_sum_4, if_pos c1]; exact id)
    refine k_bipush X dX10_sum_11 kc_b_31 rfl ?_
    refine k_iload_n X dX10_sum_13 rfl 1 rfl rfl ?_
    refine k_imul X dX10_sum_14 rfl ?_
    refine k_aload_n X dX10_sum_15 rfl 0 rfl rfl ?_
    refine k_get X i_wsX100 0 0 q1_17 rfl rfl rfl rfl rfl dX10_sum_16 rfl ?_
    refine k_get X i_wsX80 1 1 q42_8 rfl rfl rfl rfl rfl dX10_sum_19 rfl ?_
    refine k_iload_n X dX10_sum_22 rfl 2 rfl rfl ?_
    refine k_iald X 2 0 rfl rfl (hob c1) dX10_sum_23 rfl ?_
    refine k_iadd X dX10_sum_24 rfl ?_
    refine k_istore_n (lv' := [(1, .int (((31 : Int32) * w_L1) + (xV (Int32.toNatClampNeg w_L2)))), (0, .ref b_q), (2, .int w_L2)]) X dX10_sum_25 rfl rfl rfl rfl ?_
    refine k_iinc (lv' := [(2, .int (w_L2 + (1 : Int32))), (1, .int (((31 : Int32) * w_L1) + (xV (Int32.toNatClampNeg w_L2)))), (0, .ref b_q)]) X dX10_sum_26 2 rfl kc_i_1 rfl rfl rfl ?_
    refine k_goto (tgt := 4) X dX10_sum_29 (by decide) ?_
    have e3 : bX10_sum_4_L2 w_L2 w_L1 = (w_L2 + (1 : Int32)) := by rw [bX10_sum_4_L2, if_neg c1]
    rw [e3] at g0
    have e4 : bX10_sum_4_L1 xV w_L2 w_L1 = (((31 : Int32) * w_L1) + (xV (Int32.toNatClampNeg w_L2))) := by rw [bX10_sum_4_L1, if_neg c1]
    rw [e4] at g0
    exact k_sub [2, 1, 0] rfl g0
  try dsimp only
  refine k_iload_n X dX10_sum_4 rfl 2 rfl rfl ?_
  refine k_sipush X dX10_sum_5 kc_s_128 rfl ?_
  refine k_icmp_ge (tgt := 32) X dX10_sum_8 (by decide) rfl (fun c2 => ?_) (fun c2 => ?_)
  · skip
    refine k_iload_n X dX10_sum_32 rfl 1 rfl rfl ?_
    have e5 : (fX10_sum xV) = (LX10_sum_4 xV (kN 128) ((0 : Int32), (0 : Int32))).2 := by rw [fX10_sum]
    exact k_iret9 X hRt hLk e5.symm rfl dX10_sum_33
  refine k_bipush X dX10_sum_11 kc_b_31 rfl ?_
  refine k_iload_n X dX10_sum_13 rfl 1 rfl rfl ?_
  refine k_imul X dX10_sum_14 rfl ?_
  refine k_aload_n X dX10_sum_15 rfl 0 rfl rfl ?_
  refine k_get X i_wsX100 0 0 q1_17 rfl rfl rfl rfl rfl dX10_sum_16 rfl ?_
  refine k_get X i_wsX80 1 1 q42_8 rfl rfl rfl rfl rfl dX10_sum_19 rfl ?_
  refine k_iload_n X dX10_sum_22 rfl 2 rfl rfl ?_
  refine k_iald X 2 0 rfl rfl (hok.2.2 c2) dX10_sum_23 rfl ?_
  refine k_iadd X dX10_sum_24 rfl ?_
  refine k_istore_n (lv' := [(1, .int (((31 : Int32) * (LX10_sum_4 xV (kN 128) ((0 : Int32), (0 : Int32))).2) + (xV (Int32.toNatClampNeg ((LX10_sum_4 xV (kN 128) ((0 : Int32), (0 : Int32))).1))))), (0, .ref b_q), (2, .int ((LX10_sum_4 xV (kN 128) ((0 : Int32), (0 : Int32))).1))]) X dX10_sum_25 rfl rfl rfl rfl ?_
  refine k_iinc (lv' := [(2, .int ((LX10_sum_4 xV (kN 128) ((0 : Int32), (0 : Int32))).1 + (1 : Int32))), (1, .int (((31 : Int32) * (LX10_sum_4 xV (kN 128) ((0 : Int32), (0 : Int32))).2) + (xV (Int32.toNatClampNeg ((LX10_sum_4 xV (kN 128) ((0 : Int32), (0 : Int32))).1))))), (0, .ref b_q)]) X dX10_sum_26 2 rfl kc_i_1 rfl rfl rfl ?_
  refine k_goto (tgt := 4) X dX10_sum_29 (by decide) ?_
  exact absurd (show tX10_sum_4 ((LX10_sum_4 xV (kN 128) ((0 : Int32), (0 : Int32))).1) ((LX10_sum_4 xV (kN 128) ((0 : Int32), (0 : Int32))).2) from by rw [tX10_sum_4, if_neg c2]; exact True.intro) (hok.2.1)
theorem vX10_sum : kVi yX10_sum cX10_sum 3 (some .int) 0 := ⟨q45_22, q1_2, q45_20, q45_21, by decide, by decide +kernel⟩
