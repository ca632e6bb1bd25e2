noncomputable def fX10_x (xS : Nat → Int32) (u1 : Int32) : Int32 := (fX8_scalar xS u1)
noncomputable def okX10_x (u1 : Int32) : Prop := ((u1 < (0 : Int32)) → False) ∧ (¬ (u1 < (0 : Int32)) → (u1 < (32 : Int32)) → okX8_scalar u1) ∧ (¬ (u1 < (0 : Int32)) → ¬ (u1 < (32 : Int32)) → False)
set_option maxRecDepth 100000 in
set_option maxHeartbeats 4000000 in
theorem kX10_x (l : Launch) (D : va_G) (kI kZ : ClassId) (b_q : Nat) (b_r : Nat) (b_xS : Nat) (q_memory : Nat) (q_current : Nat) (q_lengthUnit : Nat) (q_lanes : Nat) (q_port : Nat) (q_doneCount : Int32) (q_illegalCount : Int32) (q_trapCount : Int32) (r_vectors : Nat) (r_type : Nat) (r_length : Int32) (r_start : Int32) (r_rounding : Int32) (r_saturated : Int32) (r_choices : Int64) (xS : Nat → Int32) (u1 : Int32) (hok : okX10_x u1) : kM l yX10_x cX10_x 2 (some .int) 1 13 0 0 D [(kI, .int), (kZ, .boolean)] [.ref b_q, .int u1] [(b_q, .inr (9, [.ref b_r, .ref q_memory, .ref q_current, .ref q_lengthUnit, .ref q_lanes, .ref q_port, .int q_doneCount, .int q_illegalCount, .int q_trapCount])), (b_r, .inr (7, [.ref b_xS, .ref r_vectors, .ref r_type, .int r_length, .int r_start, .int r_rounding, .int r_saturated, .long r_choices])), (b_xS, .inl (kI, 32, .inl xS))] (some (.int (fX10_x xS u1))) [(b_q, .inr (9, [.ref b_r, .ref q_memory, .ref q_current, .ref q_lengthUnit, .ref q_lanes, .ref q_port, .int q_doneCount, .int q_illegalCount, .int q_trapCount])), (b_r, .inr (7, [.ref b_xS, .ref r_vectors, .ref r_type, .int r_length, .int r_start, .int r_rounding, .int r_saturated, .long r_choices])), (b_xS, .inl (kI, 32, .inl xS))] := by
  refine kM.of (by decide) rfl ?_
  intro p e R s m args below meth c A X _ _ hRt hLk
  refine k_sub [0, 1] (lv' := [(0, .ref b_q), (1, .int u1)]) rfl ?_
  unfold okX10_x at hok
  refine k_iload_n X dX10_x_0 rfl 1 rfl rfl ?_
  refine k_if_lt (tgt := 10) X dX10_x_1 (by decide) rfl (fun c1 => ?_) (fun c1 => ?_)
  · skip
    exact (hok.1 c1).elim
  refine k_iload_n X dX10_x_4 rfl 1 rfl rfl ?_
  refine k_bipush X dX10_x_5 kc_b_32 rfl ?_
  refine k_icmp_lt (tgt := 20) X dX10_x_7 (by decide) rfl (fun c2 => ?_) (fun c2 => ?_)
  · skip
    refine k_aload_n X dX10_x_20 rfl 0 rfl rfl ?_
    refine k_get X i_wsX100 0 0 q1_17 rfl rfl rfl rfl rfl dX10_x_21 rfl ?_
    refine k_iload_n X dX10_x_24 rfl 1 rfl rfl ?_
    refine k_cV1 (st := []) (ws' := [(b_q, .inr (9, [.ref b_r, .ref q_memory, .ref q_current, .ref q_lengthUnit, .ref q_lanes, .ref q_port, .int q_doneCount, .int q_illegalCount, .int q_trapCount])), (b_r, .inr (7, [.ref b_xS, .ref r_vectors, .ref r_type, .int r_length, .int r_start, .int r_rounding, .int r_saturated, .long r_choices])), (b_xS, .inl (kI, 32, .inl xS))]) (wr := [(b_q, .inr (9, [.ref b_r, .ref q_memory, .ref q_current, .ref q_lengthUnit, .ref q_lanes, .ref q_port, .int q_doneCount, .int q_illegalCount, .int q_trapCount]))]) (ci := 7) (q9 := 0) X [.int u1] 0 [1, 2] [0] [0, 1, 2] (kX8_scalar l D kI kZ b_r b_xS r_vectors r_type r_length r_start r_rounding r_saturated r_choices xS u1 (hok.2.1 c1 c2)) vX8_scalar q41_0 dX10_x_25 rfl rfl rfl rfl rfl rfl rfl rfl rfl rfl rfl rfl rfl rfl rfl ?_
    have e3 : (fX10_x xS u1) = (fX8_scalar xS u1) := by rw [fX10_x]
    exact k_iret9 X hRt hLk e3.symm rfl dX10_x_28
  exact (hok.2.2 c1 c2).elim
theorem vX10_x : kVi yX10_x cX10_x 2 (some .int) 1 := ⟨q40_21, q1_2, q40_19, q40_20, by decide, by decide +kernel⟩
noncomputable def fX10_setX__xS (xS : Nat → Int32) (u1 : Int32) (u2 : Int32) : Nat → Int32 := (fX8_putScalar__xS xS u1 u2)
noncomputable def okX10_setX (u1 : Int32) : Prop := ((u1 < (0 : Int32)) → False) ∧ (¬ (u1 < (0 : Int32)) → (u1 < (32 : Int32)) → okX8_putScalar u1) ∧ (¬ (u1 < (0 : Int32)) → ¬ (u1 < (32 : Int32)) → False)
set_option maxRecDepth 100000 in
set_option maxHeartbeats 4000000 in
theorem kX10_setX (l : Launch) (D : va_G) (kI kZ : ClassId) (b_q : Nat) (b_r : Nat) (b_xS : Nat) (q_memory : Nat) (q_current : Nat) (q_lengthUnit : Nat) (q_lanes : Nat) (q_port : Nat) (q_doneCount : Int32) (q_illegalCount : Int32) (q_trapCount : Int32) (r_vectors : Nat) (r_type : Nat) (r_length : Int32) (r_start : Int32) (r_rounding : Int32) (r_saturated : Int32) (r_choices : Int64) (xS : Nat → Int32) (u1 : Int32) (u2 : Int32) (hok : okX10_setX u1) : kM l yX10_setX cX10_setX 3 none 1 14 0 0 D [(kI, .int), (kZ, .boolean)] [.ref b_q, .int u1, .int u2] [(b_q, .inr (9, [.ref b_r, .ref q_memory, .ref q_current, .ref q_lengthUnit, .ref q_lanes, .ref q_port, .int q_doneCount, .int q_illegalCount, .int q_trapCount])), (b_r, .inr (7, [.ref b_xS, .ref r_vectors, .ref r_type, .int r_length, .int r_start, .int r_rounding, .int r_saturated, .long r_choices])), (b_xS, .inl (kI, 32, .inl xS))] none [(b_q, .inr (9, [.ref b_r, .ref q_memory, .ref q_current, .ref q_lengthUnit, .ref q_lanes, .ref q_port, .int q_doneCount, .int q_illegalCount, .int q_trapCount])), (b_r, .inr (7, [.ref b_xS, .ref r_vectors, .ref r_type, .int r_length, .int r_start, .int r_rounding, .int r_saturated, .long r_choices])), (b_xS, .inl (kI, 32, .inl (fX10_setX__xS xS u1 u2)))] := by
  refine kM.of (by decide) rfl ?_
  intro p e R s m args below meth c A X _ _ hRt hLk
  refine k_sub [0, 1, 2] (lv' := [(0, .ref b_q), (1, .int u1), (2, .int u2)]) rfl ?_
  unfold okX10_setX at hok
  refine k_iload_n X dX10_setX_0 rfl 1 rfl rfl ?_
  refine k_if_lt (tgt := 10) X dX10_setX_1 (by decide) rfl (fun c1 => ?_) (fun c1 => ?_)
  · skip
    exact (hok.1 c1).elim
  refine k_iload_n X dX10_setX_4 rfl 1 rfl rfl ?_
  refine k_bipush X dX10_setX_5 kc_b_32 rfl ?_
  refine k_icmp_lt (tgt := 20) X dX10_setX_7 (by decide) rfl (fun c2 => ?_) (fun c2 => ?_)
  · skip
    refine k_aload_n X dX10_setX_20 rfl 0 rfl rfl ?_
    refine k_get X i_wsX100 0 0 q1_17 rfl rfl rfl rfl rfl dX10_setX_21 rfl ?_
    refine k_iload_n X dX10_setX_24 rfl 1 rfl rfl ?_
    refine k_iload_n X dX10_setX_25 rfl 2 rfl rfl ?_
    refine k_cV0 (st := []) (ws' := [(b_q, .inr (9, [.ref b_r, .ref q_memory, .ref q_current, .ref q_lengthUnit, .ref q_lanes, .ref q_port, .int q_doneCount, .int q_illegalCount, .int q_trapCount])), (b_r, .inr (7, [.ref b_xS, .ref r_vectors, .ref r_type, .int r_length, .int r_start, .int r_rounding, .int r_saturated, .long r_choices])), (b_xS, .inl (kI, 32, .inl (fX8_putScalar__xS xS u1 u2)))]) (wr := [(b_q, .inr (9, [.ref b_r, .ref q_memory, .ref q_current, .ref q_lengthUnit, .ref q_lanes, .ref q_port, .int q_doneCount, .int q_illegalCount, .int q_trapCount]))]) (ci := 7) (q9 := 0) X [.int u1, .int u2] 0 [1, 2] [0] [0, 1, 2] (kX8_putScalar l D kI kZ b_r b_xS r_vectors r_type r_length r_start r_rounding r_saturated r_choices xS u1 u2 (hok.2.1 c1 c2)) vX8_putScalar q41_20 dX10_setX_26 rfl rfl rfl rfl rfl rfl rfl rfl rfl rfl rfl rfl rfl rfl rfl ?_
    have e3 : (fX10_setX__xS xS u1 u2) = (fX8_putScalar__xS xS u1 u2) := by rw [fX10_setX__xS]
    exact k_vret X hRt hLk (by rw [e3]) dX10_setX_29
  exact (hok.2.2 c1 c2).elim
theorem vX10_setX : kVi yX10_setX cX10_setX 3 none 2 := ⟨q41_19, q1_2, q41_17, q41_18, by decide, by decide +kernel⟩
noncomputable def fX10_v (xV : Nat → Int32) (u1 : Int32) : Int32 := (xV (Int32.toNatClampNeg u1))
noncomputable def okX10_v (u1 : Int32) : Prop := ((u1 < (0 : Int32)) → False) ∧ (¬ (u1 < (0 : Int32)) → (u1 < (128 : Int32)) → vp_in u1 128) ∧ (¬ (u1 < (0 : Int32)) → ¬ (u1 < (128 : Int32)) → False)
set_option maxRecDepth 100000 in
set_option maxHeartbeats 4000000 in
theorem kX10_v (l : Launch) (D : va_G) (kI kZ : ClassId) (b_q : Nat) (b_r : Nat) (b_xV : Nat) (q_memory : Nat) (q_current : Nat) (q_lengthUnit : Nat) (q_lanes : Nat) (q_port : Nat) (q_doneCount : Int32) (q_illegalCount : Int32) (q_trapCount : Int32) (r_scalars : Nat) (r_type : Nat) (r_length : Int32) (r_start : Int32) (r_rounding : Int32) (r_saturated : Int32) (r_choices : Int64) (xV : Nat → Int32) (u1 : Int32) (hok : okX10_v u1) : kM l yX10_v cX10_v 2 (some .int) 0 0 0 0 D [(kI, .int), (kZ, .boolean)] [.ref b_q, .int u1] [(b_q, .inr (9, [.ref b_r, .ref q_memory, .ref q_current, .ref q_lengthUnit, .ref q_lanes, .ref q_port, .int q_doneCount, .int q_illegalCount, .int q_trapCount])), (b_r, .inr (7, [.ref r_scalars, .ref b_xV, .ref r_type, .int r_length, .int r_start, .int r_rounding, .int r_saturated, .long r_choices])), (b_xV, .inl (kI, 128, .inl xV))] (some (.int (fX10_v xV u1))) [(b_q, .inr (9, [.ref b_r, .ref q_memory, .ref q_current, .ref q_lengthUnit, .ref q_lanes, .ref q_port, .int q_doneCount, .int q_illegalCount, .int q_trapCount])), (b_r, .inr (7, [.ref r_scalars, .ref b_xV, .ref r_type, .int r_length, .int r_start, .int r_rounding, .int r_saturated, .long r_choices])), (b_xV, .inl (kI, 128, .inl xV))] := by
  refine kM.of (by decide) rfl ?_
  intro p e R s m args below meth c A X _ _ hRt hLk
  refine k_sub [0, 1] (lv' := [(0, .ref b_q), (1, .int u1)]) rfl ?_
  unfold okX10_v at hok
  refine k_iload_n X dX10_v_0 rfl 1 rfl rfl ?_
  refine k_if_lt (tgt := 11) X dX10_v_1 (by decide) rfl (fun c1 => ?_) (fun c1 => ?_)
  · skip
    exact (hok.1 c1).elim
  refine k_iload_n X dX10_v_4 rfl 1 rfl rfl ?_
  refine k_sipush X dX10_v_5 kc_s_128 rfl ?_
  refine k_icmp_lt (tgt := 21) X dX10_v_8 (by decide) rfl (fun c2 => ?_) (fun c2 => ?_)
  · skip
    refine k_aload_n X dX10_v_21 rfl 0 rfl rfl ?_
    refine k_get X i_wsX100 0 0 q1_17 rfl rfl rfl rfl rfl dX10_v_22 rfl ?_
    refine k_get X i_wsX80 1 1 q42_8 rfl rfl rfl rfl rfl dX10_v_25 rfl ?_
    refine k_iload_n X dX10_v_28 rfl 1 rfl rfl ?_
    refine k_iald X 2 0 rfl rfl (hok.2.1 c1 c2) dX10_v_29 rfl ?_
    have e3 : (fX10_v xV u1) = (xV (Int32.toNatClampNeg u1)) := by rw [fX10_v]
    exact k_iret9 X hRt hLk e3.symm rfl dX10_v_30
  exact (hok.2.2 c1 c2).elim
theorem vX10_v : kVi yX10_v cX10_v 2 (some .int) 1 := ⟨q42_7, q1_2, q42_5, q42_6, by decide, by decide +kernel⟩
noncomputable def fX10_setV__xV (xV : Nat → Int32) (u1 : Int32) (u2 : Int32) : Nat → Int32 := (upd xV (Int32.toNatClampNeg u1) u2)
noncomputable def okX10_setV (u1 : Int32) : Prop := ((u1 < (0 : Int32)) → False) ∧ (¬ (u1 < (0 : Int32)) → (u1 < (128 : Int32)) → vp_in u1 128) ∧ (¬ (u1 < (0 : Int32)) → ¬ (u1 < (128 : Int32)) → False)
set_option maxRecDepth 100000 in
set_option maxHeartbeats 4000000 in
theorem kX10_setV (l : Launch) (D : va_G) (kI kZ : ClassId) (b_q : Nat) (b_r : Nat) (b_xV : Nat) (q_memory : Nat) (q_current : Nat) (q_lengthUnit : Nat) (q_lanes : Nat) (q_port : Nat) (q_doneCount : Int32) (q_illegalCount : Int32) (q_trapCount : Int32) (r_scalars : Nat) (r_type : Nat) (r_length : Int32) (r_start : Int32) (r_rounding : Int32) (r_saturated : Int32) (r_choices : Int64) (xV : Nat → Int32) (u1 : Int32) (u2 : Int32) (hok : okX10_setV u1) : kM l yX10_setV cX10_setV 3 none 0 0 0 0 D [(kI, .int), (kZ, .boolean)] [.ref b_q, .int u1, .int u2] [(b_q, .inr (9, [.ref b_r, .ref q_memory, .ref q_current, .ref q_lengthUnit, .ref q_lanes, .ref q_port, .int q_doneCount, .int q_illegalCount, .int q_trapCount])), (b_r, .inr (7, [.ref r_scalars, .ref b_xV, .ref r_type, .int r_length, .int r_start, .int r_rounding, .int r_saturated, .long r_choices])), (b_xV, .inl (kI, 128, .inl xV))] none [(b_q, .inr (9, [.ref b_r, .ref q_memory, .ref q_current, .ref q_lengthUnit, .ref q_lanes, .ref q_port, .int q_doneCount, .int q_illegalCount, .int q_trapCount])), (b_r, .inr (7, [.ref r_scalars, .ref b_xV, .ref r_type, .int r_length, .int r_start, .int r_rounding, .int r_saturated, .long r_choices])), (b_xV, .inl (kI, 128, .inl (fX10_setV__xV xV u1 u2)))] := by
  refine kM.of (by decide) rfl ?_
  intro p e R s m args below meth c A X _ _ hRt hLk
  refine k_sub [0, 1, 2] (lv' := [(0, .ref b_q), (1, .int u1), (2, .int u2)]) rfl ?_
  unfold okX10_setV at hok
  refine k_iload_n X dX10_setV_0 rfl 1 rfl rfl ?_
  refine k_if_lt (tgt := 11) X dX10_setV_1 (by decide) rfl (fun c1 => ?_) (fun c1 => ?_)
  · skip
    exact (hok.1 c1).elim
  refine k_iload_n X dX10_setV_4 rfl 1 rfl rfl ?_
  refine k_sipush X dX10_setV_5 kc_s_128 rfl ?_
  refine k_icmp_lt (tgt := 21) X dX10_setV_8 (by decide) rfl (fun c2 => ?_) (fun c2 => ?_)
  · skip
    refine k_aload_n X dX10_setV_21 rfl 0 rfl rfl ?_
    refine k_get X i_wsX100 0 0 q1_17 rfl rfl rfl rfl rfl dX10_setV_22 rfl ?_
    refine k_get X i_wsX80 1 1 q42_8 rfl rfl rfl rfl rfl dX10_setV_25 rfl ?_
    refine k_iload_n X dX10_setV_28 rfl 1 rfl rfl ?_
    refine k_iload_n X dX10_setV_29 rfl 2 rfl rfl ?_
    refine k_iast (ws' := [(b_q, .inr (9, [.ref b_r, .ref q_memory, .ref q_current, .ref q_lengthUnit, .ref q_lanes, .ref q_port, .int q_doneCount, .int q_illegalCount, .int q_trapCount])), (b_r, .inr (7, [.ref r_scalars, .ref b_xV, .ref r_type, .int r_length, .int r_start, .int r_rounding, .int r_saturated, .long r_choices])), (b_xV, .inl (kI, 128, .inl (upd xV (Int32.toNatClampNeg u1) u2)))]) X 2 0 rfl rfl (hok.2.1 c1 c2) rfl dX10_setV_30 rfl ?_
    have e3 : (fX10_setV__xV xV u1 u2) = (upd xV (Int32.toNatClampNeg u1) u2) := by rw [fX10_setV__xV]
    exact k_vret X hRt hLk (by rw [e3]) dX10_setV_31
  exact (hok.2.2 c1 c2).elim
theorem vX10_setV : kVi yX10_setV cX10_setV 3 none 2 := ⟨q42_22, q1_2, q42_20, q42_21, by decide, by decide +kernel⟩
noncomputable def fX10_word (xW : Nat → Int32) (u1 : Int32) : Int32 := (xW (Int32.toNatClampNeg u1))
noncomputable def okX10_word (u1 : Int32) : Prop := ((u1 < (0 : Int32)) → False) ∧ (¬ (u1 < (0 : Int32)) → (u1 < (256 : Int32)) → vp_in u1 256) ∧ (¬ (u1 < (0 : Int32)) → ¬ (u1 < (256 : Int32)) → False)
set_option maxRecDepth 100000 in
set_option maxHeartbeats 4000000 in
theorem kX10_word (l : Launch) (D : va_G) (kI kZ : ClassId) (b_q : Nat) (b_y : Nat) (b_xW : Nat) (q_now : Nat) (q_current : Nat) (q_lengthUnit : Nat) (q_lanes : Nat) (q_port : Nat) (q_doneCount : Int32) (q_illegalCount : Int32) (q_trapCount : Int32) (y_shutPages : Int32) (xW : Nat → Int32) (u1 : Int32) (hok : okX10_word u1) : kM l yX10_word cX10_word 2 (some .int) 0 0 0 0 D [(kI, .int), (kZ, .boolean)] [.ref b_q, .int u1] [(b_q, .inr (9, [.ref q_now, .ref b_y, .ref q_current, .ref q_lengthUnit, .ref q_lanes, .ref q_port, .int q_doneCount, .int q_illegalCount, .int q_trapCount])), (b_y, .inr (5, [.ref b_xW, .int y_shutPages])), (b_xW, .inl (kI, 256, .inl xW))] (some (.int (fX10_word xW u1))) [(b_q, .inr (9, [.ref q_now, .ref b_y, .ref q_current, .ref q_lengthUnit, .ref q_lanes, .ref q_port, .int q_doneCount, .int q_illegalCount, .int q_trapCount])), (b_y, .inr (5, [.ref b_xW, .int y_shutPages])), (b_xW, .inl (kI, 256, .inl xW))] := by
  refine kM.of (by decide) rfl ?_
  intro p e R s m args below meth c A X _ _ hRt hLk
  refine k_sub [0, 1] (lv' := [(0, .ref b_q), (1, .int u1)]) rfl ?_
  unfold okX10_word at hok
  refine k_iload_n X dX10_word_0 rfl 1 rfl rfl ?_
  refine k_if_lt (tgt := 11) X dX10_word_1 (by decide) rfl (fun c1 => ?_) (fun c1 => ?_)
  · skip
    exact (hok.1 c1).elim
  refine k_iload_n X dX10_word_4 rfl 1 rfl rfl ?_
  refine k_sipush X dX10_word_5 kc_s_256 rfl ?_
  refine k_icmp_lt (tgt := 21) X dX10_word_8 (by decide) rfl (fun c2 => ?_) (fun c2 => ?_)
  · skip
    refine k_aload_n X dX10_word_21 rfl 0 rfl rfl ?_
    refine k_get X i_wsX100 0 1 q1_21 rfl rfl rfl rfl rfl dX10_word_22 rfl ?_
    refine k_get X i_wsX60 1 0 q43_13 rfl rfl rfl rfl rfl dX10_word_25 rfl ?_
    refine k_iload_n X dX10_word_28 rfl 1 rfl rfl ?_
    refine k_iald X 2 0 rfl rfl (hok.2.1 c1 c2) dX10_word_29 rfl ?_
    have e3 : (fX10_word xW u1) = (xW (Int32.toNatClampNeg u1)) := by rw [fX10_word]
    exact k_iret9 X hRt hLk e3.symm rfl dX10_word_30
  exact (hok.2.2 c1 c2).elim
theorem vX10_word : kVi yX10_word cX10_word 2 (some .int) 1 := ⟨q43_12, q1_2, q43_10, q43_11, by decide, by decide +kernel⟩
noncomputable def fX10_setWord__xW (xW : Nat → Int32) (u1 : Int32) (u2 : Int32) : Nat → Int32 := (upd xW (Int32.toNatClampNeg u1) u2)
noncomputable def okX10_setWord (u1 : Int32) : Prop := ((u1 < (0 : Int32)) → False) ∧ (¬ (u1 < (0 : Int32)) → (u1 < (256 : Int32)) → vp_in u1 256) ∧ (¬ (u1 < (0 : Int32)) → ¬ (u1 < (256 : Int32)) → False)
set_option maxRecDepth 100000 in
set_option maxHeartbeats 4000000 in
theorem kX10_setWord (l : Launch) (D : va_G) (kI kZ : ClassId) (b_q : Nat) (b_y : Nat) (b_xW : Nat) (q_now : Nat) (q_current : Nat) (q_lengthUnit : Nat) (q_lanes : Nat) (q_port : Nat) (q_doneCount : Int32) (q_illegalCount : Int32) (q_trapCount : Int32) (y_shutPages : Int32) (xW : Nat → Int32) (u1 : Int32) (u2 : Int32) (hok : okX10_setWord u1) : kM l yX10_setWord cX10_setWord 3 none 0 0 0 0 D [(kI, .int), (kZ, .boolean)] [.ref b_q, .int u1, .int u2] [(b_q, .inr (9, [.ref q_now, .ref b_y, .ref q_current, .ref q_lengthUnit, .ref q_lanes, .ref q_port, .int q_doneCount, .int q_illegalCount, .int q_trapCount])), (b_y, .inr (5, [.ref b_xW, .int y_shutPages])), (b_xW, .inl (kI, 256, .inl xW))] none [(b_q, .inr (9, [.ref q_now, .ref b_y, .ref q_current, .ref q_lengthUnit, .ref q_lanes, .ref q_port, .int q_doneCount, .int q_illegalCount, .int q_trapCount])), (b_y, .inr (5, [.ref b_xW, .int y_shutPages])), (b_xW, .inl (kI, 256, .inl (fX10_setWord__xW xW u1 u2)))] := by
  refine kM.of (by decide) rfl ?_
  intro p e R s m args below meth c A X _ _ hRt hLk
  refine k_sub [0, 1, 2] (lv' := [(0, .ref b_q), (1, .int u1), (2, .int u2)]) rfl ?_
  unfold okX10_setWord at hok
  refine k_iload_n X dX10_setWord_0 rfl 1 rfl rfl ?_
  refine k_if_lt (tgt := 11) X dX10_setWord_1 (by decide) rfl (fun c1 => ?_) (fun c1 => ?_)
  · skip
    exact (hok.1 c1).elim
  refine k_iload_n X dX10_setWord_4 rfl 1 rfl rfl ?_
  refine k_sipush X dX10_setWord_5 kc_s_256 rfl ?_
  refine k_icmp_lt (tgt := 21) X dX10_setWord_8 (by decide) rfl (fun c2 => ?_) (fun c2 => ?_)
  · skip
    refine k_aload_n X dX10_setWord_21 rfl 0 rfl rfl ?_
    refine k_get X i_wsX100 0 1 q1_21 rfl rfl rfl rfl rfl dX10_setWord_22 rfl ?_
    refine k_get X i_wsX60 1 0 q43_13 rfl rfl rfl rfl rfl dX10_setWord_25 rfl ?_
    refine k_iload_n X dX10_setWord_28 rfl 1 rfl rfl ?_
    refine k_iload_n X dX10_setWord_29 rfl 2 rfl rfl ?_
    refine k_iast (ws' := [(b_q, .inr (9, [.ref q_now, .ref b_y, .ref q_current, .ref q_lengthUnit, .ref q_lanes, .ref q_port, .int q_doneCount, .int q_illegalCount, .int q_trapCount])), (b_y, .inr (5, [.ref b_xW, .int y_shutPages])), (b_xW, .inl (kI, 256, .inl (upd xW (Int32.toNatClampNeg u1) u2)))]) X 2 0 rfl rfl (hok.2.1 c1 c2) rfl dX10_setWord_30 rfl ?_
    have e3 : (fX10_setWord__xW xW u1 u2) = (upd xW (Int32.toNatClampNeg u1) u2) := by rw [fX10_setWord__xW]
    exact k_vret X hRt hLk (by rw [e3]) dX10_setWord_31
  exact (hok.2.2 c1 c2).elim
theorem vX10_setWord : kVi yX10_setWord cX10_setWord 3 none 2 := ⟨q44_0, q1_2, q43_22, q43_23, by decide, by decide +kernel⟩
noncomputable def fX10_shut__y_shutPages (y_shutPages : Int32) (u1 : Int32) (u2 : Int32) : Int32 := (fX6_close__y_shutPages y_shutPages u1 u2)
noncomputable def okX10_shut (u1 : Int32) : Prop := ((u1 < (0 : Int32)) → False) ∧ (¬ (u1 < (0 : Int32)) → ¬ (u1 < (16 : Int32)) → False)
set_option maxRecDepth 100000 in
set_option maxHeartbeats 4000000 in
theorem kX10_shut (l : Launch) (D : va_G) (kI kZ : ClassId) (b_q : Nat) (b_y : Nat) (q_now : Nat) (q_current : Nat) (q_lengthUnit : Nat) (q_lanes : Nat) (q_port : Nat) (q_doneCount : Int32) (q_illegalCount : Int32) (q_trapCount : Int32) (y_words : Nat) (y_shutPages : Int32) (u1 : Int32) (u2 : Int32) (hok : okX10_shut u1) : kM l yX10_shut cX10_shut 3 none 1 15 0 0 D [(kI, .int), (kZ, .boolean)] [.ref b_q, .int u1, .int u2] [(b_q, .inr (9, [.ref q_now, .ref b_y, .ref q_current, .ref q_lengthUnit, .ref q_lanes, .ref q_port, .int q_doneCount, .int q_illegalCount, .int q_trapCount])), (b_y, .inr (5, [.ref y_words, .int y_shutPages]))] none [(b_q, .inr (9, [.ref q_now, .ref b_y, .ref q_current, .ref q_lengthUnit, .ref q_lanes, .ref q_port, .int q_doneCount, .int q_illegalCount, .int q_trapCount])), (b_y, .inr (5, [.ref y_words, .int (fX10_shut__y_shutPages y_shutPages u1 u2)]))] := by
  refine kM.of (by decide) rfl ?_
  intro p e R s m args below meth c A X _ _ hRt hLk
  refine k_sub [0, 1, 2] (lv' := [(0, .ref b_q), (1, .int u1), (2, .int u2)]) rfl ?_
  unfold okX10_shut at hok
  refine k_iload_n X dX10_shut_0 rfl 1 rfl rfl ?_
  refine k_if_lt (tgt := 10) X dX10_shut_1 (by decide) rfl (fun c1 => ?_) (fun c1 => ?_)
  · skip
    exact (hok.1 c1).elim
  refine k_iload_n X dX10_shut_4 rfl 1 rfl rfl ?_
  refine k_bipush X dX10_shut_5 kc_b_16 rfl ?_
  refine k_icmp_lt (tgt := 20) X dX10_shut_7 (by decide) rfl (fun c2 => ?_) (fun c2 => ?_)
  · skip
    refine k_aload_n X dX10_shut_20 rfl 0 rfl rfl ?_
    refine k_get X i_wsX100 0 1 q1_21 rfl rfl rfl rfl rfl dX10_shut_21 rfl ?_
    refine k_iload_n X dX10_shut_24 rfl 1 rfl rfl ?_
    refine k_iload_n X dX10_shut_25 rfl 2 rfl rfl ?_
    refine k_cV0 (st := []) (ws' := [(b_q, .inr (9, [.ref q_now, .ref b_y, .ref q_current, .ref q_lengthUnit, .ref q_lanes, .ref q_port, .int q_doneCount, .int q_illegalCount, .int q_trapCount])), (b_y, .inr (5, [.ref y_words, .int (fX6_close__y_shutPages y_shutPages u1 u2)]))]) (wr := [(b_q, .inr (9, [.ref q_now, .ref b_y, .ref q_current, .ref q_lengthUnit, .ref q_lanes, .ref q_port, .int q_doneCount, .int q_illegalCount, .int q_trapCount]))]) (ci := 5) (q9 := 0) X [.int u1, .int u2] 0 [1] [0] [0, 1] (kX6_close l D kI kZ b_y y_words y_shutPages u1 u2) vX6_close q44_12 dX10_shut_26 rfl rfl rfl rfl rfl rfl rfl rfl rfl rfl rfl rfl rfl rfl rfl ?_
    have e3 : (fX10_shut__y_shutPages y_shutPages u1 u2) = (fX6_close__y_shutPages y_shutPages u1 u2) := by rw [fX10_shut__y_shutPages]
    exact k_vret X hRt hLk (by rw [e3]) dX10_shut_29
  exact (hok.2 c1 c2).elim
theorem vX10_shut : kVi yX10_shut cX10_shut 3 none 2 := ⟨q44_11, q1_2, q44_9, q44_10, by decide, by decide +kernel⟩
