/-! ===== the law's helpers: in range, and out of range ===== -/
theorem in01 : vp_in (0 : Int32) 1 := by unfold vp_in; decide
theorem vL_x : kSw yL_x cL_x 4 (some .int) [(0, 9, 12, 13)] 3 := ⟨q40_16, q40_15, q40_14, by decide, by decide +kernel⟩
theorem kL_x_in (l : Launch) (D : va_G) (kI kZ kJ : ClassId) (b_q : Nat) (b_r : Nat) (b_xS : Nat) (q_memory : Nat) (q_current : Nat) (q_lengthUnit : Nat) (q_lanes : Nat) (q_port : Nat) (q_doneCount : Int32) (q_illegalCount : Int32) (q_trapCount : Int32) (r_vectors : Nat) (r_type : Nat) (r_length : Int32) (r_start : Int32) (r_rounding : Int32) (r_saturated : Int32) (r_choices : Int64) (xS : Nat → Int32) (u1 : Int32) (b_out : Nat) (fo : Nat → Int64) (hok : okX10_x u1) : kMW l yL_x cL_x 4 (some .int) [(0, 9, 12, 13)] 7 100 1 6 D [(kI, .int), (kZ, .boolean), (kJ, .long)] [.ref b_q, .int u1, .ref b_out] [(b_q, .inr (9, [.ref b_r, .ref q_memory, .ref q_current, .ref q_lengthUnit, .ref q_lanes, .ref q_port, .int q_doneCount, .int q_illegalCount, .int q_trapCount])), (b_r, .inr (7, [.ref b_xS, .ref r_vectors, .ref r_type, .int r_length, .int r_start, .int r_rounding, .int r_saturated, .long r_choices])), (b_xS, .inl (kI, 32, .inl xS)), (b_out, .inl (kJ, 1, .inr (.inl fo)))] (some (.int 0)) [(b_q, .inr (9, [.ref b_r, .ref q_memory, .ref q_current, .ref q_lengthUnit, .ref q_lanes, .ref q_port, .int q_doneCount, .int q_illegalCount, .int q_trapCount])), (b_r, .inr (7, [.ref b_xS, .ref r_vectors, .ref r_type, .int r_length, .int r_start, .int r_rounding, .int r_saturated, .long r_choices])), (b_xS, .inl (kI, 32, .inl xS)), (b_out, .inl (kJ, 1, .inr (.inl (vp_updL fo 0 (Int32.toInt64 (fX10_x xS u1))))))] := by
  refine kMW.of (by decide) rfl ?_
  intro p e R s m args below meth c A X hEx hTb hRc hRs hRt hLk
  refine k_sub [0, 1, 2] (lv' := [(0, .ref b_q), (1, .int u1), (2, .ref b_out)]) rfl ?_
  refine k_aload_n X dL_x_0 rfl 2 rfl rfl ?_
  refine k_iconst (v := 0) X dL_x_1 (by decide) rfl ?_
  refine k_aload_n X dL_x_2 rfl 0 rfl rfl ?_
  refine k_iload_n X dL_x_3 rfl 1 rfl rfl ?_
  refine k_callV (mc := 0) (ms := 0) (W9 := 2) (As := [.int u1]) (st := [.int 0, .ref b_out]) (wr := [(b_out, .inl (kJ, 1, .inr (.inl fo)))]) X.sub (kX10_x l D kI kZ b_q b_r b_xS q_memory q_current q_lengthUnit q_lanes q_port q_doneCount q_illegalCount q_trapCount r_vectors r_type r_length r_start r_rounding r_saturated r_choices xS u1 hok) vX10_x q40_18 rfl rfl rfl rfl rfl ⟨by rw [hRc]; decide, by rw [hRs]; decide⟩ dL_x_4 (ci := 9) (q9 := 0) rfl rfl [0, 1, 2] [3] [1, 2, 3, 0] rfl rfl rfl rfl rfl (ws' := [(b_q, .inr (9, [.ref b_r, .ref q_memory, .ref q_current, .ref q_lengthUnit, .ref q_lanes, .ref q_port, .int q_doneCount, .int q_illegalCount, .int q_trapCount])), (b_r, .inr (7, [.ref b_xS, .ref r_vectors, .ref r_type, .int r_length, .int r_start, .int r_rounding, .int r_saturated, .long r_choices])), (b_xS, .inl (kI, 32, .inl xS)), (b_out, .inl (kJ, 1, .inr (.inl fo)))]) rfl rfl ?_
  refine k_i2l X dL_x_7 rfl ?_
  refine k_last X 3 2 rfl rfl in01 rfl dL_x_8 rfl ?_
  refine k_goto (tgt := 15) X dL_x_9 (by decide) ?_
  refine k_iconst (v := 0) X dL_x_15 (by decide) rfl ?_
  refine k_wid (c1 := 1) (s1 := 6) (by decide) (by decide) ?_
  exact k_iret9 X hRt hLk rfl rfl dL_x_16
theorem kL_x_out (l : Launch) (hl9 : l.stackTraces = false) (D : va_G) (kI kZ kJ : ClassId) (b_q : Nat) (b_r : Nat) (b_xS : Nat) (q_memory : Nat) (q_current : Nat) (q_lengthUnit : Nat) (q_lanes : Nat) (q_port : Nat) (q_doneCount : Int32) (q_illegalCount : Int32) (q_trapCount : Int32) (r_vectors : Nat) (r_type : Nat) (r_length : Int32) (r_start : Int32) (r_rounding : Int32) (r_saturated : Int32) (r_choices : Int64) (xS : Nat → Int32) (u1 : Int32) (b_out : Nat) (fo : Nat → Int64) (hu : u1 < 0 ∨ ¬ u1 < 32) : kMW l yL_x cL_x 4 (some .int) [(0, 9, 12, 13)] 7 100 1 6 D [(kI, .int), (kZ, .boolean), (kJ, .long)] [.ref b_q, .int u1, .ref b_out] [(b_q, .inr (9, [.ref b_r, .ref q_memory, .ref q_current, .ref q_lengthUnit, .ref q_lanes, .ref q_port, .int q_doneCount, .int q_illegalCount, .int q_trapCount])), (b_r, .inr (7, [.ref b_xS, .ref r_vectors, .ref r_type, .int r_length, .int r_start, .int r_rounding, .int r_saturated, .long r_choices])), (b_xS, .inl (kI, 32, .inl xS)), (b_out, .inl (kJ, 1, .inr (.inl fo)))] (some (.int 1)) [(b_q, .inr (9, [.ref b_r, .ref q_memory, .ref q_current, .ref q_lengthUnit, .ref q_lanes, .ref q_port, .int q_doneCount, .int q_illegalCount, .int q_trapCount])), (b_r, .inr (7, [.ref b_xS, .ref r_vectors, .ref r_type, .int r_length, .int r_start, .int r_rounding, .int r_saturated, .long r_choices])), (b_xS, .inl (kI, 32, .inl xS)), (b_out, .inl (kJ, 1, .inr (.inl fo)))] := by
  refine kMW.of (by decide) rfl ?_
  intro p e R s m args below meth c A X hEx hTb hRc hRs hRt hLk
  refine k_sub [0, 1, 2] (lv' := [(0, .ref b_q), (1, .int u1), (2, .ref b_out)]) rfl ?_
  refine k_aload_n X dL_x_0 rfl 2 rfl rfl ?_
  refine k_iconst (v := 0) X dL_x_1 (by decide) rfl ?_
  refine k_aload_n X dL_x_2 rfl 0 rfl rfl ?_
  refine k_iload_n X dL_x_3 rfl 1 rfl rfl ?_
  refine k_cX (st := [.int 0, .ref b_out]) X hEx [.int u1] 2 (kX10_x_out l hl9 b_q u1 hu) vX10_x q40_18 dL_x_4 (ci := 9) (q9 := 0) rfl rfl rfl rfl rfl rfl rfl ⟨by rw [hRc]; decide, by rw [hRs]; decide⟩ ⟨0, 9, 12, 13⟩ hTb rfl (by decide) q40_17 rfl (fun q => ?_)
  refine k_astore_n (lv' := (3, .ref q) :: [(0, .ref b_q), (1, .int u1), (2, .ref b_out)]) X dL_x_12 rfl rfl rfl rfl ?_
  refine k_iconst (v := 1) X dL_x_13 (by decide) rfl ?_
  exact k_iret9 X hRt hLk rfl rfl dL_x_14
theorem vL_setX : kSw yL_setX cL_setX 4 (some .int) [(0, 6, 9, 13)] 3 := ⟨q41_15, q40_15, q41_14, by decide, by decide +kernel⟩
theorem kL_setX_in (l : Launch) (D : va_G) (kI kZ kJ : ClassId) (b_q : Nat) (b_r : Nat) (b_xS : Nat) (q_memory : Nat) (q_current : Nat) (q_lengthUnit : Nat) (q_lanes : Nat) (q_port : Nat) (q_doneCount : Int32) (q_illegalCount : Int32) (q_trapCount : Int32) (r_vectors : Nat) (r_type : Nat) (r_length : Int32) (r_start : Int32) (r_rounding : Int32) (r_saturated : Int32) (r_choices : Int64) (xS : Nat → Int32) (u1 : Int32) (u2 : Int32) (hok : okX10_setX u1) : kMW l yL_setX cL_setX 4 (some .int) [(0, 6, 9, 13)] 7 100 1 6 D [(kI, .int), (kZ, .boolean), (kJ, .long)] [.ref b_q, .int u1, .int u2] [(b_q, .inr (9, [.ref b_r, .ref q_memory, .ref q_current, .ref q_lengthUnit, .ref q_lanes, .ref q_port, .int q_doneCount, .int q_illegalCount, .int q_trapCount])), (b_r, .inr (7, [.ref b_xS, .ref r_vectors, .ref r_type, .int r_length, .int r_start, .int r_rounding, .int r_saturated, .long r_choices])), (b_xS, .inl (kI, 32, .inl xS))] (some (.int 0)) [(b_q, .inr (9, [.ref b_r, .ref q_memory, .ref q_current, .ref q_lengthUnit, .ref q_lanes, .ref q_port, .int q_doneCount, .int q_illegalCount, .int q_trapCount])), (b_r, .inr (7, [.ref b_xS, .ref r_vectors, .ref r_type, .int r_length, .int r_start, .int r_rounding, .int r_saturated, .long r_choices])), (b_xS, .inl (kI, 32, .inl (fX10_setX__xS xS u1 u2)))] := by
  refine kMW.of (by decide) rfl ?_
  intro p e R s m args below meth c A X hEx hTb hRc hRs hRt hLk
  refine k_sub [0, 1, 2] (lv' := [(0, .ref b_q), (1, .int u1), (2, .int u2)]) rfl ?_
  refine k_aload_n X dL_setX_0 rfl 0 rfl rfl ?_
  refine k_iload_n X dL_setX_1 rfl 1 rfl rfl ?_
  refine k_iload_n X dL_setX_2 rfl 2 rfl rfl ?_
  refine k_callV (mc := 0) (ms := 0) (W9 := 0) (As := [.int u1, .int u2]) (st := []) (wr := []) X.sub (kX10_setX l D kI kZ b_q b_r b_xS q_memory q_current q_lengthUnit q_lanes q_port q_doneCount q_illegalCount q_trapCount r_vectors r_type r_length r_start r_rounding r_saturated r_choices xS u1 u2 hok) vX10_setX q41_16 rfl rfl rfl rfl rfl ⟨by rw [hRc]; decide, by rw [hRs]; decide⟩ dL_setX_3 (ci := 9) (q9 := 0) rfl rfl [0, 1, 2] [] [0, 1, 2] rfl rfl rfl rfl rfl (ws' := [(b_q, .inr (9, [.ref b_r, .ref q_memory, .ref q_current, .ref q_lengthUnit, .ref q_lanes, .ref q_port, .int q_doneCount, .int q_illegalCount, .int q_trapCount])), (b_r, .inr (7, [.ref b_xS, .ref r_vectors, .ref r_type, .int r_length, .int r_start, .int r_rounding, .int r_saturated, .long r_choices])), (b_xS, .inl (kI, 32, .inl (fX10_setX__xS xS u1 u2)))]) rfl rfl ?_
  refine k_goto (tgt := 12) X dL_setX_6 (by decide) ?_
  refine k_iconst (v := 0) X dL_setX_12 (by decide) rfl ?_
  refine k_wid (c1 := 1) (s1 := 6) (by decide) (by decide) ?_
  exact k_iret9 X hRt hLk rfl rfl dL_setX_13
theorem kL_setX_out (l : Launch) (hl9 : l.stackTraces = false) (D : va_G) (kI kZ kJ : ClassId) (b_q : Nat) (b_r : Nat) (b_xS : Nat) (q_memory : Nat) (q_current : Nat) (q_lengthUnit : Nat) (q_lanes : Nat) (q_port : Nat) (q_doneCount : Int32) (q_illegalCount : Int32) (q_trapCount : Int32) (r_vectors : Nat) (r_type : Nat) (r_length : Int32) (r_start : Int32) (r_rounding : Int32) (r_saturated : Int32) (r_choices : Int64) (xS : Nat → Int32) (u1 : Int32) (u2 : Int32) (hu : u1 < 0 ∨ ¬ u1 < 32) : kMW l yL_setX cL_setX 4 (some .int) [(0, 6, 9, 13)] 7 100 1 6 D [(kI, .int), (kZ, .boolean), (kJ, .long)] [.ref b_q, .int u1, .int u2] [(b_q, .inr (9, [.ref b_r, .ref q_memory, .ref q_current, .ref q_lengthUnit, .ref q_lanes, .ref q_port, .int q_doneCount, .int q_illegalCount, .int q_trapCount])), (b_r, .inr (7, [.ref b_xS, .ref r_vectors, .ref r_type, .int r_length, .int r_start, .int r_rounding, .int r_saturated, .long r_choices])), (b_xS, .inl (kI, 32, .inl xS))] (some (.int 1)) [(b_q, .inr (9, [.ref b_r, .ref q_memory, .ref q_current, .ref q_lengthUnit, .ref q_lanes, .ref q_port, .int q_doneCount, .int q_illegalCount, .int q_trapCount])), (b_r, .inr (7, [.ref b_xS, .ref r_vectors, .ref r_type, .int r_length, .int r_start, .int r_rounding, .int r_saturated, .long r_choices])), (b_xS, .inl (kI, 32, .inl xS))] := by
  refine kMW.of (by decide) rfl ?_
  intro p e R s m args below meth c A X hEx hTb hRc hRs hRt hLk
  refine k_sub [0, 1, 2] (lv' := [(0, .ref b_q), (1, .int u1), (2, .int u2)]) rfl ?_
  refine k_aload_n X dL_setX_0 rfl 0 rfl rfl ?_
  refine k_iload_n X dL_setX_1 rfl 1 rfl rfl ?_
  refine k_iload_n X dL_setX_2 rfl 2 rfl rfl ?_
  refine k_cX (st := []) X hEx [.int u1, .int u2] 0 (kX10_setX_out l hl9 b_q u1 u2 hu) vX10_setX q41_16 dL_setX_3 (ci := 9) (q9 := 0) rfl rfl rfl rfl rfl rfl rfl ⟨by rw [hRc]; decide, by rw [hRs]; decide⟩ ⟨0, 6, 9, 13⟩ hTb rfl (by decide) q40_17 rfl (fun q => ?_)
  refine k_astore_n (lv' := (3, .ref q) :: [(0, .ref b_q), (1, .int u1), (2, .int u2)]) X dL_setX_9 rfl rfl rfl rfl ?_
  refine k_iconst (v := 1) X dL_setX_10 (by decide) rfl ?_
  exact k_iret9 X hRt hLk rfl rfl dL_setX_11
theorem vL_v : kSw yL_v cL_v 4 (some .int) [(0, 9, 12, 13)] 3 := ⟨q42_3, q40_15, q42_2, by decide, by decide +kernel⟩
theorem kL_v_in (l : Launch) (D : va_G) (kI kZ kJ : ClassId) (b_q : Nat) (b_r : Nat) (b_xV : Nat) (q_memory : Nat) (q_current : Nat) (q_lengthUnit : Nat) (q_lanes : Nat) (q_port : Nat) (q_doneCount : Int32) (q_illegalCount : Int32) (q_trapCount : Int32) (r_scalars : Nat) (r_type : Nat) (r_length : Int32) (r_start : Int32) (r_rounding : Int32) (r_saturated : Int32) (r_choices : Int64) (xV : Nat → Int32) (u1 : Int32) (b_out : Nat) (fo : Nat → Int64) (hok : okX10_v u1) : kMW l yL_v cL_v 4 (some .int) [(0, 9, 12, 13)] 7 100 1 6 D [(kI, .int), (kZ, .boolean), (kJ, .long)] [.ref b_q, .int u1, .ref b_out] [(b_q, .inr (9, [.ref b_r, .ref q_memory, .ref q_current, .ref q_lengthUnit, .ref q_lanes, .ref q_port, .int q_doneCount, .int q_illegalCount, .int q_trapCount])), (b_r, .inr (7, [.ref r_scalars, .ref b_xV, .ref r_type, .int r_length, .int r_start, .int r_rounding, .int r_saturated, .long r_choices])), (b_xV, .inl (kI, 128, .inl xV)), (b_out, .inl (kJ, 1, .inr (.inl fo)))] (some (.int 0)) [(b_q, .inr (9, [.ref b_r, .ref q_memory, .ref q_current, .ref q_lengthUnit, .ref q_lanes, .ref q_port, .int q_doneCount, .int q_illegalCount, .int q_trapCount])), (b_r, .inr (7, [.ref r_scalars, .ref b_xV, .ref r_type, .int r_length, .int r_start, .int r_rounding, .int r_saturated, .long r_choices])), (b_xV, .inl (kI, 128, .inl xV)), (b_out, .inl (kJ, 1, .inr (.inl (vp_updL fo 0 (Int32.toInt64 (fX10_v xV u1))))))] := by
  refine kMW.of (by decide) rfl ?_
  intro p e R s m args below meth c A X hEx hTb hRc hRs hRt hLk
  refine k_sub [0, 1, 2] (lv' := [(0, .ref b_q), (1, .int u1), (2, .ref b_out)]) rfl ?_
  refine k_aload_n X dL_v_0 rfl 2 rfl rfl ?_
  refine k_iconst (v := 0) X dL_v_1 (by decide) rfl ?_
  refine k_aload_n X dL_v_2 rfl 0 rfl rfl ?_
  refine k_iload_n X dL_v_3 rfl 1 rfl rfl ?_
  refine k_callV (mc := 0) (ms := 0) (W9 := 2) (As := [.int u1]) (st := [.int 0, .ref b_out]) (wr := [(b_out, .inl (kJ, 1, .inr (.inl fo)))]) X.sub (kX10_v l D kI kZ b_q b_r b_xV q_memory q_current q_lengthUnit q_lanes q_port q_doneCount q_illegalCount q_trapCount r_scalars r_type r_length r_start r_rounding r_saturated r_choices xV u1 hok) vX10_v q42_4 rfl rfl rfl rfl rfl ⟨by rw [hRc]; decide, by rw [hRs]; decide⟩ dL_v_4 (ci := 9) (q9 := 0) rfl rfl [0, 1, 2] [3] [1, 2, 3, 0] rfl rfl rfl rfl rfl (ws' := [(b_q, .inr (9, [.ref b_r, .ref q_memory, .ref q_current, .ref q_lengthUnit, .ref q_lanes, .ref q_port, .int q_doneCount, .int q_illegalCount, .int q_trapCount])), (b_r, .inr (7, [.ref r_scalars, .ref b_xV, .ref r_type, .int r_length, .int r_start, .int r_rounding, .int r_saturated, .long r_choices])), (b_xV, .inl (kI, 128, .inl xV)), (b_out, .inl (kJ, 1, .inr (.inl fo)))]) rfl rfl ?_
  refine k_i2l X dL_v_7 rfl ?_
  refine k_last X 3 2 rfl rfl in01 rfl dL_v_8 rfl ?_
  refine k_goto (tgt := 15) X dL_v_9 (by decide) ?_
  refine k_iconst (v := 0) X dL_v_15 (by decide) rfl ?_
  refine k_wid (c1 := 1) (s1 := 6) (by decide) (by decide) ?_
  exact k_iret9 X hRt hLk rfl rfl dL_v_16
theorem kL_v_out (l : Launch) (hl9 : l.stackTraces = false) (D : va_G) (kI kZ kJ : ClassId) (b_q : Nat) (b_r : Nat) (b_xV : Nat) (q_memory : Nat) (q_current : Nat) (q_lengthUnit : Nat) (q_lanes : Nat) (q_port : Nat) (q_doneCount : Int32) (q_illegalCount : Int32) (q_trapCount : Int32) (r_scalars : Nat) (r_type : Nat) (r_length : Int32) (r_start : Int32) (r_rounding : Int32) (r_saturated : Int32) (r_choices : Int64) (xV : Nat → Int32) (u1 : Int32) (b_out : Nat) (fo : Nat → Int64) (hu : u1 < 0 ∨ ¬ u1 < 128) : kMW l yL_v cL_v 4 (some .int) [(0, 9, 12, 13)] 7 100 1 6 D [(kI, .int), (kZ, .boolean), (kJ, .long)] [.ref b_q, .int u1, .ref b_out] [(b_q, .inr (9, [.ref b_r, .ref q_memory, .ref q_current, .ref q_lengthUnit, .ref q_lanes, .ref q_port, .int q_doneCount, .int q_illegalCount, .int q_trapCount])), (b_r, .inr (7, [.ref r_scalars, .ref b_xV, .ref r_type, .int r_length, .int r_start, .int r_rounding, .int r_saturated, .long r_choices])), (b_xV, .inl (kI, 128, .inl xV)), (b_out, .inl (kJ, 1, .inr (.inl fo)))] (some (.int 1)) [(b_q, .inr (9, [.ref b_r, .ref q_memory, .ref q_current, .ref q_lengthUnit, .ref q_lanes, .ref q_port, .int q_doneCount, .int q_illegalCount, .int q_trapCount])), (b_r, .inr (7, [.ref r_scalars, .ref b_xV, .ref r_type, .int r_length, .int r_start, .int r_rounding, .int r_saturated, .long r_choices])), (b_xV, .inl (kI, 128, .inl xV)), (b_out, .inl (kJ, 1, .inr (.inl fo)))] := by
  refine kMW.of (by decide) rfl ?_
  intro p e R s m args below meth c A X hEx hTb hRc hRs hRt hLk
  refine k_sub [0, 1, 2] (lv' := [(0, .ref b_q), (1, .int u1), (2, .ref b_out)]) rfl ?_
  refine k_aload_n X dL_v_0 rfl 2 rfl rfl ?_
  refine k_iconst (v := 0) X dL_v_1 (by decide) rfl ?_
  refine k_aload_n X dL_v_2 rfl 0 rfl rfl ?_
  refine k_iload_n X dL_v_3 rfl 1 rfl rfl ?_
  refine k_cX (st := [.int 0, .ref b_out]) X hEx [.int u1] 2 (kX10_v_out l hl9 b_q u1 hu) vX10_v q42_4 dL_v_4 (ci := 9) (q9 := 0) rfl rfl rfl rfl rfl rfl rfl ⟨by rw [hRc]; decide, by rw [hRs]; decide⟩ ⟨0, 9, 12, 13⟩ hTb rfl (by decide) q40_17 rfl (fun q => ?_)
  refine k_astore_n (lv' := (3, .ref q) :: [(0, .ref b_q), (1, .int u1), (2, .ref b_out)]) X dL_v_12 rfl rfl rfl rfl ?_
  refine k_iconst (v := 1) X dL_v_13 (by decide) rfl ?_
  exact k_iret9 X hRt hLk rfl rfl dL_v_14
theorem vL_setV : kSw yL_setV cL_setV 4 (some .int) [(0, 6, 9, 13)] 3 := ⟨q42_18, q40_15, q42_17, by decide, by decide +kernel⟩
theorem kL_setV_in (l : Launch) (D : va_G) (kI kZ kJ : ClassId) (b_q : Nat) (b_r : Nat) (b_xV : Nat) (q_memory : Nat) (q_current : Nat) (q_lengthUnit : Nat) (q_lanes : Nat) (q_port : Nat) (q_doneCount : Int32) (q_illegalCount : Int32) (q_trapCount : Int32) (r_scalars : Nat) (r_type : Nat) (r_length : Int32) (r_start : Int32) (r_rounding : Int32) (r_saturated : Int32) (r_choices : Int64) (xV : Nat → Int32) (u1 : Int32) (u2 : Int32) (hok : okX10_setV u1) : kMW l yL_setV cL_setV 4 (some .int) [(0, 6, 9, 13)] 7 100 1 6 D [(kI, .int), (kZ, .boolean), (kJ, .long)] [.ref b_q, .int u1, .int u2] [(b_q, .inr (9, [.ref b_r, .ref q_memory, .ref q_current, .ref q_lengthUnit, .ref q_lanes, .ref q_port, .int q_doneCount, .int q_illegalCount, .int q_trapCount])), (b_r, .inr (7, [.ref r_scalars, .ref b_xV, .ref r_type, .int r_length, .int r_start, .int r_rounding, .int r_saturated, .long r_choices])), (b_xV, .inl (kI, 128, .inl xV))] (some (.int 0)) [(b_q, .inr (9, [.ref b_r, .ref q_memory, .ref q_current, .ref q_lengthUnit, .ref q_lanes, .ref q_port, .int q_doneCount, .int q_illegalCount, .int q_trapCount])), (b_r, .inr (7, [.ref r_scalars, .ref b_xV, .ref r_type, .int r_length, .int r_start, .int r_rounding, .int r_saturated, .long r_choices])), (b_xV, .inl (kI, 128, .inl (fX10_setV__xV xV u1 u2)))] := by
  refine kMW.of (by decide) rfl ?_
  intro p e R s m args below meth c A X hEx hTb hRc hRs hRt hLk
  refine k_sub [0, 1, 2] (lv' := [(0, .ref b_q), (1, .int u1), (2, .int u2)]) rfl ?_
  refine k_aload_n X dL_setV_0 rfl 0 rfl rfl ?_
  refine k_iload_n X dL_setV_1 rfl 1 rfl rfl ?_
  refine k_iload_n X dL_setV_2 rfl 2 rfl rfl ?_
  refine k_callV (mc := 0) (ms := 0) (W9 := 0) (As := [.int u1, .int u2]) (st := []) (wr := []) X.sub (kX10_setV l D kI kZ b_q b_r b_xV q_memory q_current q_lengthUnit q_lanes q_port q_doneCount q_illegalCount q_trapCount r_scalars r_type r_length r_start r_rounding r_saturated r_choices xV u1 u2 hok) vX10_setV q42_19 rfl rfl rfl rfl rfl ⟨by rw [hRc]; decide, by rw [hRs]; decide⟩ dL_setV_3 (ci := 9) (q9 := 0) rfl rfl [0, 1, 2] [] [0, 1, 2] rfl rfl rfl rfl rfl (ws' := [(b_q, .inr (9, [.ref b_r, .ref q_memory, .ref q_current, .ref q_lengthUnit, .ref q_lanes, .ref q_port, .int q_doneCount, .int q_illegalCount, .int q_trapCount])), (b_r, .inr (7, [.ref r_scalars, .ref b_xV, .ref r_type, .int r_length, .int r_start, .int r_rounding, .int r_saturated, .long r_choices])), (b_xV, .inl (kI, 128, .inl (fX10_setV__xV xV u1 u2)))]) rfl rfl ?_
  refine k_goto (tgt := 12) X dL_setV_6 (by decide) ?_
  refine k_iconst (v := 0) X dL_setV_12 (by decide) rfl ?_
  refine k_wid (c1 := 1) (s1 := 6) (by decide) (by decide) ?_
  exact k_iret9 X hRt hLk rfl rfl dL_setV_13
theorem kL_setV_out (l : Launch) (hl9 : l.stackTraces = false) (D : va_G) (kI kZ kJ : ClassId) (b_q : Nat) (b_r : Nat) (b_xV : Nat) (q_memory : Nat) (q_current : Nat) (q_lengthUnit : Nat) (q_lanes : Nat) (q_port : Nat) (q_doneCount : Int32) (q_illegalCount : Int32) (q_trapCount : Int32) (r_scalars : Nat) (r_type : Nat) (r_length : Int32) (r_start : Int32) (r_rounding : Int32) (r_saturated : Int32) (r_choices : Int64) (xV : Nat → Int32) (u1 : Int32) (u2 : Int32) (hu : u1 < 0 ∨ ¬ u1 < 128) : kMW l yL_setV cL_setV 4 (some .int) [(0, 6, 9, 13)] 7 100 1 6 D [(kI, .int), (kZ, .boolean), (kJ, .long)] [.ref b_q, .int u1, .int u2] [(b_q, .inr (9, [.ref b_r, .ref q_memory, .ref q_current, .ref q_lengthUnit, .ref q_lanes, .ref q_port, .int q_doneCount, .int q_illegalCount, .int q_trapCount])), (b_r, .inr (7, [.ref r_scalars, .ref b_xV, .ref r_type, .int r_length, .int r_start, .int r_rounding, .int r_saturated, .long r_choices])), (b_xV, .inl (kI, 128, .inl xV))] (some (.int 1)) [(b_q, .inr (9, [.ref b_r, .ref q_memory, .ref q_current, .ref q_lengthUnit, .ref q_lanes, .ref q_port, .int q_doneCount, .int q_illegalCount, .int q_trapCount])), (b_r, .inr (7, [.ref r_scalars, .ref b_xV, .ref r_type, .int r_length, .int r_start, .int r_rounding, .int r_saturated, .long r_choices])), (b_xV, .inl (kI, 128, .inl xV))] := by
  refine kMW.of (by decide) rfl ?_
  intro p e R s m args below meth c A X hEx hTb hRc hRs hRt hLk
  refine k_sub [0, 1, 2] (lv' := [(0, .ref b_q), (1, .int u1), (2, .int u2)]) rfl ?_
  refine k_aload_n X dL_setV_0 rfl 0 rfl rfl ?_
  refine k_iload_n X dL_setV_1 rfl 1 rfl rfl ?_
  refine k_iload_n X dL_setV_2 rfl 2 rfl rfl ?_
  refine k_cX (st := []) X hEx [.int u1, .int u2] 0 (kX10_setV_out l hl9 b_q u1 u2 hu) vX10_setV q42_19 dL_setV_3 (ci := 9) (q9 := 0) rfl rfl rfl rfl rfl rfl rfl ⟨by rw [hRc]; decide, by rw [hRs]; decide⟩ ⟨0, 6, 9, 13⟩ hTb rfl (by decide) q40_17 rfl (fun q => ?_)
  refine k_astore_n (lv' := (3, .ref q) :: [(0, .ref b_q), (1, .int u1), (2, .int u2)]) X dL_setV_9 rfl rfl rfl rfl ?_
  refine k_iconst (v := 1) X dL_setV_10 (by decide) rfl ?_
  exact k_iret9 X hRt hLk rfl rfl dL_setV_11
theorem vL_word : kSw yL_word cL_word 4 (some .int) [(0, 9, 12, 13)] 3 := ⟨q43_8, q40_15, q43_7, by decide, by decide +kernel⟩
theorem kL_word_in (l : Launch) (D : va_G) (kI kZ kJ : ClassId) (b_q : Nat) (b_y : Nat) (b_xW : Nat) (q_now : Nat) (q_current : Nat) (q_lengthUnit : Nat) (q_lanes : Nat) (q_port : Nat) (q_doneCount : Int32) (q_illegalCount : Int32) (q_trapCount : Int32) (y_shutPages : Int32) (xW : Nat → Int32) (u1 : Int32) (b_out : Nat) (fo : Nat → Int64) (hok : okX10_word u1) : kMW l yL_word cL_word 4 (some .int) [(0, 9, 12, 13)] 7 100 1 6 D [(kI, .int), (kZ, .boolean), (kJ, .long)] [.ref b_q, .int u1, .ref b_out] [(b_q, .inr (9, [.ref q_now, .ref b_y, .ref q_current, .ref q_lengthUnit, .ref q_lanes, .ref q_port, .int q_doneCount, .int q_illegalCount, .int q_trapCount])), (b_y, .inr (5, [.ref b_xW, .int y_shutPages])), (b_xW, .inl (kI, 256, .inl xW)), (b_out, .inl (kJ, 1, .inr (.inl fo)))] (some (.int 0)) [(b_q, .inr (9, [.ref q_now, .ref b_y, .ref q_current, .ref q_lengthUnit, .ref q_lanes, .ref q_port, .int q_doneCount, .int q_illegalCount, .int q_trapCount])), (b_y, .inr (5, [.ref b_xW, .int y_shutPages])), (b_xW, .inl (kI, 256, .inl xW)), (b_out, .inl (kJ, 1, .inr (.inl (vp_updL fo 0 (Int32.toInt64 (fX10_word xW u1))))))] := by
  refine kMW.of (by decide) rfl ?_
  intro p e R s m args below meth c A X hEx hTb hRc hRs hRt hLk
  refine k_sub [0, 1, 2] (lv' := [(0, .ref b_q), (1, .int u1), (2, .ref b_out)]) rfl ?_
  refine k_aload_n X dL_word_0 rfl 2 rfl rfl ?_
  refine k_iconst (v := 0) X dL_word_1 (by decide) rfl ?_
  refine k_aload_n X dL_word_2 rfl 0 rfl rfl ?_
  refine k_iload_n X dL_word_3 rfl 1 rfl rfl ?_
  refine k_callV (mc := 0) (ms := 0) (W9 := 2) (As := [.int u1]) (st := [.int 0, .ref b_out]) (wr := [(b_out, .inl (kJ, 1, .inr (.inl fo)))]) X.sub (kX10_word l D kI kZ b_q b_y b_xW q_now q_current q_lengthUnit q_lanes q_port q_doneCount q_illegalCount q_trapCount y_shutPages xW u1 hok) vX10_word q43_9 rfl rfl rfl rfl rfl ⟨by rw [hRc]; decide, by rw [hRs]; decide⟩ dL_word_4 (ci := 9) (q9 := 0) rfl rfl [0, 1, 2] [3] [1, 2, 3, 0] rfl rfl rfl rfl rfl (ws' := [(b_q, .inr (9, [.ref q_now, .ref b_y, .ref q_current, .ref q_lengthUnit, .ref q_lanes, .ref q_port, .int q_doneCount, .int q_illegalCount, .int q_trapCount])), (b_y, .inr (5, [.ref b_xW, .int y_shutPages])), (b_xW, .inl (kI, 256, .inl xW)), (b_out, .inl (kJ, 1, .inr (.inl fo)))]) rfl rfl ?_
  refine k_i2l X dL_word_7 rfl ?_
  refine k_last X 3 2 rfl rfl in01 rfl dL_word_8 rfl ?_
  refine k_goto (tgt := 15) X dL_word_9 (by decide) ?_
  refine k_iconst (v := 0) X dL_word_15 (by decide) rfl ?_
  refine k_wid (c1 := 1) (s1 := 6) (by decide) (by decide) ?_
  exact k_iret9 X hRt hLk rfl rfl dL_word_16
theorem kL_word_out (l : Launch) (hl9 : l.stackTraces = false) (D : va_G) (kI kZ kJ : ClassId) (b_q : Nat) (b_y : Nat) (b_xW : Nat) (q_now : Nat) (q_current : Nat) (q_lengthUnit : Nat) (q_lanes : Nat) (q_port : Nat) (q_doneCount : Int32) (q_illegalCount : Int32) (q_trapCount : Int32) (y_shutPages : Int32) (xW : Nat → Int32) (u1 : Int32) (b_out : Nat) (fo : Nat → Int64) (hu : u1 < 0 ∨ ¬ u1 < 256) : kMW l yL_word cL_word 4 (some .int) [(0, 9, 12, 13)] 7 100 1 6 D [(kI, .int), (kZ, .boolean), (kJ, .long)] [.ref b_q, .int u1, .ref b_out] [(b_q, .inr (9, [.ref q_now, .ref b_y, .ref q_current, .ref q_lengthUnit, .ref q_lanes, .ref q_port, .int q_doneCount, .int q_illegalCount, .int q_trapCount])), (b_y, .inr (5, [.ref b_xW, .int y_shutPages])), (b_xW, .inl (kI, 256, .inl xW)), (b_out, .inl (kJ, 1, .inr (.inl fo)))] (some (.int 1)) [(b_q, .inr (9, [.ref q_now, .ref b_y, .ref q_current, .ref q_lengthUnit, .ref q_lanes, .ref q_port, .int q_doneCount, .int q_illegalCount, .int q_trapCount])), (b_y, .inr (5, [.ref b_xW, .int y_shutPages])), (b_xW, .inl (kI, 256, .inl xW)), (b_out, .inl (kJ, 1, .inr (.inl fo)))] := by
  refine kMW.of (by decide) rfl ?_
  intro p e R s m args below meth c A X hEx hTb hRc hRs hRt hLk
  refine k_sub [0, 1, 2] (lv' := [(0, .ref b_q), (1, .int u1), (2, .ref b_out)]) rfl ?_
  refine k_aload_n X dL_word_0 rfl 2 rfl rfl ?_
  refine k_iconst (v := 0) X dL_word_1 (by decide) rfl ?_
  refine k_aload_n X dL_word_2 rfl 0 rfl rfl ?_
  refine k_iload_n X dL_word_3 rfl 1 rfl rfl ?_
  refine k_cX (st := [.int 0, .ref b_out]) X hEx [.int u1] 2 (kX10_word_out l hl9 b_q u1 hu) vX10_word q43_9 dL_word_4 (ci := 9) (q9 := 0) rfl rfl rfl rfl rfl rfl rfl ⟨by rw [hRc]; decide, by rw [hRs]; decide⟩ ⟨0, 9, 12, 13⟩ hTb rfl (by decide) q40_17 rfl (fun q => ?_)
  refine k_astore_n (lv' := (3, .ref q) :: [(0, .ref b_q), (1, .int u1), (2, .ref b_out)]) X dL_word_12 rfl rfl rfl rfl ?_
  refine k_iconst (v := 1) X dL_word_13 (by decide) rfl ?_
  exact k_iret9 X hRt hLk rfl rfl dL_word_14
theorem vL_setWord : kSw yL_setWord cL_setWord 4 (some .int) [(0, 6, 9, 13)] 3 := ⟨q43_20, q40_15, q43_19, by decide, by decide +kernel⟩
theorem kL_setWord_in (l : Launch) (D : va_G) (kI kZ kJ : ClassId) (b_q : Nat) (b_y : Nat) (b_xW : Nat) (q_now : Nat) (q_current : Nat) (q_lengthUnit : Nat) (q_lanes : Nat) (q_port : Nat) (q_doneCount : Int32) (q_illegalCount : Int32) (q_trapCount : Int32) (y_shutPages : Int32) (xW : Nat → Int32) (u1 : Int32) (u2 : Int32) (hok : okX10_setWord u1) : kMW l yL_setWord cL_setWord 4 (some .int) [(0, 6, 9, 13)] 7 100 1 6 D [(kI, .int), (kZ, .boolean), (kJ, .long)] [.ref b_q, .int u1, .int u2] [(b_q, .inr (9, [.ref q_now, .ref b_y, .ref q_current, .ref q_lengthUnit, .ref q_lanes, .ref q_port, .int q_doneCount, .int q_illegalCount, .int q_trapCount])), (b_y, .inr (5, [.ref b_xW, .int y_shutPages])), (b_xW, .inl (kI, 256, .inl xW))] (some (.int 0)) [(b_q, .inr (9, [.ref q_now, .ref b_y, .ref q_current, .ref q_lengthUnit, .ref q_lanes, .ref q_port, .int q_doneCount, .int q_illegalCount, .int q_trapCount])), (b_y, .inr (5, [.ref b_xW, .int y_shutPages])), (b_xW, .inl (kI, 256, .inl (fX10_setWord__xW xW u1 u2)))] := by
  refine kMW.of (by decide) rfl ?_
  intro p e R s m args below meth c A X hEx hTb hRc hRs hRt hLk
  refine k_sub [0, 1, 2] (lv' := [(0, .ref b_q), (1, .int u1), (2, .int u2)]) rfl ?_
  refine k_aload_n X dL_setWord_0 rfl 0 rfl rfl ?_
  refine k_iload_n X dL_setWord_1 rfl 1 rfl rfl ?_
  refine k_iload_n X dL_setWord_2 rfl 2 rfl rfl ?_
  refine k_callV (mc := 0) (ms := 0) (W9 := 0) (As := [.int u1, .int u2]) (st := []) (wr := []) X.sub (kX10_setWord l D kI kZ b_q b_y b_xW q_now q_current q_lengthUnit q_lanes q_port q_doneCount q_illegalCount q_trapCount y_shutPages xW u1 u2 hok) vX10_setWord q43_21 rfl rfl rfl rfl rfl ⟨by rw [hRc]; decide, by rw [hRs]; decide⟩ dL_setWord_3 (ci := 9) (q9 := 0) rfl rfl [0, 1, 2] [] [0, 1, 2] rfl rfl rfl rfl rfl (ws' := [(b_q, .inr (9, [.ref q_now, .ref b_y, .ref q_current, .ref q_lengthUnit, .ref q_lanes, .ref q_port, .int q_doneCount, .int q_illegalCount, .int q_trapCount])), (b_y, .inr (5, [.ref b_xW, .int y_shutPages])), (b_xW, .inl (kI, 256, .inl (fX10_setWord__xW xW u1 u2)))]) rfl rfl ?_
  refine k_goto (tgt := 12) X dL_setWord_6 (by decide) ?_
  refine k_iconst (v := 0) X dL_setWord_12 (by decide) rfl ?_
  refine k_wid (c1 := 1) (s1 := 6) (by decide) (by decide) ?_
  exact k_iret9 X hRt hLk rfl rfl dL_setWord_13
theorem kL_setWord_out (l : Launch) (hl9 : l.stackTraces = false) (D : va_G) (kI kZ kJ : ClassId) (b_q : Nat) (b_y : Nat) (b_xW : Nat) (q_now : Nat) (q_current : Nat) (q_lengthUnit : Nat) (q_lanes : Nat) (q_port : Nat) (q_doneCount : Int32) (q_illegalCount : Int32) (q_trapCount : Int32) (y_shutPages : Int32) (xW : Nat → Int32) (u1 : Int32) (u2 : Int32) (hu : u1 < 0 ∨ ¬ u1 < 256) : kMW l yL_setWord cL_setWord 4 (some .int) [(0, 6, 9, 13)] 7 100 1 6 D [(kI, .int), (kZ, .boolean), (kJ, .long)] [.ref b_q, .int u1, .int u2] [(b_q, .inr (9, [.ref q_now, .ref b_y, .ref q_current, .ref q_lengthUnit, .ref q_lanes, .ref q_port, .int q_doneCount, .int q_illegalCount, .int q_trapCount])), (b_y, .inr (5, [.ref b_xW, .int y_shutPages])), (b_xW, .inl (kI, 256, .inl xW))] (some (.int 1)) [(b_q, .inr (9, [.ref q_now, .ref b_y, .ref q_current, .ref q_lengthUnit, .ref q_lanes, .ref q_port, .int q_doneCount, .int q_illegalCount, .int q_trapCount])), (b_y, .inr (5, [.ref b_xW, .int y_shutPages])), (b_xW, .inl (kI, 256, .inl xW))] := by
  refine kMW.of (by decide) rfl ?_
  intro p e R s m args below meth c A X hEx hTb hRc hRs hRt hLk
  refine k_sub [0, 1, 2] (lv' := [(0, .ref b_q), (1, .int u1), (2, .int u2)]) rfl ?_
  refine k_aload_n X dL_setWord_0 rfl 0 rfl rfl ?_
  refine k_iload_n X dL_setWord_1 rfl 1 rfl rfl ?_
  refine k_iload_n X dL_setWord_2 rfl 2 rfl rfl ?_
  refine k_cX (st := []) X hEx [.int u1, .int u2] 0 (kX10_setWord_out l hl9 b_q u1 u2 hu) vX10_setWord q43_21 dL_setWord_3 (ci := 9) (q9 := 0) rfl rfl rfl rfl rfl rfl rfl ⟨by rw [hRc]; decide, by rw [hRs]; decide⟩ ⟨0, 6, 9, 13⟩ hTb rfl (by decide) q40_17 rfl (fun q => ?_)
  refine k_astore_n (lv' := (3, .ref q) :: [(0, .ref b_q), (1, .int u1), (2, .int u2)]) X dL_setWord_9 rfl rfl rfl rfl ?_
  refine k_iconst (v := 1) X dL_setWord_10 (by decide) rfl ?_
  exact k_iret9 X hRt hLk rfl rfl dL_setWord_11
theorem vL_shut : kSw yL_shut cL_shut 4 (some .int) [(0, 6, 9, 13)] 3 := ⟨q44_7, q40_15, q44_6, by decide, by decide +kernel⟩
theorem kL_shut_in (l : Launch) (D : va_G) (kI kZ kJ : ClassId) (b_q : Nat) (b_y : Nat) (q_now : Nat) (q_current : Nat) (q_lengthUnit : Nat) (q_lanes : Nat) (q_port : Nat) (q_doneCount : Int32) (q_illegalCount : Int32) (q_trapCount : Int32) (y_words : Nat) (y_shutPages : Int32) (u1 : Int32) (u2 : Int32) (hok : okX10_shut u1) : kMW l yL_shut cL_shut 4 (some .int) [(0, 6, 9, 13)] 7 100 1 6 D [(kI, .int), (kZ, .boolean), (kJ, .long)] [.ref b_q, .int u1, .int u2] [(b_q, .inr (9, [.ref q_now, .ref b_y, .ref q_current, .ref q_lengthUnit, .ref q_lanes, .ref q_port, .int q_doneCount, .int q_illegalCount, .int q_trapCount])), (b_y, .inr (5, [.ref y_words, .int y_shutPages]))] (some (.int 0)) [(b_q, .inr (9, [.ref q_now, .ref b_y, .ref q_current, .ref q_lengthUnit, .ref q_lanes, .ref q_port, .int q_doneCount, .int q_illegalCount, .int q_trapCount])), (b_y, .inr (5, [.ref y_words, .int (fX10_shut__y_shutPages y_shutPages u1 u2)]))] := by
  refine kMW.of (by decide) rfl ?_
  intro p e R s m args below meth c A X hEx hTb hRc hRs hRt hLk
  refine k_sub [0, 1, 2] (lv' := [(0, .ref b_q), (1, .int u1), (2, .int u2)]) rfl ?_
  refine k_aload_n X dL_shut_0 rfl 0 rfl rfl ?_
  refine k_iload_n X dL_shut_1 rfl 1 rfl rfl ?_
  refine k_iload_n X dL_shut_2 rfl 2 rfl rfl ?_
  refine k_callV (mc := 0) (ms := 0) (W9 := 0) (As := [.int u1, .int u2]) (st := []) (wr := []) X.sub (kX10_shut l D kI kZ b_q b_y q_now q_current q_lengthUnit q_lanes q_port q_doneCount q_illegalCount q_trapCount y_words y_shutPages u1 u2 hok) vX10_shut q44_8 rfl rfl rfl rfl rfl ⟨by rw [hRc]; decide, by rw [hRs]; decide⟩ dL_shut_3 (ci := 9) (q9 := 0) rfl rfl [0, 1] [] [0, 1] rfl rfl rfl rfl rfl (ws' := [(b_q, .inr (9, [.ref q_now, .ref b_y, .ref q_current, .ref q_lengthUnit, .ref q_lanes, .ref q_port, .int q_doneCount, .int q_illegalCount, .int q_trapCount])), (b_y, .inr (5, [.ref y_words, .int (fX10_shut__y_shutPages y_shutPages u1 u2)]))]) rfl rfl ?_
  refine k_goto (tgt := 12) X dL_shut_6 (by decide) ?_
  refine k_iconst (v := 0) X dL_shut_12 (by decide) rfl ?_
  refine k_wid (c1 := 1) (s1 := 6) (by decide) (by decide) ?_
  exact k_iret9 X hRt hLk rfl rfl dL_shut_13
theorem kL_shut_out (l : Launch) (hl9 : l.stackTraces = false) (D : va_G) (kI kZ kJ : ClassId) (b_q : Nat) (b_y : Nat) (q_now : Nat) (q_current : Nat) (q_lengthUnit : Nat) (q_lanes : Nat) (q_port : Nat) (q_doneCount : Int32) (q_illegalCount : Int32) (q_trapCount : Int32) (y_words : Nat) (y_shutPages : Int32) (u1 : Int32) (u2 : Int32) (hu : u1 < 0 ∨ ¬ u1 < 16) : kMW l yL_shut cL_shut 4 (some .int) [(0, 6, 9, 13)] 7 100 1 6 D [(kI, .int), (kZ, .boolean), (kJ, .long)] [.ref b_q, .int u1, .int u2] [(b_q, .inr (9, [.ref q_now, .ref b_y, .ref q_current, .ref q_lengthUnit, .ref q_lanes, .ref q_port, .int q_doneCount, .int q_illegalCount, .int q_trapCount])), (b_y, .inr (5, [.ref y_words, .int y_shutPages]))] (some (.int 1)) [(b_q, .inr (9, [.ref q_now, .ref b_y, .ref q_current, .ref q_lengthUnit, .ref q_lanes, .ref q_port, .int q_doneCount, .int q_illegalCount, .int q_trapCount])), (b_y, .inr (5, [.ref y_words, .int y_shutPages]))] := by
  refine kMW.of (by decide) rfl ?_
  intro p e R s m args below meth c A X hEx hTb hRc hRs hRt hLk
  refine k_sub [0, 1, 2] (lv' := [(0, .ref b_q), (1, .int u1), (2, .int u2)]) rfl ?_
  refine k_aload_n X dL_shut_0 rfl 0 rfl rfl ?_
  refine k_iload_n X dL_shut_1 rfl 1 rfl rfl ?_
  refine k_iload_n X dL_shut_2 rfl 2 rfl rfl ?_
  refine k_cX (st := []) X hEx [.int u1, .int u2] 0 (kX10_shut_out l hl9 b_q u1 u2 hu) vX10_shut q44_8 dL_shut_3 (ci := 9) (q9 := 0) rfl rfl rfl rfl rfl rfl rfl ⟨by rw [hRc]; decide, by rw [hRs]; decide⟩ ⟨0, 6, 9, 13⟩ hTb rfl (by decide) q40_17 rfl (fun q => ?_)
  refine k_astore_n (lv' := (3, .ref q) :: [(0, .ref b_q), (1, .int u1), (2, .int u2)]) X dL_shut_9 rfl rfl rfl rfl ?_
  refine k_iconst (v := 1) X dL_shut_10 (by decide) rfl ?_
  exact k_iret9 X hRt hLk rfl rfl dL_shut_11
