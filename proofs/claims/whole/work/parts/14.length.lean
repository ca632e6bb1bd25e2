noncomputable def fX5_choicesModulo (r_choices : Int64) (u1 : Int32) : Int32 := (if (1 : Int32) ≤ u1 then (Int64.toInt32 (lrem (((2 : Int64) * (lrem (lsru r_choices (1 : Int32)) (Int32.toInt64 u1))) + (r_choices &&& (1 : Int64))) (Int32.toInt64 u1))) else (0 : Int32))
noncomputable def okX5_choicesModulo (u1 : Int32) : Prop := (((1 : Int32) ≤ u1) → ¬ (Int32.toInt64 u1) = 0)
set_option maxRecDepth 100000 in
set_option maxHeartbeats 4000000 in
theorem kX5_choicesModulo (l : Launch) (D : va_G) (kI kZ : ClassId) (b_u : Nat) (b_r : Nat) (r_scalars : Nat) (r_vectors : Nat) (r_type : Nat) (r_length : Int32) (r_start : Int32) (r_rounding : Int32) (r_saturated : Int32) (r_choices : Int64) (u1 : Int32) (hok : okX5_choicesModulo u1) : kM l yX5_choicesModulo cX5_choicesModulo 4 (some .int) 0 0 0 0 D [(kI, .int), (kZ, .boolean)] [.ref b_u, .int u1] [(b_u, .inr (4, [.ref b_r])), (b_r, .inr (7, [.ref r_scalars, .ref r_vectors, .ref r_type, .int r_length, .int r_start, .int r_rounding, .int r_saturated, .long r_choices]))] (some (.int (fX5_choicesModulo r_choices u1))) [(b_u, .inr (4, [.ref b_r])), (b_r, .inr (7, [.ref r_scalars, .ref r_vectors, .ref r_type, .int r_length, .int r_start, .int r_rounding, .int r_saturated, .long r_choices]))] := by
  refine kM.of (by decide) rfl ?_
  intro p e R s m args below meth c A X _ _ hRt hLk
  refine k_sub [0, 1] (lv' := [(0, .ref b_u), (1, .int u1)]) rfl ?_
  unfold okX5_choicesModulo at hok
  refine k_iload_n X dX5_choicesModulo_0 rfl 1 rfl rfl ?_
  refine k_iconst X dX5_choicesModulo_1 kc_i_1 rfl ?_
  refine k_icmp_ge (tgt := 7) X dX5_choicesModulo_2 (by decide) rfl (fun c1 => ?_) (fun c1 => ?_)
  · skip
    refine k_aload_n X dX5_choicesModulo_7 rfl 0 rfl rfl ?_
    refine k_get X i_wsX50 0 0 q3_19 rfl rfl rfl rfl rfl dX5_choicesModulo_8 rfl ?_
    refine k_get X i_wsX80 1 7 q15_18 rfl rfl rfl rfl rfl dX5_choicesModulo_11 rfl ?_
    refine k_iconst X dX5_choicesModulo_14 kc_i_1 rfl ?_
    refine k_lushr X dX5_choicesModulo_15 rfl ?_
    refine k_iload_n X dX5_choicesModulo_16 rfl 1 rfl rfl ?_
    refine k_i2l X dX5_choicesModulo_17 rfl ?_
    refine k_lrem X dX5_choicesModulo_18 (hok c1) rfl ?_
    refine k_lstore_n (lv' := [(2, .long (lrem (lsru r_choices (1 : Int32)) (Int32.toInt64 u1))), (0, .ref b_u), (1, .int u1)]) X dX5_choicesModulo_19 rfl rfl rfl rfl ?_
    refine k_ldc2 X q15_13 dX5_choicesModulo_20 rfl ?_
    refine k_lload_n X dX5_choicesModulo_23 rfl 0 rfl rfl ?_
    refine k_lmul X dX5_choicesModulo_24 rfl ?_
    refine k_aload_n X dX5_choicesModulo_25 rfl 1 rfl rfl ?_
    refine k_get X i_wsX50 0 0 q3_19 rfl rfl rfl rfl rfl dX5_choicesModulo_26 rfl ?_
    refine k_get X i_wsX80 1 7 q15_18 rfl rfl rfl rfl rfl dX5_choicesModulo_29 rfl ?_
    refine k_lconst (v := (1 : Int64)) X dX5_choicesModulo_32 rfl rfl ?_
    refine k_land X dX5_choicesModulo_33 rfl ?_
    refine k_ladd X dX5_choicesModulo_34 rfl ?_
    refine k_iload_n X dX5_choicesModulo_35 rfl 2 rfl rfl ?_
    refine k_i2l X dX5_choicesModulo_36 rfl ?_
    refine k_lrem X dX5_choicesModulo_37 (hok c1) rfl ?_
    refine k_l2i X dX5_choicesModulo_38 rfl ?_
    have e2 : (fX5_choicesModulo r_choices u1) = (Int64.toInt32 (lrem (((2 : Int64) * (lrem (lsru r_choices (1 : Int32)) (Int32.toInt64 u1))) + (r_choices &&& (1 : Int64))) (Int32.toInt64 u1))) := by rw [fX5_choicesModulo, if_pos c1]
    exact k_iret9 X hRt hLk e2.symm rfl dX5_choicesModulo_39
  refine k_iconst X dX5_choicesModulo_5 kc_i_0 rfl ?_
  have e3 : (fX5_choicesModulo r_choices u1) = (0 : Int32) := by rw [fX5_choicesModulo, if_neg c1]
  exact k_iret9 X hRt hLk e3.symm rfl dX5_choicesModulo_6
theorem vX5_choicesModulo : kVi yX5_choicesModulo cX5_choicesModulo 4 (some .int) 1 := ⟨q15_17, q2_4, q15_15, q15_16, by decide, by decide +kernel⟩
noncomputable def fX5_granted (r_choices : Int64) (u1 : Int64) (u3 : Int32) : Int32 := (if (Int32.toInt64 u3) < u1 then (if u1 < ((2 : Int64) * (Int32.toInt64 u3)) then ((Int64.toInt32 ((u1 + (1 : Int64)) / (2 : Int64))) + (fX5_choicesModulo r_choices ((u3 - (Int64.toInt32 ((u1 + (1 : Int64)) / (2 : Int64)))) + (1 : Int32)))) else u3) else (Int64.toInt32 u1))
noncomputable def okX5_granted (u1 : Int64) (u3 : Int32) : Prop := (((Int32.toInt64 u3) < u1) → (u1 < ((2 : Int64) * (Int32.toInt64 u3))) → okX5_choicesModulo ((u3 - (Int64.toInt32 ((u1 + (1 : Int64)) / (2 : Int64)))) + (1 : Int32)))
set_option maxRecDepth 100000 in
set_option maxHeartbeats 4000000 in
theorem kX5_granted (l : Launch) (D : va_G) (kI kZ : ClassId) (b_u : Nat) (b_r : Nat) (r_scalars : Nat) (r_vectors : Nat) (r_type : Nat) (r_length : Int32) (r_start : Int32) (r_rounding : Int32) (r_saturated : Int32) (r_choices : Int64) (u1 : Int64) (u3 : Int32) (hok : okX5_granted u1 u3) : kM l yX5_granted cX5_granted 5 (some .int) 1 16 0 0 D [(kI, .int), (kZ, .boolean)] [.ref b_u, .long u1, .int u3] [(b_u, .inr (4, [.ref b_r])), (b_r, .inr (7, [.ref r_scalars, .ref r_vectors, .ref r_type, .int r_length, .int r_start, .int r_rounding, .int r_saturated, .long r_choices]))] (some (.int (fX5_granted r_choices u1 u3))) [(b_u, .inr (4, [.ref b_r])), (b_r, .inr (7, [.ref r_scalars, .ref r_vectors, .ref r_type, .int r_length, .int r_start, .int r_rounding, .int r_saturated, .long r_choices]))] := by
  refine kM.of (by decide) rfl ?_
  intro p e R s m args below meth c A X _ _ hRt hLk
  refine k_sub [0, 1, 2] (lv' := [(0, .ref b_u), (1, .long u1), (3, .int u3)]) rfl ?_
  unfold okX5_granted at hok
  refine k_lload_n X dX5_granted_0 rfl 1 rfl rfl ?_
  refine k_iload_n X dX5_granted_1 rfl 2 rfl rfl ?_
  refine k_i2l X dX5_granted_2 rfl ?_
  refine k_lcmp_gt (tgt := 10) X dX5_granted_3 rfl dX5_granted_4 (by decide) rfl (fun c1 => ?_) (fun c1 => ?_)
  · skip
    refine k_lload_n X dX5_granted_10 rfl 1 rfl rfl ?_
    refine k_ldc2 X q15_13 dX5_granted_11 rfl ?_
    refine k_iload_n X dX5_granted_14 rfl 2 rfl rfl ?_
    refine k_i2l X dX5_granted_15 rfl ?_
    refine k_lmul X dX5_granted_16 rfl ?_
    refine k_lcmp_lt (tgt := 23) X dX5_granted_17 rfl dX5_granted_18 (by decide) rfl (fun c2 => ?_) (fun c2 => ?_)
    · skip
      refine k_lload_n X dX5_granted_23 rfl 1 rfl rfl ?_
      refine k_lconst (v := (1 : Int64)) X dX5_granted_24 rfl rfl ?_
      refine k_ladd X dX5_granted_25 rfl ?_
      refine k_ldc2 X q15_13 dX5_granted_26 rfl ?_
      refine k_ldiv X dX5_granted_29 (by decide) rfl ?_
      refine k_l2i X dX5_granted_30 rfl ?_
      refine k_istore (lv' := [(4, .int (Int64.toInt32 ((u1 + (1 : Int64)) / (2 : Int64)))), (0, .ref b_u), (1, .long u1), (3, .int u3)]) X dX5_granted_31 rfl rfl rfl ?_
      refine k_iload X dX5_granted_33 0 rfl rfl ?_
      refine k_aload_n X dX5_granted_35 rfl 1 rfl rfl ?_
      refine k_iload_n X dX5_granted_36 rfl 3 rfl rfl ?_
      refine k_iload X dX5_granted_37 0 rfl rfl ?_
      refine k_isub X dX5_granted_39 rfl ?_
      refine k_iconst X dX5_granted_40 kc_i_1 rfl ?_
      refine k_iadd X dX5_granted_41 rfl ?_
      refine k_cV1 (st := [.int (Int64.toInt32 ((u1 + (1 : Int64)) / (2 : Int64)))]) (ws' := [(b_u, .inr (4, [.ref b_r])), (b_r, .inr (7, [.ref r_scalars, .ref r_vectors, .ref r_type, .int r_length, .int r_start, .int r_rounding, .int r_saturated, .long r_choices]))]) (wr := []) (ci := 4) (q9 := 0) X [.int ((u3 - (Int64.toInt32 ((u1 + (1 : Int64)) / (2 : Int64)))) + (1 : Int32))] 1 [0, 1] [] [0, 1] (kX5_choicesModulo l D kI kZ b_u b_r r_scalars r_vectors r_type r_length r_start r_rounding r_saturated r_choices ((u3 - (Int64.toInt32 ((u1 + (1 : Int64)) / (2 : Int64)))) + (1 : Int32)) (hok c1 c2)) vX5_choicesModulo q15_14 dX5_granted_42 rfl rfl rfl rfl rfl rfl rfl rfl rfl rfl rfl rfl rfl rfl rfl ?_
      refine k_iadd X dX5_granted_45 rfl ?_
      have e3 : (fX5_granted r_choices u1 u3) = ((Int64.toInt32 ((u1 + (1 : Int64)) / (2 : Int64))) + (fX5_choicesModulo r_choices ((u3 - (Int64.toInt32 ((u1 + (1 : Int64)) / (2 : Int64)))) + (1 : Int32)))) := by rw [fX5_granted, if_pos c1, if_pos c2]
      exact k_iret9 X hRt hLk e3.symm rfl dX5_granted_46
    refine k_iload_n X dX5_granted_21 rfl 2 rfl rfl ?_
    have e4 : (fX5_granted r_choices u1 u3) = u3 := by rw [fX5_granted, if_pos c1, if_neg c2]
    exact k_iret9 X hRt hLk e4.symm rfl dX5_granted_22
  refine k_lload_n X dX5_granted_7 rfl 1 rfl rfl ?_
  refine k_l2i X dX5_granted_8 rfl ?_
  have e5 : (fX5_granted r_choices u1 u3) = (Int64.toInt32 u1) := by rw [fX5_granted, if_neg c1]
  exact k_iret9 X hRt hLk e5.symm rfl dX5_granted_9
theorem vX5_granted : kVi yX5_granted cX5_granted 5 (some .int) 2 := ⟨q15_12, q2_4, q15_10, q15_11, by decide, by decide +kernel⟩
noncomputable def pX5_lengthInRegister_42_S1 (i_rd : Int32) : Int64 := (if i_rd = (0 : Int32) then (-1 : Int64) else (4294967296 : Int64))
noncomputable def fX5_lengthInRegister (xS : Nat → Int32) (i_rd : Int32) (i_rs1 : Int32) : Int64 := (if i_rs1 = (0 : Int32) then (pX5_lengthInRegister_42_S1 i_rd) else ((Int32.toInt64 (fX8_scalar xS i_rs1)) &&& (fX10_ones (32 : Int32))))
noncomputable def okX5_lengthInRegister (i_rs1 : Int32) : Prop := (¬ (i_rs1 = (0 : Int32)) → okX8_scalar i_rs1)
set_option maxRecDepth 100000 in
set_option maxHeartbeats 4000000 in
theorem kX5_lengthInRegister (l : Launch) (D : va_G) (kI kZ : ClassId) (b_u : Nat) (b_r : Nat) (b_xS : Nat) (b_i : Nat) (r_vectors : Nat) (r_type : Nat) (r_length : Int32) (r_start : Int32) (r_rounding : Int32) (r_saturated : Int32) (r_choices : Int64) (xS : Nat → Int32) (i_bits : Int32) (i_code : Int32) (i_form : Int32) (i_rd : Int32) (i_rs1 : Int32) (i_rs2 : Int32) (i_high : Int32) (i_masked : Int32) (hok : okX5_lengthInRegister i_rs1) : kM l yX5_lengthInRegister cX5_lengthInRegister 2 (some .long) 1 14 0 0 D [(kI, .int), (kZ, .boolean)] [.ref b_u, .ref b_i] [(b_u, .inr (4, [.ref b_r])), (b_r, .inr (7, [.ref b_xS, .ref r_vectors, .ref r_type, .int r_length, .int r_start, .int r_rounding, .int r_saturated, .long r_choices])), (b_xS, .inl (kI, 32, .inl xS)), (b_i, .inr (2, [.int i_bits, .int i_code, .int i_form, .int i_rd, .int i_rs1, .int i_rs2, .int i_high, .int i_masked]))] (some (.long (fX5_lengthInRegister xS i_rd i_rs1))) [(b_u, .inr (4, [.ref b_r])), (b_r, .inr (7, [.ref b_xS, .ref r_vectors, .ref r_type, .int r_length, .int r_start, .int r_rounding, .int r_saturated, .long r_choices])), (b_xS, .inl (kI, 32, .inl xS)), (b_i, .inr (2, [.int i_bits, .int i_code, .int i_form, .int i_rd, .int i_rs1, .int i_rs2, .int i_high, .int i_masked]))] := by
  refine kM.of (by decide) rfl ?_
  intro p e R s m args below meth c A X _ _ hRt hLk
  refine k_sub [0, 1] (lv' := [(0, .ref b_u), (1, .ref b_i)]) rfl ?_
  unfold okX5_lengthInRegister at hok
  refine k_aload_n X dX5_lengthInRegister_0 rfl 1 rfl rfl ?_
  refine k_get X i_wsX30 3 4 q14_1 rfl rfl rfl rfl rfl dX5_lengthInRegister_1 rfl ?_
  refine k_if_eq (tgt := 26) X dX5_lengthInRegister_4 (by decide) rfl (fun c1 => ?_) (fun c1 => ?_)
  · skip
    refine k_aload_n X dX5_lengthInRegister_26 rfl 1 rfl rfl ?_
    refine k_get X i_wsX30 3 3 q14_0 rfl rfl rfl rfl rfl dX5_lengthInRegister_27 rfl ?_
    refine k_mid2 [(b_u, .inr (4, [.ref b_r])), (b_r, .inr (7, [.ref b_xS, .ref r_vectors, .ref r_type, .int r_length, .int r_start, .int r_rounding, .int r_saturated, .long r_choices])), (b_xS, .inl (kI, 32, .inl xS)), (b_i, .inr (2, [.int i_bits, .int i_code, .int i_form, .int i_rd, .int i_rs1, .int i_rs2, .int i_high, .int i_masked]))] [(0, .ref b_u), (1, .ref b_i)] [.long (pX5_lengthInRegister_42_S1 i_rd)] 42 (fun hJ3 => ?_) ?_
    · skip
      refine k_if_eq (tgt := 39) X dX5_lengthInRegister_30 (by decide) rfl (fun c2 => ?_) (fun c2 => ?_)
      · skip
        refine k_ldc2 X q14_8 dX5_lengthInRegister_39 rfl ?_
        have e4 : (pX5_lengthInRegister_42_S1 i_rd) = (-1 : Int64) := by rw [pX5_lengthInRegister_42_S1, if_pos c2]
        rw [e4] at hJ3
        exact k_sub [0, 1] rfl hJ3
      refine k_ldc2 X q14_7 dX5_lengthInRegister_33 rfl ?_
      refine k_goto (tgt := 42) X dX5_lengthInRegister_36 (by decide) ?_
      have e5 : (pX5_lengthInRegister_42_S1 i_rd) = (4294967296 : Int64) := by rw [pX5_lengthInRegister_42_S1, if_neg c2]
      rw [e5] at hJ3
      exact k_sub [0, 1] rfl hJ3
    have e6 : (fX5_lengthInRegister xS i_rd i_rs1) = (pX5_lengthInRegister_42_S1 i_rd) := by rw [fX5_lengthInRegister, if_pos c1]
    exact k_lret9 X hRt hLk e6.symm rfl dX5_lengthInRegister_42
  refine k_aload_n X dX5_lengthInRegister_7 rfl 0 rfl rfl ?_
  refine k_get X i_wsX50 0 0 q3_19 rfl rfl rfl rfl rfl dX5_lengthInRegister_8 rfl ?_
  refine k_aload_n X dX5_lengthInRegister_11 rfl 1 rfl rfl ?_
  refine k_get X i_wsX30 3 4 q14_1 rfl rfl rfl rfl rfl dX5_lengthInRegister_12 rfl ?_
  refine k_cV1 (st := []) (ws' := [(b_u, .inr (4, [.ref b_r])), (b_r, .inr (7, [.ref b_xS, .ref r_vectors, .ref r_type, .int r_length, .int r_start, .int r_rounding, .int r_saturated, .long r_choices])), (b_xS, .inl (kI, 32, .inl xS)), (b_i, .inr (2, [.int i_bits, .int i_code, .int i_form, .int i_rd, .int i_rs1, .int i_rs2, .int i_high, .int i_masked]))]) (wr := [(b_u, .inr (4, [.ref b_r])), (b_i, .inr (2, [.int i_bits, .int i_code, .int i_form, .int i_rd, .int i_rs1, .int i_rs2, .int i_high, .int i_masked]))]) (ci := 7) (q9 := 0) X [.int i_rs1] 0 [1, 2] [0, 3] [0, 2, 3, 1] (kX8_scalar l D kI kZ b_r b_xS r_vectors r_type r_length r_start r_rounding r_saturated r_choices xS i_rs1 (hok c1)) vX8_scalar q14_9 dX5_lengthInRegister_15 rfl rfl rfl rfl rfl rfl rfl rfl rfl rfl rfl rfl rfl rfl rfl ?_
  refine k_i2l X dX5_lengthInRegister_18 rfl ?_
  refine k_bipush X dX5_lengthInRegister_19 kc_b_32 rfl ?_
  refine k_cN1 (st := [.long (Int32.toInt64 (fX8_scalar xS i_rs1))]) (ws' := [(b_u, .inr (4, [.ref b_r])), (b_r, .inr (7, [.ref b_xS, .ref r_vectors, .ref r_type, .int r_length, .int r_start, .int r_rounding, .int r_saturated, .long r_choices])), (b_xS, .inl (kI, 32, .inl xS)), (b_i, .inr (2, [.int i_bits, .int i_code, .int i_form, .int i_rd, .int i_rs1, .int i_rs2, .int i_high, .int i_masked]))]) (wr := [(b_u, .inr (4, [.ref b_r])), (b_r, .inr (7, [.ref b_xS, .ref r_vectors, .ref r_type, .int r_length, .int r_start, .int r_rounding, .int r_saturated, .long r_choices])), (b_xS, .inl (kI, 32, .inl xS)), (b_i, .inr (2, [.int i_bits, .int i_code, .int i_form, .int i_rd, .int i_rs1, .int i_rs2, .int i_high, .int i_masked]))]) X [.int (32 : Int32)] 2 [] [0, 1, 2, 3] [0, 1, 2, 3] (kX10_ones l D kI kZ (32 : Int32)) vX10_ones X.2.1.2.1.2.2.2.2.2.1 dX5_lengthInRegister_21 rfl rfl rfl rfl rfl rfl rfl rfl rfl rfl rfl rfl rfl ?_
  refine k_land X dX5_lengthInRegister_24 rfl ?_
  have e7 : (fX5_lengthInRegister xS i_rd i_rs1) = ((Int32.toInt64 (fX8_scalar xS i_rs1)) &&& (fX10_ones (32 : Int32))) := by rw [fX5_lengthInRegister, if_neg c1]
  exact k_lret9 X hRt hLk e7.symm rfl dX5_lengthInRegister_25
theorem vX5_lengthInRegister : kVi yX5_lengthInRegister cX5_lengthInRegister 2 (some .long) 1 := ⟨q14_6, q2_4, q14_4, q14_5, by decide, by decide +kernel⟩
noncomputable def pX5_grant_56_t_bits (t_most : Int32) (u2 : Int32) (u3 : Int64) : Int32 := (if u3 = (-1 : Int64) then (if (fX9_become__t_most u2) = t_most then (fX9_become__t_bits u2) else fX9_becomeIll__t_bits) else (fX9_become__t_bits u2))
noncomputable def pX5_grant_56_t_sew (t_most : Int32) (u2 : Int32) (u3 : Int64) : Int32 := (if u3 = (-1 : Int64) then (if (fX9_become__t_most u2) = t_most then (fX9_become__t_sew u2) else fX9_becomeIll__t_sew) else (fX9_become__t_sew u2))
noncomputable def pX5_grant_56_t_eighths (t_most : Int32) (u2 : Int32) (u3 : Int64) : Int32 := (if u3 = (-1 : Int64) then (if (fX9_become__t_most u2) = t_most then (fX9_become__t_eighths u2) else fX9_becomeIll__t_eighths) else (fX9_become__t_eighths u2))
noncomputable def pX5_grant_56_t_most (t_most : Int32) (u2 : Int32) (u3 : Int64) : Int32 := (if u3 = (-1 : Int64) then (if (fX9_become__t_most u2) = t_most then (fX9_become__t_most u2) else fX9_becomeIll__t_most) else (fX9_become__t_most u2))
noncomputable def pX5_grant_56_t_tailOpen (t_most : Int32) (u2 : Int32) (u3 : Int64) : Int32 := (if u3 = (-1 : Int64) then (if (fX9_become__t_most u2) = t_most then (fX9_become__t_tailOpen u2) else fX9_becomeIll__t_tailOpen) else (fX9_become__t_tailOpen u2))
noncomputable def pX5_grant_56_t_maskedOpen (t_most : Int32) (u2 : Int32) (u3 : Int64) : Int32 := (if u3 = (-1 : Int64) then (if (fX9_become__t_most u2) = t_most then (fX9_become__t_maskedOpen u2) else fX9_becomeIll__t_maskedOpen) else (fX9_become__t_maskedOpen u2))
noncomputable def pX5_grant_110_r_length (r_length : Int32) (r_choices : Int64) (t_most : Int32) (u2 : Int32) (u3 : Int64) : Int32 := (if (fX9_isIll (pX5_grant_56_t_bits t_most u2 u3)) = (0 : Int32) then (if u3 = (-1 : Int64) then r_length else (fX5_granted r_choices u3 (pX5_grant_56_t_most t_most u2 u3))) else (0 : Int32))
noncomputable def fX5_grant__r_length (r_length : Int32) (r_choices : Int64) (t_most : Int32) (u2 : Int32) (u3 : Int64) : Int32 := (pX5_grant_110_r_length r_length r_choices t_most u2 u3)
noncomputable def fX5_grant__xS (r_length : Int32) (r_choices : Int64) (xS : Nat → Int32) (t_most : Int32) (u1 : Int32) (u2 : Int32) (u3 : Int64) : Nat → Int32 := (fX8_putScalar__xS xS u1 (pX5_grant_110_r_length r_length r_choices t_most u2 u3))
noncomputable def fX5_grant__t_bits (t_most : Int32) (u2 : Int32) (u3 : Int64) : Int32 := (pX5_grant_56_t_bits t_most u2 u3)
noncomputable def fX5_grant__t_sew (t_most : Int32) (u2 : Int32) (u3 : Int64) : Int32 := (pX5_grant_56_t_sew t_most u2 u3)
noncomputable def fX5_grant__t_eighths (t_most : Int32) (u2 : Int32) (u3 : Int64) : Int32 := (pX5_grant_56_t_eighths t_most u2 u3)
noncomputable def fX5_grant__t_most (t_most : Int32) (u2 : Int32) (u3 : Int64) : Int32 := (pX5_grant_56_t_most t_most u2 u3)
noncomputable def fX5_grant__t_tailOpen (t_most : Int32) (u2 : Int32) (u3 : Int64) : Int32 := (pX5_grant_56_t_tailOpen t_most u2 u3)
noncomputable def fX5_grant__t_maskedOpen (t_most : Int32) (u2 : Int32) (u3 : Int64) : Int32 := (pX5_grant_56_t_maskedOpen t_most u2 u3)
noncomputable def okX5_grant (t_most : Int32) (u1 : Int32) (u2 : Int32) (u3 : Int64) : Prop := (okX9_become u2) ∧ (((fX9_isIll (pX5_grant_56_t_bits t_most u2 u3)) = (0 : Int32)) → ¬ (u3 = (-1 : Int64)) → okX5_granted u3 (pX5_grant_56_t_most t_most u2 u3)) ∧ (okX8_putScalar u1)
set_option maxRecDepth 100000 in
set_option maxHeartbeats 4000000 in
theorem kX5_grant (l : Launch) (D : va_G) (kI kZ : ClassId) (b_u : Nat) (b_r : Nat) (b_xS : Nat) (b_t : Nat) (r_vectors : Nat) (r_length : Int32) (r_start : Int32) (r_rounding : Int32) (r_saturated : Int32) (r_choices : Int64) (xS : Nat → Int32) (t_bits : Int32) (t_sew : Int32) (t_eighths : Int32) (t_most : Int32) (t_tailOpen : Int32) (t_maskedOpen : Int32) (u1 : Int32) (u2 : Int32) (u3 : Int64) (hok : okX5_grant t_most u1 u2 u3) : kM l yX5_grant cX5_grant 6 none 2 33 0 0 D [(kI, .int), (kZ, .boolean)] [.ref b_u, .int u1, .int u2, .long u3] [(b_u, .inr (4, [.ref b_r])), (b_r, .inr (7, [.ref b_xS, .ref r_vectors, .ref b_t, .int r_length, .int r_start, .int r_rounding, .int r_saturated, .long r_choices])), (b_xS, .inl (kI, 32, .inl xS)), (b_t, .inr (8, [.int t_bits, .int t_sew, .int t_eighths, .int t_most, .int t_tailOpen, .int t_maskedOpen]))] none [(b_u, .inr (4, [.ref b_r])), (b_r, .inr (7, [.ref b_xS, .ref r_vectors, .ref b_t, .int (fX5_grant__r_length r_length r_choices t_most u2 u3), .int r_start, .int r_rounding, .int r_saturated, .long r_choices])), (b_xS, .inl (kI, 32, .inl (fX5_grant__xS r_length r_choices xS t_most u1 u2 u3))), (b_t, .inr (8, [.int (fX5_grant__t_bits t_most u2 u3), .int (fX5_grant__t_sew t_most u2 u3), .int (fX5_grant__t_eighths t_most u2 u3), .int (fX5_grant__t_most t_most u2 u3), .int (fX5_grant__t_tailOpen t_most u2 u3), .int (fX5_grant__t_maskedOpen t_most u2 u3)]))] := by
  refine kM.of (by decide) rfl ?_
  intro p e R s m args below meth c A X _ _ hRt hLk
  refine k_sub [0, 1, 2, 3] (lv' := [(0, .ref b_u), (1, .int u1), (2, .int u2), (3, .long u3)]) rfl ?_
  unfold okX5_grant at hok
  refine k_aload_n X dX5_grant_0 rfl 0 rfl rfl ?_
  refine k_get X i_wsX50 0 0 q3_19 rfl rfl rfl rfl rfl dX5_grant_1 rfl ?_
  refine k_get X i_wsX80 1 2 q14_14 rfl rfl rfl rfl rfl dX5_grant_4 rfl ?_
  refine k_get X i_wsX90 3 3 q14_15 rfl rfl rfl rfl rfl dX5_grant_7 rfl ?_
  refine k_istore (lv' := [(5, .int t_most), (0, .ref b_u), (1, .int u1), (2, .int u2), (3, .long u3)]) X dX5_grant_10 rfl rfl rfl ?_
  refine k_aload_n X dX5_grant_12 rfl 1 rfl rfl ?_
  refine k_get X i_wsX50 0 0 q3_19 rfl rfl rfl rfl rfl dX5_grant_13 rfl ?_
  refine k_get X i_wsX80 1 2 q14_14 rfl rfl rfl rfl rfl dX5_grant_16 rfl ?_
  refine k_iload_n X dX5_grant_19 rfl 3 rfl rfl ?_
  refine k_cV0 (st := []) (ws' := [(b_u, .inr (4, [.ref b_r])), (b_r, .inr (7, [.ref b_xS, .ref r_vectors, .ref b_t, .int r_length, .int r_start, .int r_rounding, .int r_saturated, .long r_choices])), (b_xS, .inl (kI, 32, .inl xS)), (b_t, .inr (8, [.int (fX9_become__t_bits u2), .int (fX9_become__t_sew u2), .int (fX9_become__t_eighths u2), .int (fX9_become__t_most u2), .int (fX9_become__t_tailOpen u2), .int (fX9_become__t_maskedOpen u2)]))]) (wr := [(b_u, .inr (4, [.ref b_r])), (b_r, .inr (7, [.ref b_xS, .ref r_vectors, .ref b_t, .int r_length, .int r_start, .int r_rounding, .int r_saturated, .long r_choices])), (b_xS, .inl (kI, 32, .inl xS))]) (ci := 8) (q9 := 0) X [.int u2] 0 [3] [0, 1, 2] [0, 1, 2, 3] (kX9_become l D kI kZ b_t t_bits t_sew t_eighths t_most t_tailOpen t_maskedOpen u2 (hok.1)) vX9_become q14_17 dX5_grant_20 rfl rfl rfl rfl rfl rfl rfl rfl rfl rfl rfl rfl rfl rfl rfl ?_
  refine k_lload_n X dX5_grant_23 rfl 4 rfl rfl ?_
  refine k_ldc2 X q14_8 dX5_grant_24 rfl ?_
  refine k_mid2 [(b_u, .inr (4, [.ref b_r])), (b_r, .inr (7, [.ref b_xS, .ref r_vectors, .ref b_t, .int r_length, .int r_start, .int r_rounding, .int r_saturated, .long r_choices])), (b_xS, .inl (kI, 32, .inl xS)), (b_t, .inr (8, [.int (pX5_grant_56_t_bits t_most u2 u3), .int (pX5_grant_56_t_sew t_most u2 u3), .int (pX5_grant_56_t_eighths t_most u2 u3), .int (pX5_grant_56_t_most t_most u2 u3), .int (pX5_grant_56_t_tailOpen t_most u2 u3), .int (pX5_grant_56_t_maskedOpen t_most u2 u3)]))] [(0, .ref b_u), (1, .int u1), (2, .int u2), (3, .long u3), (5, .int t_most)] [] 56 (fun hJ3 => ?_) ?_
  · skip
    refine k_lcmp_ne (tgt := 56) X dX5_grant_27 rfl dX5_grant_28 (by decide) rfl (fun c1 => ?_) (fun c1 => ?_)
    · skip
      refine k_aload_n X dX5_grant_31 rfl 1 rfl rfl ?_
      refine k_get X i_wsX50 0 0 q3_19 rfl rfl rfl rfl rfl dX5_grant_32 rfl ?_
      refine k_get X i_wsX80 1 2 q14_14 rfl rfl rfl rfl rfl dX5_grant_35 rfl ?_
      refine k_get X i_wsX90 3 3 q14_15 rfl rfl rfl rfl rfl dX5_grant_38 rfl ?_
      refine k_iload X dX5_grant_41 0 rfl rfl ?_
      refine k_icmp_eq (tgt := 56) X dX5_grant_43 (by decide) rfl (fun c2 => ?_) (fun c2 => ?_)
      · skip
        have e7 : (pX5_grant_56_t_bits t_most u2 u3) = (fX9_become__t_bits u2) := by rw [pX5_grant_56_t_bits, if_pos c1, if_pos c2]
        rw [e7] at hJ3
        have e8 : (pX5_grant_56_t_sew t_most u2 u3) = (fX9_become__t_sew u2) := by rw [pX5_grant_56_t_sew, if_pos c1, if_pos c2]
        rw [e8] at hJ3
        have e9 : (pX5_grant_56_t_eighths t_most u2 u3) = (fX9_become__t_eighths u2) := by rw [pX5_grant_56_t_eighths, if_pos c1, if_pos c2]
        rw [e9] at hJ3
        have e10 : (pX5_grant_56_t_most t_most u2 u3) = (fX9_become__t_most u2) := by rw [pX5_grant_56_t_most, if_pos c1, if_pos c2]
        rw [e10] at hJ3
        have e11 : (pX5_grant_56_t_tailOpen t_most u2 u3) = (fX9_become__t_tailOpen u2) := by rw [pX5_grant_56_t_tailOpen, if_pos c1, if_pos c2]
        rw [e11] at hJ3
        have e12 : (pX5_grant_56_t_maskedOpen t_most u2 u3) = (fX9_become__t_maskedOpen u2) := by rw [pX5_grant_56_t_maskedOpen, if_pos c1, if_pos c2]
        rw [e12] at hJ3
        exact k_sub [1, 2, 3, 4, 0] rfl hJ3
      refine k_aload_n X dX5_grant_46 rfl 1 rfl rfl ?_
      refine k_get X i_wsX50 0 0 q3_19 rfl rfl rfl rfl rfl dX5_grant_47 rfl ?_
      refine k_get X i_wsX80 1 2 q14_14 rfl rfl rfl rfl rfl dX5_grant_50 rfl ?_
      refine k_cV0 (st := []) (ws' := [(b_u, .inr (4, [.ref b_r])), (b_r, .inr (7, [.ref b_xS, .ref r_vectors, .ref b_t, .int r_length, .int r_start, .int r_rounding, .int r_saturated, .long r_choices])), (b_xS, .inl (kI, 32, .inl xS)), (b_t, .inr (8, [.int fX9_becomeIll__t_bits, .int fX9_becomeIll__t_sew, .int fX9_becomeIll__t_eighths, .int fX9_becomeIll__t_most, .int fX9_becomeIll__t_tailOpen, .int fX9_becomeIll__t_maskedOpen]))]) (wr := [(b_u, .inr (4, [.ref b_r])), (b_r, .inr (7, [.ref b_xS, .ref r_vectors, .ref b_t, .int r_length, .int r_start, .int r_rounding, .int r_saturated, .long r_choices])), (b_xS, .inl (kI, 32, .inl xS))]) (ci := 8) (q9 := 0) X [] 0 [3] [0, 1, 2] [0, 1, 2, 3] (kX9_becomeIll l D kI kZ b_t (fX9_become__t_bits u2) (fX9_become__t_sew u2) (fX9_become__t_eighths u2) (fX9_become__t_most u2) (fX9_become__t_tailOpen u2) (fX9_become__t_maskedOpen u2)) vX9_becomeIll q15_7 dX5_grant_53 rfl rfl rfl rfl rfl rfl rfl rfl rfl rfl rfl rfl rfl rfl rfl ?_
      have e13 : (pX5_grant_56_t_bits t_most u2 u3) = fX9_becomeIll__t_bits := by rw [pX5_grant_56_t_bits, if_pos c1, if_neg c2]
      rw [e13] at hJ3
      have e14 : (pX5_grant_56_t_sew t_most u2 u3) = fX9_becomeIll__t_sew := by rw [pX5_grant_56_t_sew, if_pos c1, if_neg c2]
      rw [e14] at hJ3
      have e15 : (pX5_grant_56_t_eighths t_most u2 u3) = fX9_becomeIll__t_eighths := by rw [pX5_grant_56_t_eighths, if_pos c1, if_neg c2]
      rw [e15] at hJ3
      have e16 : (pX5_grant_56_t_most t_most u2 u3) = fX9_becomeIll__t_most := by rw [pX5_grant_56_t_most, if_pos c1, if_neg c2]
      rw [e16] at hJ3
      have e17 : (pX5_grant_56_t_tailOpen t_most u2 u3) = fX9_becomeIll__t_tailOpen := by rw [pX5_grant_56_t_tailOpen, if_pos c1, if_neg c2]
      rw [e17] at hJ3
      have e18 : (pX5_grant_56_t_maskedOpen t_most u2 u3) = fX9_becomeIll__t_maskedOpen := by rw [pX5_grant_56_t_maskedOpen, if_pos c1, if_neg c2]
      rw [e18] at hJ3
      exact k_sub [1, 2, 3, 4, 0] rfl hJ3
    have e19 : (pX5_grant_56_t_bits t_most u2 u3) = (fX9_become__t_bits u2) := by rw [pX5_grant_56_t_bits, if_neg c1]
    rw [e19] at hJ3
    have e20 : (pX5_grant_56_t_sew t_most u2 u3) = (fX9_become__t_sew u2) := by rw [pX5_grant_56_t_sew, if_neg c1]
    rw [e20] at hJ3
    have e21 : (pX5_grant_56_t_eighths t_most u2 u3) = (fX9_become__t_eighths u2) := by rw [pX5_grant_56_t_eighths, if_neg c1]
    rw [e21] at hJ3
    have e22 : (pX5_grant_56_t_most t_most u2 u3) = (fX9_become__t_most u2) := by rw [pX5_grant_56_t_most, if_neg c1]
    rw [e22] at hJ3
    have e23 : (pX5_grant_56_t_tailOpen t_most u2 u3) = (fX9_become__t_tailOpen u2) := by rw [pX5_grant_56_t_tailOpen, if_neg c1]
    rw [e23] at hJ3
    have e24 : (pX5_grant_56_t_maskedOpen t_most u2 u3) = (fX9_become__t_maskedOpen u2) := by rw [pX5_grant_56_t_maskedOpen, if_neg c1]
    rw [e24] at hJ3
    exact k_sub [1, 2, 3, 4, 0] rfl hJ3
  refine k_aload_n X dX5_grant_56 rfl 0 rfl rfl ?_
  refine k_get X i_wsX50 0 0 q3_19 rfl rfl rfl rfl rfl dX5_grant_57 rfl ?_
  refine k_get X i_wsX80 1 2 q14_14 rfl rfl rfl rfl rfl dX5_grant_60 rfl ?_
  refine k_cV1 (st := []) (ws' := [(b_u, .inr (4, [.ref b_r])), (b_r, .inr (7, [.ref b_xS, .ref r_vectors, .ref b_t, .int r_length, .int r_start, .int r_rounding, .int r_saturated, .long r_choices])), (b_xS, .inl (kI, 32, .inl xS)), (b_t, .inr (8, [.int (pX5_grant_56_t_bits t_most u2 u3), .int (pX5_grant_56_t_sew t_most u2 u3), .int (pX5_grant_56_t_eighths t_most u2 u3), .int (pX5_grant_56_t_most t_most u2 u3), .int (pX5_grant_56_t_tailOpen t_most u2 u3), .int (pX5_grant_56_t_maskedOpen t_most u2 u3)]))]) (wr := [(b_u, .inr (4, [.ref b_r])), (b_r, .inr (7, [.ref b_xS, .ref r_vectors, .ref b_t, .int r_length, .int r_start, .int r_rounding, .int r_saturated, .long r_choices])), (b_xS, .inl (kI, 32, .inl xS))]) (ci := 8) (q9 := 0) X [] 0 [3] [0, 1, 2] [0, 1, 2, 3] (kX9_isIll l D kI kZ b_t (pX5_grant_56_t_bits t_most u2 u3) (pX5_grant_56_t_sew t_most u2 u3) (pX5_grant_56_t_eighths t_most u2 u3) (pX5_grant_56_t_most t_most u2 u3) (pX5_grant_56_t_tailOpen t_most u2 u3) (pX5_grant_56_t_maskedOpen t_most u2 u3)) vX9_isIll q15_8 dX5_grant_63 rfl rfl rfl rfl rfl rfl rfl rfl rfl rfl rfl rfl rfl rfl rfl ?_
  refine k_mid2 [(b_u, .inr (4, [.ref b_r])), (b_r, .inr (7, [.ref b_xS, .ref r_vectors, .ref b_t, .int (pX5_grant_110_r_length r_length r_choices t_most u2 u3), .int r_start, .int r_rounding, .int r_saturated, .long r_choices])), (b_xS, .inl (kI, 32, .inl xS)), (b_t, .inr (8, [.int (pX5_grant_56_t_bits t_most u2 u3), .int (pX5_grant_56_t_sew t_most u2 u3), .int (pX5_grant_56_t_eighths t_most u2 u3), .int (pX5_grant_56_t_most t_most u2 u3), .int (pX5_grant_56_t_tailOpen t_most u2 u3), .int (pX5_grant_56_t_maskedOpen t_most u2 u3)]))] [(0, .ref b_u), (1, .int u1), (2, .int u2), (3, .long u3), (5, .int t_most)] [] 110 (fun hJ6 => ?_) ?_
  · skip
    refine k_if_eq (tgt := 80) X dX5_grant_66 (by decide) rfl (fun c4 => ?_) (fun c4 => ?_)
    · skip
      refine k_lload_n X dX5_grant_80 rfl 3 rfl rfl ?_
      refine k_ldc2 X q14_8 dX5_grant_81 rfl ?_
      refine k_lcmp_eq (tgt := 110) X dX5_grant_84 rfl dX5_grant_85 (by decide) rfl (fun c5 => ?_) (fun c5 => ?_)
      · skip
        have e25 : (pX5_grant_110_r_length r_length r_choices t_most u2 u3) = r_length := by rw [pX5_grant_110_r_length, if_pos c4, if_pos c5]
        rw [e25] at hJ6
        exact k_sub [0, 1, 2, 3, 4] rfl hJ6
      refine k_aload_n X dX5_grant_88 rfl 0 rfl rfl ?_
      refine k_get X i_wsX50 0 0 q3_19 rfl rfl rfl rfl rfl dX5_grant_89 rfl ?_
      refine k_aload_n X dX5_grant_92 rfl 0 rfl rfl ?_
      refine k_lload_n X dX5_grant_93 rfl 3 rfl rfl ?_
      refine k_aload_n X dX5_grant_94 rfl 0 rfl rfl ?_
      refine k_get X i_wsX50 0 0 q3_19 rfl rfl rfl rfl rfl dX5_grant_95 rfl ?_
      refine k_get X i_wsX80 1 2 q14_14 rfl rfl rfl rfl rfl dX5_grant_98 rfl ?_
      refine k_get X i_wsX90 3 3 q14_15 rfl rfl rfl rfl rfl dX5_grant_101 rfl ?_
      refine k_cV1 (st := [.ref b_r]) (ws' := [(b_u, .inr (4, [.ref b_r])), (b_r, .inr (7, [.ref b_xS, .ref r_vectors, .ref b_t, .int r_length, .int r_start, .int r_rounding, .int r_saturated, .long r_choices])), (b_xS, .inl (kI, 32, .inl xS)), (b_t, .inr (8, [.int (pX5_grant_56_t_bits t_most u2 u3), .int (pX5_grant_56_t_sew t_most u2 u3), .int (pX5_grant_56_t_eighths t_most u2 u3), .int (pX5_grant_56_t_most t_most u2 u3), .int (pX5_grant_56_t_tailOpen t_most u2 u3), .int (pX5_grant_56_t_maskedOpen t_most u2 u3)]))]) (wr := [(b_xS, .inl (kI, 32, .inl xS)), (b_t, .inr (8, [.int (pX5_grant_56_t_bits t_most u2 u3), .int (pX5_grant_56_t_sew t_most u2 u3), .int (pX5_grant_56_t_eighths t_most u2 u3), .int (pX5_grant_56_t_most t_most u2 u3), .int (pX5_grant_56_t_tailOpen t_most u2 u3), .int (pX5_grant_56_t_maskedOpen t_most u2 u3)]))]) (ci := 4) (q9 := 0) X [.long u3, .int (pX5_grant_56_t_most t_most u2 u3)] 1 [0, 1] [2, 3] [2, 3, 0, 1] (kX5_granted l D kI kZ b_u b_r b_xS r_vectors b_t r_length r_start r_rounding r_saturated r_choices u3 (pX5_grant_56_t_most t_most u2 u3) (hok.2.1 c4 c5)) vX5_granted q15_9 dX5_grant_104 rfl rfl rfl rfl rfl rfl rfl rfl rfl rfl rfl rfl rfl rfl rfl ?_
      refine k_put (ws' := [(b_u, .inr (4, [.ref b_r])), (b_r, .inr (7, [.ref b_xS, .ref r_vectors, .ref b_t, .int (fX5_granted r_choices u3 (pX5_grant_56_t_most t_most u2 u3)), .int r_start, .int r_rounding, .int r_saturated, .long r_choices])), (b_xS, .inl (kI, 32, .inl xS)), (b_t, .inr (8, [.int (pX5_grant_56_t_bits t_most u2 u3), .int (pX5_grant_56_t_sew t_most u2 u3), .int (pX5_grant_56_t_eighths t_most u2 u3), .int (pX5_grant_56_t_most t_most u2 u3), .int (pX5_grant_56_t_tailOpen t_most u2 u3), .int (pX5_grant_56_t_maskedOpen t_most u2 u3)]))]) X i_wsX80 tyX8 tyX8_ok nmX8 1 3 q14_16 rfl rfl rfl rfl rfl rfl rfl rfl rfl dX5_grant_107 rfl ?_
      have e26 : (pX5_grant_110_r_length r_length r_choices t_most u2 u3) = (fX5_granted r_choices u3 (pX5_grant_56_t_most t_most u2 u3)) := by rw [pX5_grant_110_r_length, if_pos c4, if_neg c5]
      rw [e26] at hJ6
      exact k_sub [0, 1, 2, 3, 4] rfl hJ6
    refine k_aload_n X dX5_grant_69 rfl 0 rfl rfl ?_
    refine k_get X i_wsX50 0 0 q3_19 rfl rfl rfl rfl rfl dX5_grant_70 rfl ?_
    refine k_iconst X dX5_grant_73 kc_i_0 rfl ?_
    refine k_put (ws' := [(b_u, .inr (4, [.ref b_r])), (b_r, .inr (7, [.ref b_xS, .ref r_vectors, .ref b_t, .int (0 : Int32), .int r_start, .int r_rounding, .int r_saturated, .long r_choices])), (b_xS, .inl (kI, 32, .inl xS)), (b_t, .inr (8, [.int (pX5_grant_56_t_bits t_most u2 u3), .int (pX5_grant_56_t_sew t_most u2 u3), .int (pX5_grant_56_t_eighths t_most u2 u3), .int (pX5_grant_56_t_most t_most u2 u3), .int (pX5_grant_56_t_tailOpen t_most u2 u3), .int (pX5_grant_56_t_maskedOpen t_most u2 u3)]))]) X i_wsX80 tyX8 tyX8_ok nmX8 1 3 q14_16 rfl rfl rfl rfl rfl rfl rfl rfl rfl dX5_grant_74 rfl ?_
    refine k_goto (tgt := 110) X dX5_grant_77 (by decide) ?_
    have e27 : (pX5_grant_110_r_length r_length r_choices t_most u2 u3) = (0 : Int32) := by rw [pX5_grant_110_r_length, if_neg c4]
    rw [e27] at hJ6
    exact k_sub [0, 1, 2, 3, 4] rfl hJ6
  refine k_aload_n X dX5_grant_110 rfl 0 rfl rfl ?_
  refine k_get X i_wsX50 0 0 q3_19 rfl rfl rfl rfl rfl dX5_grant_111 rfl ?_
  refine k_iload_n X dX5_grant_114 rfl 1 rfl rfl ?_
  refine k_aload_n X dX5_grant_115 rfl 0 rfl rfl ?_
  refine k_get X i_wsX50 0 0 q3_19 rfl rfl rfl rfl rfl dX5_grant_116 rfl ?_
  refine k_get X i_wsX80 1 3 q14_16 rfl rfl rfl rfl rfl dX5_grant_119 rfl ?_
  refine k_cV0 (st := []) (ws' := [(b_u, .inr (4, [.ref b_r])), (b_r, .inr (7, [.ref b_xS, .ref r_vectors, .ref b_t, .int (pX5_grant_110_r_length r_length r_choices t_most u2 u3), .int r_start, .int r_rounding, .int r_saturated, .long r_choices])), (b_xS, .inl (kI, 32, .inl (fX8_putScalar__xS xS u1 (pX5_grant_110_r_length r_length r_choices t_most u2 u3)))), (b_t, .inr (8, [.int (pX5_grant_56_t_bits t_most u2 u3), .int (pX5_grant_56_t_sew t_most u2 u3), .int (pX5_grant_56_t_eighths t_most u2 u3), .int (pX5_grant_56_t_most t_most u2 u3), .int (pX5_grant_56_t_tailOpen t_most u2 u3), .int (pX5_grant_56_t_maskedOpen t_most u2 u3)]))]) (wr := [(b_u, .inr (4, [.ref b_r])), (b_t, .inr (8, [.int (pX5_grant_56_t_bits t_most u2 u3), .int (pX5_grant_56_t_sew t_most u2 u3), .int (pX5_grant_56_t_eighths t_most u2 u3), .int (pX5_grant_56_t_most t_most u2 u3), .int (pX5_grant_56_t_tailOpen t_most u2 u3), .int (pX5_grant_56_t_maskedOpen t_most u2 u3)]))]) (ci := 7) (q9 := 0) X [.int u1, .int (pX5_grant_110_r_length r_length r_choices t_most u2 u3)] 0 [1, 2] [0, 3] [0, 2, 3, 1] (kX8_putScalar l D kI kZ b_r b_xS r_vectors b_t (pX5_grant_110_r_length r_length r_choices t_most u2 u3) r_start r_rounding r_saturated r_choices xS u1 (pX5_grant_110_r_length r_length r_choices t_most u2 u3) (hok.2.2)) vX8_putScalar q15_19 dX5_grant_122 rfl rfl rfl rfl rfl rfl rfl rfl rfl rfl rfl rfl rfl rfl rfl ?_
  have e28 : (fX5_grant__r_length r_length r_choices t_most u2 u3) = (pX5_grant_110_r_length r_length r_choices t_most u2 u3) := by rw [fX5_grant__r_length]
  have e29 : (fX5_grant__xS r_length r_choices xS t_most u1 u2 u3) = (fX8_putScalar__xS xS u1 (pX5_grant_110_r_length r_length r_choices t_most u2 u3)) := by rw [fX5_grant__xS]
  have e30 : (fX5_grant__t_bits t_most u2 u3) = (pX5_grant_56_t_bits t_most u2 u3) := by rw [fX5_grant__t_bits]
  have e31 : (fX5_grant__t_sew t_most u2 u3) = (pX5_grant_56_t_sew t_most u2 u3) := by rw [fX5_grant__t_sew]
  have e32 : (fX5_grant__t_eighths t_most u2 u3) = (pX5_grant_56_t_eighths t_most u2 u3) := by rw [fX5_grant__t_eighths]
  have e33 : (fX5_grant__t_most t_most u2 u3) = (pX5_grant_56_t_most t_most u2 u3) := by rw [fX5_grant__t_most]
  have e34 : (fX5_grant__t_tailOpen t_most u2 u3) = (pX5_grant_56_t_tailOpen t_most u2 u3) := by rw [fX5_grant__t_tailOpen]
  have e35 : (fX5_grant__t_maskedOpen t_most u2 u3) = (pX5_grant_56_t_maskedOpen t_most u2 u3) := by rw [fX5_grant__t_maskedOpen]
  exact k_vret X hRt hLk (by rw [e28, e29, e30, e31, e32, e33, e34, e35]) dX5_grant_125
theorem vX5_grant : kVi yX5_grant cX5_grant 6 none 3 := ⟨q14_13, q2_4, q14_11, q14_12, by decide, by decide +kernel⟩
noncomputable def fX5_execute (i_bits : Int32) : Int32 := (if i_bits < (0 : Int32) then (if (sru i_bits (30 : Int32)) = (3 : Int32) then (0 : Int32) else (if (sru i_bits (25 : Int32)) = (64 : Int32) then (0 : Int32) else (1 : Int32))) else (0 : Int32))
noncomputable def fX5_execute__r_length (r_length : Int32) (r_choices : Int64) (xS : Nat → Int32) (t_most : Int32) (i_bits : Int32) (i_rd : Int32) (i_rs1 : Int32) (i_rs2 : Int32) : Int32 := (if i_bits < (0 : Int32) then (if (sru i_bits (30 : Int32)) = (3 : Int32) then (fX5_grant__r_length r_length r_choices t_most ((sru i_bits (20 : Int32)) &&& (1023 : Int32)) (Int32.toInt64 i_rs1)) else (if (sru i_bits (25 : Int32)) = (64 : Int32) then (fX5_grant__r_length r_length r_choices t_most (fX8_scalar xS i_rs2) (fX5_lengthInRegister xS i_rd i_rs1)) else r_length)) else (fX5_grant__r_length r_length r_choices t_most ((sru i_bits (20 : Int32)) &&& (2047 : Int32)) (fX5_lengthInRegister xS i_rd i_rs1)))
noncomputable def fX5_execute__xS (r_length : Int32) (r_choices : Int64) (xS : Nat → Int32) (t_most : Int32) (i_bits : Int32) (i_rd : Int32) (i_rs1 : Int32) (i_rs2 : Int32) : Nat → Int32 := (if i_bits < (0 : Int32) then (if (sru i_bits (30 : Int32)) = (3 : Int32) then (fX5_grant__xS r_length r_choices xS t_most i_rd ((sru i_bits (20 : Int32)) &&& (1023 : Int32)) (Int32.toInt64 i_rs1)) else (if (sru i_bits (25 : Int32)) = (64 : Int32) then (fX5_grant__xS r_length r_choices xS t_most i_rd (fX8_scalar xS i_rs2) (fX5_lengthInRegister xS i_rd i_rs1)) else xS)) else (fX5_grant__xS r_length r_choices xS t_most i_rd ((sru i_bits (20 : Int32)) &&& (2047 : Int32)) (fX5_lengthInRegister xS i_rd i_rs1)))
noncomputable def fX5_execute__t_bits (xS : Nat → Int32) (t_bits : Int32) (t_most : Int32) (i_bits : Int32) (i_rd : Int32) (i_rs1 : Int32) (i_rs2 : Int32) : Int32 := (if i_bits < (0 : Int32) then (if (sru i_bits (30 : Int32)) = (3 : Int32) then (fX5_grant__t_bits t_most ((sru i_bits (20 : Int32)) &&& (1023 : Int32)) (Int32.toInt64 i_rs1)) else (if (sru i_bits (25 : Int32)) = (64 : Int32) then (fX5_grant__t_bits t_most (fX8_scalar xS i_rs2) (fX5_lengthInRegister xS i_rd i_rs1)) else t_bits)) else (fX5_grant__t_bits t_most ((sru i_bits (20 : Int32)) &&& (2047 : Int32)) (fX5_lengthInRegister xS i_rd i_rs1)))
noncomputable def fX5_execute__t_sew (xS : Nat → Int32) (t_sew : Int32) (t_most : Int32) (i_bits : Int32) (i_rd : Int32) (i_rs1 : Int32) (i_rs2 : Int32) : Int32 := (if i_bits < (0 : Int32) then (if (sru i_bits (30 : Int32)) = (3 : Int32) then (fX5_grant__t_sew t_most ((sru i_bits (20 : Int32)) &&& (1023 : Int32)) (Int32.toInt64 i_rs1)) else (if (sru i_bits (25 : Int32)) = (64 : Int32) then (fX5_grant__t_sew t_most (fX8_scalar xS i_rs2) (fX5_lengthInRegister xS i_rd i_rs1)) else t_sew)) else (fX5_grant__t_sew t_most ((sru i_bits (20 : Int32)) &&& (2047 : Int32)) (fX5_lengthInRegister xS i_rd i_rs1)))
noncomputable def fX5_execute__t_eighths (xS : Nat → Int32) (t_eighths : Int32) (t_most : Int32) (i_bits : Int32) (i_rd : Int32) (i_rs1 : Int32) (i_rs2 : Int32) : Int32 := (if i_bits < (0 : Int32) then (if (sru i_bits (30 : Int32)) = (3 : Int32) then (fX5_grant__t_eighths t_most ((sru i_bits (20 : Int32)) &&& (1023 : Int32)) (Int32.toInt64 i_rs1)) else (if (sru i_bits (25 : Int32)) = (64 : Int32) then (fX5_grant__t_eighths t_most (fX8_scalar xS i_rs2) (fX5_lengthInRegister xS i_rd i_rs1)) else t_eighths)) else (fX5_grant__t_eighths t_most ((sru i_bits (20 : Int32)) &&& (2047 : Int32)) (fX5_lengthInRegister xS i_rd i_rs1)))
noncomputable def fX5_execute__t_most (xS : Nat → Int32) (t_most : Int32) (i_bits : Int32) (i_rd : Int32) (i_rs1 : Int32) (i_rs2 : Int32) : Int32 := (if i_bits < (0 : Int32) then (if (sru i_bits (30 : Int32)) = (3 : Int32) then (fX5_grant__t_most t_most ((sru i_bits (20 : Int32)) &&& (1023 : Int32)) (Int32.toInt64 i_rs1)) else (if (sru i_bits (25 : Int32)) = (64 : Int32) then (fX5_grant__t_most t_most (fX8_scalar xS i_rs2) (fX5_lengthInRegister xS i_rd i_rs1)) else t_most)) else (fX5_grant__t_most t_most ((sru i_bits (20 : Int32)) &&& (2047 : Int32)) (fX5_lengthInRegister xS i_rd i_rs1)))
noncomputable def fX5_execute__t_tailOpen (xS : Nat → Int32) (t_most : Int32) (t_tailOpen : Int32) (i_bits : Int32) (i_rd : Int32) (i_rs1 : Int32) (i_rs2 : Int32) : Int32 := (if i_bits < (0 : Int32) then (if (sru i_bits (30 : Int32)) = (3 : Int32) then (fX5_grant__t_tailOpen t_most ((sru i_bits (20 : Int32)) &&& (1023 : Int32)) (Int32.toInt64 i_rs1)) else (if (sru i_bits (25 : Int32)) = (64 : Int32) then (fX5_grant__t_tailOpen t_most (fX8_scalar xS i_rs2) (fX5_lengthInRegister xS i_rd i_rs1)) else t_tailOpen)) else (fX5_grant__t_tailOpen t_most ((sru i_bits (20 : Int32)) &&& (2047 : Int32)) (fX5_lengthInRegister xS i_rd i_rs1)))
noncomputable def fX5_execute__t_maskedOpen (xS : Nat → Int32) (t_most : Int32) (t_maskedOpen : Int32) (i_bits : Int32) (i_rd : Int32) (i_rs1 : Int32) (i_rs2 : Int32) : Int32 := (if i_bits < (0 : Int32) then (if (sru i_bits (30 : Int32)) = (3 : Int32) then (fX5_grant__t_maskedOpen t_most ((sru i_bits (20 : Int32)) &&& (1023 : Int32)) (Int32.toInt64 i_rs1)) else (if (sru i_bits (25 : Int32)) = (64 : Int32) then (fX5_grant__t_maskedOpen t_most (fX8_scalar xS i_rs2) (fX5_lengthInRegister xS i_rd i_rs1)) else t_maskedOpen)) else (fX5_grant__t_maskedOpen t_most ((sru i_bits (20 : Int32)) &&& (2047 : Int32)) (fX5_lengthInRegister xS i_rd i_rs1)))
noncomputable def okX5_execute (xS : Nat → Int32) (t_most : Int32) (i_bits : Int32) (i_rd : Int32) (i_rs1 : Int32) (i_rs2 : Int32) : Prop := ((i_bits < (0 : Int32)) → ((sru i_bits (30 : Int32)) = (3 : Int32)) → okX5_grant t_most i_rd ((sru i_bits (20 : Int32)) &&& (1023 : Int32)) (Int32.toInt64 i_rs1)) ∧ ((i_bits < (0 : Int32)) → ¬ ((sru i_bits (30 : Int32)) = (3 : Int32)) → ((sru i_bits (25 : Int32)) = (64 : Int32)) → okX8_scalar i_rs2) ∧ ((i_bits < (0 : Int32)) → ¬ ((sru i_bits (30 : Int32)) = (3 : Int32)) → ((sru i_bits (25 : Int32)) = (64 : Int32)) → okX5_lengthInRegister i_rs1) ∧ ((i_bits < (0 : Int32)) → ¬ ((sru i_bits (30 : Int32)) = (3 : Int32)) → ((sru i_bits (25 : Int32)) = (64 : Int32)) → okX5_grant t_most i_rd (fX8_scalar xS i_rs2) (fX5_lengthInRegister xS i_rd i_rs1)) ∧ (¬ (i_bits < (0 : Int32)) → okX5_lengthInRegister i_rs1) ∧ (¬ (i_bits < (0 : Int32)) → okX5_grant t_most i_rd ((sru i_bits (20 : Int32)) &&& (2047 : Int32)) (fX5_lengthInRegister xS i_rd i_rs1))
set_option maxRecDepth 100000 in
set_option maxHeartbeats 4000000 in
theorem kX5_execute (l : Launch) (D : va_G) (kI kZ : ClassId) (b_u : Nat) (b_r : Nat) (b_xS : Nat) (b_t : Nat) (b_i : Nat) (r_vectors : Nat) (r_length : Int32) (r_start : Int32) (r_rounding : Int32) (r_saturated : Int32) (r_choices : Int64) (xS : Nat → Int32) (t_bits : Int32) (t_sew : Int32) (t_eighths : Int32) (t_most : Int32) (t_tailOpen : Int32) (t_maskedOpen : Int32) (i_bits : Int32) (i_code : Int32) (i_form : Int32) (i_rd : Int32) (i_rs1 : Int32) (i_rs2 : Int32) (i_high : Int32) (i_masked : Int32) (hok : okX5_execute xS t_most i_bits i_rd i_rs1 i_rs2) : kM l yX5_execute cX5_execute 2 (some .int) 3 50 0 0 D [(kI, .int), (kZ, .boolean)] [.ref b_u, .ref b_i] [(b_u, .inr (4, [.ref b_r])), (b_r, .inr (7, [.ref b_xS, .ref r_vectors, .ref b_t, .int r_length, .int r_start, .int r_rounding, .int r_saturated, .long r_choices])), (b_xS, .inl (kI, 32, .inl xS)), (b_t, .inr (8, [.int t_bits, .int t_sew, .int t_eighths, .int t_most, .int t_tailOpen, .int t_maskedOpen])), (b_i, .inr (2, [.int i_bits, .int i_code, .int i_form, .int i_rd, .int i_rs1, .int i_rs2, .int i_high, .int i_masked]))] (some (.int (fX5_execute i_bits))) [(b_u, .inr (4, [.ref b_r])), (b_r, .inr (7, [.ref b_xS, .ref r_vectors, .ref b_t, .int (fX5_execute__r_length r_length r_choices xS t_most i_bits i_rd i_rs1 i_rs2), .int r_start, .int r_rounding, .int r_saturated, .long r_choices])), (b_xS, .inl (kI, 32, .inl (fX5_execute__xS r_length r_choices xS t_most i_bits i_rd i_rs1 i_rs2))), (b_t, .inr (8, [.int (fX5_execute__t_bits xS t_bits t_most i_bits i_rd i_rs1 i_rs2), .int (fX5_execute__t_sew xS t_sew t_most i_bits i_rd i_rs1 i_rs2), .int (fX5_execute__t_eighths xS t_eighths t_most i_bits i_rd i_rs1 i_rs2), .int (fX5_execute__t_most xS t_most i_bits i_rd i_rs1 i_rs2), .int (fX5_execute__t_tailOpen xS t_most t_tailOpen i_bits i_rd i_rs1 i_rs2), .int (fX5_execute__t_maskedOpen xS t_most t_maskedOpen i_bits i_rd i_rs1 i_rs2)])), (b_i, .inr (2, [.int i_bits, .int i_code, .int i_form, .int i_rd, .int i_rs1, .int i_rs2, .int i_high, .int i_masked]))] := by
  refine kM.of (by decide) rfl ?_
  intro p e R s m args below meth c A X _ _ hRt hLk
  refine k_sub [0, 1] (lv' := [(0, .ref b_u), (1, .ref b_i)]) rfl ?_
  unfold okX5_execute at hok
  refine k_aload_n X dX5_execute_0 rfl 1 rfl rfl ?_
  refine k_get X i_wsX30 4 0 q13_23 rfl rfl rfl rfl rfl dX5_execute_1 rfl ?_
  refine k_if_lt (tgt := 33) X dX5_execute_4 (by decide) rfl (fun c1 => ?_) (fun c1 => ?_)
  · skip
    refine k_aload_n X dX5_execute_33 rfl 1 rfl rfl ?_
    refine k_get X i_wsX30 4 0 q13_23 rfl rfl rfl rfl rfl dX5_execute_34 rfl ?_
    refine k_bipush X dX5_execute_37 kc_b_30 rfl ?_
    refine k_iushr X dX5_execute_39 rfl ?_
    refine k_iconst X dX5_execute_40 kc_i_3 rfl ?_
    refine k_icmp_ne (tgt := 70) X dX5_execute_41 (by decide) rfl (fun c2 => ?_) (fun c2 => ?_)
    · skip
      refine k_aload_n X dX5_execute_44 rfl 0 rfl rfl ?_
      refine k_aload_n X dX5_execute_45 rfl 1 rfl rfl ?_
      refine k_get X i_wsX30 4 3 q14_0 rfl rfl rfl rfl rfl dX5_execute_46 rfl ?_
      refine k_aload_n X dX5_execute_49 rfl 1 rfl rfl ?_
      refine k_get X i_wsX30 4 0 q13_23 rfl rfl rfl rfl rfl dX5_execute_50 rfl ?_
      refine k_bipush X dX5_execute_53 kc_b_20 rfl ?_
      refine k_iushr X dX5_execute_55 rfl ?_
      refine k_sipush X dX5_execute_56 kc_s_1023 rfl ?_
      refine k_iand X dX5_execute_59 rfl ?_
      refine k_aload_n X dX5_execute_60 rfl 1 rfl rfl ?_
      refine k_get X i_wsX30 4 4 q14_1 rfl rfl rfl rfl rfl dX5_execute_61 rfl ?_
      refine k_i2l X dX5_execute_64 rfl ?_
      refine k_cV0 (st := []) (ws' := [(b_u, .inr (4, [.ref b_r])), (b_r, .inr (7, [.ref b_xS, .ref r_vectors, .ref b_t, .int (fX5_grant__r_length r_length r_choices t_most ((sru i_bits (20 : Int32)) &&& (1023 : Int32)) (Int32.toInt64 i_rs1)), .int r_start, .int r_rounding, .int r_saturated, .long r_choices])), (b_xS, .inl (kI, 32, .inl (fX5_grant__xS r_length r_choices xS t_most i_rd ((sru i_bits (20 : Int32)) &&& (1023 : Int32)) (Int32.toInt64 i_rs1)))), (b_t, .inr (8, [.int (fX5_grant__t_bits t_most ((sru i_bits (20 : Int32)) &&& (1023 : Int32)) (Int32.toInt64 i_rs1)), .int (fX5_grant__t_sew t_most ((sru i_bits (20 : Int32)) &&& (1023 : Int32)) (Int32.toInt64 i_rs1)), .int (fX5_grant__t_eighths t_most ((sru i_bits (20 : Int32)) &&& (1023 : Int32)) (Int32.toInt64 i_rs1)), .int (fX5_grant__t_most t_most ((sru i_bits (20 : Int32)) &&& (1023 : Int32)) (Int32.toInt64 i_rs1)), .int (fX5_grant__t_tailOpen t_most ((sru i_bits (20 : Int32)) &&& (1023 : Int32)) (Int32.toInt64 i_rs1)), .int (fX5_grant__t_maskedOpen t_most ((sru i_bits (20 : Int32)) &&& (1023 : Int32)) (Int32.toInt64 i_rs1))])), (b_i, .inr (2, [.int i_bits, .int i_code, .int i_form, .int i_rd, .int i_rs1, .int i_rs2, .int i_high, .int i_masked]))]) (wr := [(b_i, .inr (2, [.int i_bits, .int i_code, .int i_form, .int i_rd, .int i_rs1, .int i_rs2, .int i_high, .int i_masked]))]) (ci := 4) (q9 := 0) X [.int i_rd, .int ((sru i_bits (20 : Int32)) &&& (1023 : Int32)), .long (Int32.toInt64 i_rs1)] 0 [0, 1, 2, 3] [4] [1, 2, 3, 4, 0] (kX5_grant l D kI kZ b_u b_r b_xS b_t r_vectors r_length r_start r_rounding r_saturated r_choices xS t_bits t_sew t_eighths t_most t_tailOpen t_maskedOpen i_rd ((sru i_bits (20 : Int32)) &&& (1023 : Int32)) (Int32.toInt64 i_rs1) (hok.1 c1 c2)) vX5_grant q14_10 dX5_execute_65 rfl rfl rfl rfl rfl rfl rfl rfl rfl rfl rfl rfl rfl rfl rfl ?_
      refine k_iconst X dX5_execute_68 kc_i_0 rfl ?_
      have e4 : (fX5_execute i_bits) = (0 : Int32) := by rw [fX5_execute, if_pos c1, if_pos c2]
      have e5 : (fX5_execute__r_length r_length r_choices xS t_most i_bits i_rd i_rs1 i_rs2) = (fX5_grant__r_length r_length r_choices t_most ((sru i_bits (20 : Int32)) &&& (1023 : Int32)) (Int32.toInt64 i_rs1)) := by rw [fX5_execute__r_length, if_pos c1, if_pos c2]
      have e6 : (fX5_execute__xS r_length r_choices xS t_most i_bits i_rd i_rs1 i_rs2) = (fX5_grant__xS r_length r_choices xS t_most i_rd ((sru i_bits (20 : Int32)) &&& (1023 : Int32)) (Int32.toInt64 i_rs1)) := by rw [fX5_execute__xS, if_pos c1, if_pos c2]
      have e7 : (fX5_execute__t_bits xS t_bits t_most i_bits i_rd i_rs1 i_rs2) = (fX5_grant__t_bits t_most ((sru i_bits (20 : Int32)) &&& (1023 : Int32)) (Int32.toInt64 i_rs1)) := by rw [fX5_execute__t_bits, if_pos c1, if_pos c2]
      have e8 : (fX5_execute__t_sew xS t_sew t_most i_bits i_rd i_rs1 i_rs2) = (fX5_grant__t_sew t_most ((sru i_bits (20 : Int32)) &&& (1023 : Int32)) (Int32.toInt64 i_rs1)) := by rw [fX5_execute__t_sew, if_pos c1, if_pos c2]
      have e9 : (fX5_execute__t_eighths xS t_eighths t_most i_bits i_rd i_rs1 i_rs2) = (fX5_grant__t_eighths t_most ((sru i_bits (20 : Int32)) &&& (1023 : Int32)) (Int32.toInt64 i_rs1)) := by rw [fX5_execute__t_eighths, if_pos c1, if_pos c2]
      have e10 : (fX5_execute__t_most xS t_most i_bits i_rd i_rs1 i_rs2) = (fX5_grant__t_most t_most ((sru i_bits (20 : Int32)) &&& (1023 : Int32)) (Int32.toInt64 i_rs1)) := by rw [fX5_execute__t_most, if_pos c1, if_pos c2]
      have e11 : (fX5_execute__t_tailOpen xS t_most t_tailOpen i_bits i_rd i_rs1 i_rs2) = (fX5_grant__t_tailOpen t_most ((sru i_bits (20 : Int32)) &&& (1023 : Int32)) (Int32.toInt64 i_rs1)) := by rw [fX5_execute__t_tailOpen, if_pos c1, if_pos c2]
      have e12 : (fX5_execute__t_maskedOpen xS t_most t_maskedOpen i_bits i_rd i_rs1 i_rs2) = (fX5_grant__t_maskedOpen t_most ((sru i_bits (20 : Int32)) &&& (1023 : Int32)) (Int32.toInt64 i_rs1)) := by rw [fX5_execute__t_maskedOpen, if_pos c1, if_pos c2]
      exact k_iret9 X hRt hLk e4.symm (by rw [e5, e6, e7, e8, e9, e10, e11, e12]) dX5_execute_69
    refine k_aload_n X dX5_execute_70 rfl 1 rfl rfl ?_
    refine k_get X i_wsX30 4 0 q13_23 rfl rfl rfl rfl rfl dX5_execute_71 rfl ?_
    refine k_bipush X dX5_execute_74 kc_b_25 rfl ?_
    refine k_iushr X dX5_execute_76 rfl ?_
    refine k_bipush X dX5_execute_77 kc_b_64 rfl ?_
    refine k_icmp_ne (tgt := 108) X dX5_execute_79 (by decide) rfl (fun c3 => ?_) (fun c3 => ?_)
    · skip
      refine k_aload_n X dX5_execute_82 rfl 0 rfl rfl ?_
      refine k_aload_n X dX5_execute_83 rfl 1 rfl rfl ?_
      refine k_get X i_wsX30 4 3 q14_0 rfl rfl rfl rfl rfl dX5_execute_84 rfl ?_
      refine k_aload_n X dX5_execute_87 rfl 0 rfl rfl ?_
      refine k_get X i_wsX50 0 0 q3_19 rfl rfl rfl rfl rfl dX5_execute_88 rfl ?_
      refine k_aload_n X dX5_execute_91 rfl 1 rfl rfl ?_
      refine k_get X i_wsX30 4 5 q14_2 rfl rfl rfl rfl rfl dX5_execute_92 rfl ?_
      refine k_cV1 (st := [.int i_rd, .ref b_u]) (ws' := [(b_u, .inr (4, [.ref b_r])), (b_r, .inr (7, [.ref b_xS, .ref r_vectors, .ref b_t, .int r_length, .int r_start, .int r_rounding, .int r_saturated, .long r_choices])), (b_xS, .inl (kI, 32, .inl xS)), (b_t, .inr (8, [.int t_bits, .int t_sew, .int t_eighths, .int t_most, .int t_tailOpen, .int t_maskedOpen])), (b_i, .inr (2, [.int i_bits, .int i_code, .int i_form, .int i_rd, .int i_rs1, .int i_rs2, .int i_high, .int i_masked]))]) (wr := [(b_u, .inr (4, [.ref b_r])), (b_t, .inr (8, [.int t_bits, .int t_sew, .int t_eighths, .int t_most, .int t_tailOpen, .int t_maskedOpen])), (b_i, .inr (2, [.int i_bits, .int i_code, .int i_form, .int i_rd, .int i_rs1, .int i_rs2, .int i_high, .int i_masked]))]) (ci := 7) (q9 := 0) X [.int i_rs2] 2 [1, 2] [0, 3, 4] [0, 3, 4, 1, 2] (kX8_scalar l D kI kZ b_r b_xS r_vectors b_t r_length r_start r_rounding r_saturated r_choices xS i_rs2 (hok.2.1 c1 c2 c3)) vX8_scalar q14_9 dX5_execute_95 rfl rfl rfl rfl rfl rfl rfl rfl rfl rfl rfl rfl rfl rfl rfl ?_
      refine k_aload_n X dX5_execute_98 rfl 0 rfl rfl ?_
      refine k_aload_n X dX5_execute_99 rfl 1 rfl rfl ?_
      refine k_cV1 (st := [.int (fX8_scalar xS i_rs2), .int i_rd, .ref b_u]) (ws' := [(b_u, .inr (4, [.ref b_r])), (b_r, .inr (7, [.ref b_xS, .ref r_vectors, .ref b_t, .int r_length, .int r_start, .int r_rounding, .int r_saturated, .long r_choices])), (b_xS, .inl (kI, 32, .inl xS)), (b_t, .inr (8, [.int t_bits, .int t_sew, .int t_eighths, .int t_most, .int t_tailOpen, .int t_maskedOpen])), (b_i, .inr (2, [.int i_bits, .int i_code, .int i_form, .int i_rd, .int i_rs1, .int i_rs2, .int i_high, .int i_masked]))]) (wr := [(b_t, .inr (8, [.int t_bits, .int t_sew, .int t_eighths, .int t_most, .int t_tailOpen, .int t_maskedOpen]))]) (ci := 4) (q9 := 0) X [.ref b_i] 3 [0, 1, 2, 4] [3] [1, 2, 3, 0, 4] (kX5_lengthInRegister l D kI kZ b_u b_r b_xS b_i r_vectors b_t r_length r_start r_rounding r_saturated r_choices xS i_bits i_code i_form i_rd i_rs1 i_rs2 i_high i_masked (hok.2.2.1 c1 c2 c3)) vX5_lengthInRegister q14_3 dX5_execute_100 rfl rfl rfl rfl rfl rfl rfl rfl rfl rfl rfl rfl rfl rfl rfl ?_
      refine k_cV0 (st := []) (ws' := [(b_u, .inr (4, [.ref b_r])), (b_r, .inr (7, [.ref b_xS, .ref r_vectors, .ref b_t, .int (fX5_grant__r_length r_length r_choices t_most (fX8_scalar xS i_rs2) (fX5_lengthInRegister xS i_rd i_rs1)), .int r_start, .int r_rounding, .int r_saturated, .long r_choices])), (b_xS, .inl (kI, 32, .inl (fX5_grant__xS r_length r_choices xS t_most i_rd (fX8_scalar xS i_rs2) (fX5_lengthInRegister xS i_rd i_rs1)))), (b_t, .inr (8, [.int (fX5_grant__t_bits t_most (fX8_scalar xS i_rs2) (fX5_lengthInRegister xS i_rd i_rs1)), .int (fX5_grant__t_sew t_most (fX8_scalar xS i_rs2) (fX5_lengthInRegister xS i_rd i_rs1)), .int (fX5_grant__t_eighths t_most (fX8_scalar xS i_rs2) (fX5_lengthInRegister xS i_rd i_rs1)), .int (fX5_grant__t_most t_most (fX8_scalar xS i_rs2) (fX5_lengthInRegister xS i_rd i_rs1)), .int (fX5_grant__t_tailOpen t_most (fX8_scalar xS i_rs2) (fX5_lengthInRegister xS i_rd i_rs1)), .int (fX5_grant__t_maskedOpen t_most (fX8_scalar xS i_rs2) (fX5_lengthInRegister xS i_rd i_rs1))])), (b_i, .inr (2, [.int i_bits, .int i_code, .int i_form, .int i_rd, .int i_rs1, .int i_rs2, .int i_high, .int i_masked]))]) (wr := [(b_i, .inr (2, [.int i_bits, .int i_code, .int i_form, .int i_rd, .int i_rs1, .int i_rs2, .int i_high, .int i_masked]))]) (ci := 4) (q9 := 0) X [.int i_rd, .int (fX8_scalar xS i_rs2), .long (fX5_lengthInRegister xS i_rd i_rs1)] 0 [0, 1, 2, 3] [4] [1, 2, 3, 4, 0] (kX5_grant l D kI kZ b_u b_r b_xS b_t r_vectors r_length r_start r_rounding r_saturated r_choices xS t_bits t_sew t_eighths t_most t_tailOpen t_maskedOpen i_rd (fX8_scalar xS i_rs2) (fX5_lengthInRegister xS i_rd i_rs1) (hok.2.2.2.1 c1 c2 c3)) vX5_grant q14_10 dX5_execute_103 rfl rfl rfl rfl rfl rfl rfl rfl rfl rfl rfl rfl rfl rfl rfl ?_
      refine k_iconst X dX5_execute_106 kc_i_0 rfl ?_
      have e13 : (fX5_execute i_bits) = (0 : Int32) := by rw [fX5_execute, if_pos c1, if_neg c2, if_pos c3]
      have e14 : (fX5_execute__r_length r_length r_choices xS t_most i_bits i_rd i_rs1 i_rs2) = (fX5_grant__r_length r_length r_choices t_most (fX8_scalar xS i_rs2) (fX5_lengthInRegister xS i_rd i_rs1)) := by rw [fX5_execute__r_length, if_pos c1, if_neg c2, if_pos c3]
      have e15 : (fX5_execute__xS r_length r_choices xS t_most i_bits i_rd i_rs1 i_rs2) = (fX5_grant__xS r_length r_choices xS t_most i_rd (fX8_scalar xS i_rs2) (fX5_lengthInRegister xS i_rd i_rs1)) := by rw [fX5_execute__xS, if_pos c1, if_neg c2, if_pos c3]
      have e16 : (fX5_execute__t_bits xS t_bits t_most i_bits i_rd i_rs1 i_rs2) = (fX5_grant__t_bits t_most (fX8_scalar xS i_rs2) (fX5_lengthInRegister xS i_rd i_rs1)) := by rw [fX5_execute__t_bits, if_pos c1, if_neg c2, if_pos c3]
      have e17 : (fX5_execute__t_sew xS t_sew t_most i_bits i_rd i_rs1 i_rs2) = (fX5_grant__t_sew t_most (fX8_scalar xS i_rs2) (fX5_lengthInRegister xS i_rd i_rs1)) := by rw [fX5_execute__t_sew, if_pos c1, if_neg c2, if_pos c3]
      have e18 : (fX5_execute__t_eighths xS t_eighths t_most i_bits i_rd i_rs1 i_rs2) = (fX5_grant__t_eighths t_most (fX8_scalar xS i_rs2) (fX5_lengthInRegister xS i_rd i_rs1)) := by rw [fX5_execute__t_eighths, if_pos c1, if_neg c2, if_pos c3]
      have e19 : (fX5_execute__t_most xS t_most i_bits i_rd i_rs1 i_rs2) = (fX5_grant__t_most t_most (fX8_scalar xS i_rs2) (fX5_lengthInRegister xS i_rd i_rs1)) := by rw [fX5_execute__t_most, if_pos c1, if_neg c2, if_pos c3]
      have e20 : (fX5_execute__t_tailOpen xS t_most t_tailOpen i_bits i_rd i_rs1 i_rs2) = (fX5_grant__t_tailOpen t_most (fX8_scalar xS i_rs2) (fX5_lengthInRegister xS i_rd i_rs1)) := by rw [fX5_execute__t_tailOpen, if_pos c1, if_neg c2, if_pos c3]
      have e21 : (fX5_execute__t_maskedOpen xS t_most t_maskedOpen i_bits i_rd i_rs1 i_rs2) = (fX5_grant__t_maskedOpen t_most (fX8_scalar xS i_rs2) (fX5_lengthInRegister xS i_rd i_rs1)) := by rw [fX5_execute__t_maskedOpen, if_pos c1, if_neg c2, if_pos c3]
      exact k_iret9 X hRt hLk e13.symm (by rw [e14, e15, e16, e17, e18, e19, e20, e21]) dX5_execute_107
    refine k_iconst X dX5_execute_108 kc_i_1 rfl ?_
    have e22 : (fX5_execute i_bits) = (1 : Int32) := by rw [fX5_execute, if_pos c1, if_neg c2, if_neg c3]
    have e23 : (fX5_execute__r_length r_length r_choices xS t_most i_bits i_rd i_rs1 i_rs2) = r_length := by rw [fX5_execute__r_length, if_pos c1, if_neg c2, if_neg c3]
    have e24 : (fX5_execute__xS r_length r_choices xS t_most i_bits i_rd i_rs1 i_rs2) = xS := by rw [fX5_execute__xS, if_pos c1, if_neg c2, if_neg c3]
    have e25 : (fX5_execute__t_bits xS t_bits t_most i_bits i_rd i_rs1 i_rs2) = t_bits := by rw [fX5_execute__t_bits, if_pos c1, if_neg c2, if_neg c3]
    have e26 : (fX5_execute__t_sew xS t_sew t_most i_bits i_rd i_rs1 i_rs2) = t_sew := by rw [fX5_execute__t_sew, if_pos c1, if_neg c2, if_neg c3]
    have e27 : (fX5_execute__t_eighths xS t_eighths t_most i_bits i_rd i_rs1 i_rs2) = t_eighths := by rw [fX5_execute__t_eighths, if_pos c1, if_neg c2, if_neg c3]
    have e28 : (fX5_execute__t_most xS t_most i_bits i_rd i_rs1 i_rs2) = t_most := by rw [fX5_execute__t_most, if_pos c1, if_neg c2, if_neg c3]
    have e29 : (fX5_execute__t_tailOpen xS t_most t_tailOpen i_bits i_rd i_rs1 i_rs2) = t_tailOpen := by rw [fX5_execute__t_tailOpen, if_pos c1, if_neg c2, if_neg c3]
    have e30 : (fX5_execute__t_maskedOpen xS t_most t_maskedOpen i_bits i_rd i_rs1 i_rs2) = t_maskedOpen := by rw [fX5_execute__t_maskedOpen, if_pos c1, if_neg c2, if_neg c3]
    exact k_iret9 X hRt hLk e22.symm (by rw [e23, e24, e25, e26, e27, e28, e29, e30]) dX5_execute_109
  refine k_aload_n X dX5_execute_7 rfl 0 rfl rfl ?_
  refine k_aload_n X dX5_execute_8 rfl 1 rfl rfl ?_
  refine k_get X i_wsX30 4 3 q14_0 rfl rfl rfl rfl rfl dX5_execute_9 rfl ?_
  refine k_aload_n X dX5_execute_12 rfl 1 rfl rfl ?_
  refine k_get X i_wsX30 4 0 q13_23 rfl rfl rfl rfl rfl dX5_execute_13 rfl ?_
  refine k_bipush X dX5_execute_16 kc_b_20 rfl ?_
  refine k_iushr X dX5_execute_18 rfl ?_
  refine k_sipush X dX5_execute_19 kc_s_2047 rfl ?_
  refine k_iand X dX5_execute_22 rfl ?_
  refine k_aload_n X dX5_execute_23 rfl 0 rfl rfl ?_
  refine k_aload_n X dX5_execute_24 rfl 1 rfl rfl ?_
  refine k_cV1 (st := [.int ((sru i_bits (20 : Int32)) &&& (2047 : Int32)), .int i_rd, .ref b_u]) (ws' := [(b_u, .inr (4, [.ref b_r])), (b_r, .inr (7, [.ref b_xS, .ref r_vectors, .ref b_t, .int r_length, .int r_start, .int r_rounding, .int r_saturated, .long r_choices])), (b_xS, .inl (kI, 32, .inl xS)), (b_t, .inr (8, [.int t_bits, .int t_sew, .int t_eighths, .int t_most, .int t_tailOpen, .int t_maskedOpen])), (b_i, .inr (2, [.int i_bits, .int i_code, .int i_form, .int i_rd, .int i_rs1, .int i_rs2, .int i_high, .int i_masked]))]) (wr := [(b_t, .inr (8, [.int t_bits, .int t_sew, .int t_eighths, .int t_most, .int t_tailOpen, .int t_maskedOpen]))]) (ci := 4) (q9 := 0) X [.ref b_i] 3 [0, 1, 2, 4] [3] [1, 2, 3, 0, 4] (kX5_lengthInRegister l D kI kZ b_u b_r b_xS b_i r_vectors b_t r_length r_start r_rounding r_saturated r_choices xS i_bits i_code i_form i_rd i_rs1 i_rs2 i_high i_masked (hok.2.2.2.2.1 c1)) vX5_lengthInRegister q14_3 dX5_execute_25 rfl rfl rfl rfl rfl rfl rfl rfl rfl rfl rfl rfl rfl rfl rfl ?_
  refine k_cV0 (st := []) (ws' := [(b_u, .inr (4, [.ref b_r])), (b_r, .inr (7, [.ref b_xS, .ref r_vectors, .ref b_t, .int (fX5_grant__r_length r_length r_choices t_most ((sru i_bits (20 : Int32)) &&& (2047 : Int32)) (fX5_lengthInRegister xS i_rd i_rs1)), .int r_start, .int r_rounding, .int r_saturated, .long r_choices])), (b_xS, .inl (kI, 32, .inl (fX5_grant__xS r_length r_choices xS t_most i_rd ((sru i_bits (20 : Int32)) &&& (2047 : Int32)) (fX5_lengthInRegister xS i_rd i_rs1)))), (b_t, .inr (8, [.int (fX5_grant__t_bits t_most ((sru i_bits (20 : Int32)) &&& (2047 : Int32)) (fX5_lengthInRegister xS i_rd i_rs1)), .int (fX5_grant__t_sew t_most ((sru i_bits (20 : Int32)) &&& (2047 : Int32)) (fX5_lengthInRegister xS i_rd i_rs1)), .int (fX5_grant__t_eighths t_most ((sru i_bits (20 : Int32)) &&& (2047 : Int32)) (fX5_lengthInRegister xS i_rd i_rs1)), .int (fX5_grant__t_most t_most ((sru i_bits (20 : Int32)) &&& (2047 : Int32)) (fX5_lengthInRegister xS i_rd i_rs1)), .int (fX5_grant__t_tailOpen t_most ((sru i_bits (20 : Int32)) &&& (2047 : Int32)) (fX5_lengthInRegister xS i_rd i_rs1)), .int (fX5_grant__t_maskedOpen t_most ((sru i_bits (20 : Int32)) &&& (2047 : Int32)) (fX5_lengthInRegister xS i_rd i_rs1))])), (b_i, .inr (2, [.int i_bits, .int i_code, .int i_form, .int i_rd, .int i_rs1, .int i_rs2, .int i_high, .int i_masked]))]) (wr := [(b_i, .inr (2, [.int i_bits, .int i_code, .int i_form, .int i_rd, .int i_rs1, .int i_rs2, .int i_high, .int i_masked]))]) (ci := 4) (q9 := 0) X [.int i_rd, .int ((sru i_bits (20 : Int32)) &&& (2047 : Int32)), .long (fX5_lengthInRegister xS i_rd i_rs1)] 0 [0, 1, 2, 3] [4] [1, 2, 3, 4, 0] (kX5_grant l D kI kZ b_u b_r b_xS b_t r_vectors r_length r_start r_rounding r_saturated r_choices xS t_bits t_sew t_eighths t_most t_tailOpen t_maskedOpen i_rd ((sru i_bits (20 : Int32)) &&& (2047 : Int32)) (fX5_lengthInRegister xS i_rd i_rs1) (hok.2.2.2.2.2 c1)) vX5_grant q14_10 dX5_execute_28 rfl rfl rfl rfl rfl rfl rfl rfl rfl rfl rfl rfl rfl rfl rfl ?_
  refine k_iconst X dX5_execute_31 kc_i_0 rfl ?_
  have e31 : (fX5_execute i_bits) = (0 : Int32) := by rw [fX5_execute, if_neg c1]
  have e32 : (fX5_execute__r_length r_length r_choices xS t_most i_bits i_rd i_rs1 i_rs2) = (fX5_grant__r_length r_length r_choices t_most ((sru i_bits (20 : Int32)) &&& (2047 : Int32)) (fX5_lengthInRegister xS i_rd i_rs1)) := by rw [fX5_execute__r_length, if_neg c1]
  have e33 : (fX5_execute__xS r_length r_choices xS t_most i_bits i_rd i_rs1 i_rs2) = (fX5_grant__xS r_length r_choices xS t_most i_rd ((sru i_bits (20 : Int32)) &&& (2047 : Int32)) (fX5_lengthInRegister xS i_rd i_rs1)) := by rw [fX5_execute__xS, if_neg c1]
  have e34 : (fX5_execute__t_bits xS t_bits t_most i_bits i_rd i_rs1 i_rs2) = (fX5_grant__t_bits t_most ((sru i_bits (20 : Int32)) &&& (2047 : Int32)) (fX5_lengthInRegister xS i_rd i_rs1)) := by rw [fX5_execute__t_bits, if_neg c1]
  have e35 : (fX5_execute__t_sew xS t_sew t_most i_bits i_rd i_rs1 i_rs2) = (fX5_grant__t_sew t_most ((sru i_bits (20 : Int32)) &&& (2047 : Int32)) (fX5_lengthInRegister xS i_rd i_rs1)) := by rw [fX5_execute__t_sew, if_neg c1]
  have e36 : (fX5_execute__t_eighths xS t_eighths t_most i_bits i_rd i_rs1 i_rs2) = (fX5_grant__t_eighths t_most ((sru i_bits (20 : Int32)) &&& (2047 : Int32)) (fX5_lengthInRegister xS i_rd i_rs1)) := by rw [fX5_execute__t_eighths, if_neg c1]
  have e37 : (fX5_execute__t_most xS t_most i_bits i_rd i_rs1 i_rs2) = (fX5_grant__t_most t_most ((sru i_bits (20 : Int32)) &&& (2047 : Int32)) (fX5_lengthInRegister xS i_rd i_rs1)) := by rw [fX5_execute__t_most, if_neg c1]
  have e38 : (fX5_execute__t_tailOpen xS t_most t_tailOpen i_bits i_rd i_rs1 i_rs2) = (fX5_grant__t_tailOpen t_most ((sru i_bits (20 : Int32)) &&& (2047 : Int32)) (fX5_lengthInRegister xS i_rd i_rs1)) := by rw [fX5_execute__t_tailOpen, if_neg c1]
  have e39 : (fX5_execute__t_maskedOpen xS t_most t_maskedOpen i_bits i_rd i_rs1 i_rs2) = (fX5_grant__t_maskedOpen t_most ((sru i_bits (20 : Int32)) &&& (2047 : Int32)) (fX5_lengthInRegister xS i_rd i_rs1)) := by rw [fX5_execute__t_maskedOpen, if_neg c1]
  exact k_iret9 X hRt hLk e31.symm (by rw [e32, e33, e34, e35, e36, e37, e38, e39]) dX5_execute_32
theorem vX5_execute : kVi yX5_execute cX5_execute 2 (some .int) 1 := ⟨q13_22, q2_4, q13_20, q13_21, by decide, by decide +kernel⟩
