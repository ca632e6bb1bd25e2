noncomputable def fX10_ones (u0 : Int32) : Int64 := ((lshl (1 : Int64) u0) - (1 : Int64))
set_option maxRecDepth 100000 in
set_option maxHeartbeats 4000000 in
theorem kX10_ones (l : Launch) (D : va_G) (kI kZ : ClassId) (u0 : Int32) : kM l yX10_ones cX10_ones 1 (some .long) 0 0 0 0 D [(kI, .int), (kZ, .boolean)] [.int u0] [] (some (.long (fX10_ones u0))) [] := by
  refine kM.of (by decide) rfl ?_
  intro p e R s m args below meth c A X _ _ hRt hLk
  refine k_sub [0] (lv' := [(0, .int u0)]) rfl ?_
  refine k_lconst (v := (1 : Int64)) X dX10_ones_0 rfl rfl ?_
  refine k_iload_n X dX10_ones_1 rfl 0 rfl rfl ?_
  refine k_lshl X dX10_ones_2 rfl ?_
  refine k_lconst (v := (1 : Int64)) X dX10_ones_3 rfl rfl ?_
  refine k_lsub X dX10_ones_4 rfl ?_
  have e1 : (fX10_ones u0) = ((lshl (1 : Int64) u0) - (1 : Int64)) := by rw [fX10_ones]
  exact k_lret9 X hRt hLk e1.symm rfl dX10_ones_5
theorem vX10_ones : kSt yX10_ones cX10_ones 1 (some .long) 1 := ⟨q8_21, q1_2, q8_20, by decide, by decide +kernel⟩
noncomputable def fX10_signed (u0 : Int64) (u2 : Int32) : Int64 := (lshr (lshl u0 ((64 : Int32) - u2)) ((64 : Int32) - u2))
set_option maxRecDepth 100000 in
set_option maxHeartbeats 4000000 in
theorem kX10_signed (l : Launch) (D : va_G) (kI kZ : ClassId) (u0 : Int64) (u2 : Int32) : kM l yX10_signed cX10_signed 3 (some .long) 0 0 0 0 D [(kI, .int), (kZ, .boolean)] [.long u0, .int u2] [] (some (.long (fX10_signed u0 u2))) [] := by
  refine kM.of (by decide) rfl ?_
  intro p e R s m args below meth c A X _ _ hRt hLk
  refine k_sub [0, 1] (lv' := [(0, .long u0), (2, .int u2)]) rfl ?_
  refine k_lload_n X dX10_signed_0 rfl 0 rfl rfl ?_
  refine k_bipush X dX10_signed_1 kc_b_64 rfl ?_
  refine k_iload_n X dX10_signed_3 rfl 1 rfl rfl ?_
  refine k_isub X dX10_signed_4 rfl ?_
  refine k_lshl X dX10_signed_5 rfl ?_
  refine k_bipush X dX10_signed_6 kc_b_64 rfl ?_
  refine k_iload_n X dX10_signed_8 rfl 1 rfl rfl ?_
  refine k_isub X dX10_signed_9 rfl ?_
  refine k_lshr X dX10_signed_10 rfl ?_
  have e1 : (fX10_signed u0 u2) = (lshr (lshl u0 ((64 : Int32) - u2)) ((64 : Int32) - u2)) := by rw [fX10_signed]
  exact k_lret9 X hRt hLk e1.symm rfl dX10_signed_11
theorem vX10_signed : kSt yX10_signed cX10_signed 3 (some .long) 2 := ⟨q19_7, q1_2, q19_6, by decide, by decide +kernel⟩
noncomputable def pX0_bit_9_S1 (u0 : Int32) : Int64 := (if u0 = (0 : Int32) then (0 : Int64) else (1 : Int64))
noncomputable def fX0_bit (u0 : Int32) : Int64 := (pX0_bit_9_S1 u0)
set_option maxRecDepth 100000 in
set_option maxHeartbeats 4000000 in
theorem kX0_bit (l : Launch) (D : va_G) (kI kZ : ClassId) (u0 : Int32) : kM l yX0_bit cX0_bit 1 (some .long) 0 0 0 0 D [(kI, .int), (kZ, .boolean)] [.int u0] [] (some (.long (fX0_bit u0))) [] := by
  refine kM.of (by decide) rfl ?_
  intro p e R s m args below meth c A X _ _ hRt hLk
  refine k_sub [0] (lv' := [(0, .int u0)]) rfl ?_
  refine k_iload_n X dX0_bit_0 rfl 0 rfl rfl ?_
  refine k_mid2 [] [(0, .int u0)] [.long (pX0_bit_9_S1 u0)] 9 (fun hJ2 => ?_) ?_
  · skip
    refine k_if_eq (tgt := 8) X dX0_bit_1 (by decide) rfl (fun c1 => ?_) (fun c1 => ?_)
    · skip
      refine k_lconst (v := (0 : Int64)) X dX0_bit_8 rfl rfl ?_
      have e3 : (pX0_bit_9_S1 u0) = (0 : Int64) := by rw [pX0_bit_9_S1, if_pos c1]
      rw [e3] at hJ2
      exact k_sub [0] rfl hJ2
    refine k_lconst (v := (1 : Int64)) X dX0_bit_4 rfl rfl ?_
    refine k_goto (tgt := 9) X dX0_bit_5 (by decide) ?_
    have e4 : (pX0_bit_9_S1 u0) = (1 : Int64) := by rw [pX0_bit_9_S1, if_neg c1]
    rw [e4] at hJ2
    exact k_sub [0] rfl hJ2
  have e5 : (fX0_bit u0) = (pX0_bit_9_S1 u0) := by rw [fX0_bit]
  exact k_lret9 X hRt hLk e5.symm rfl dX0_bit_9
theorem vX0_bit : kSt yX0_bit cX0_bit 1 (some .long) 1 := ⟨q23_13, q4_3, q23_12, by decide, by decide +kernel⟩
noncomputable def fX0_setWidth__a_sew (u1 : Int32) : Int32 := u1
noncomputable def fX0_setWidth__a_greatest (u1 : Int32) : Int64 := (fX10_ones u1)
noncomputable def fX0_setWidth__a_greatestSigned (u1 : Int32) : Int64 := (lshr (fX10_ones u1) (1 : Int32))
noncomputable def fX0_setWidth__a_leastSigned (u1 : Int32) : Int64 := ((-(lshr (fX10_ones u1) (1 : Int32))) - (1 : Int64))
set_option maxRecDepth 100000 in
set_option maxHeartbeats 4000000 in
theorem kX0_setWidth (l : Launch) (D : va_G) (kI kZ : ClassId) (b_a : Nat) (b_r : Nat) (a_sew : Int32) (a_greatest : Int64) (a_greatestSigned : Int64) (a_leastSigned : Int64) (r_scalars : Nat) (r_vectors : Nat) (r_type : Nat) (r_length : Int32) (r_start : Int32) (r_rounding : Int32) (r_saturated : Int32) (r_choices : Int64) (u1 : Int32) : kM l yX0_setWidth cX0_setWidth 2 none 1 13 0 0 D [(kI, .int), (kZ, .boolean)] [.ref b_a, .int u1] [(b_a, .inr (0, [.ref b_r, .int a_sew, .long a_greatest, .long a_greatestSigned, .long a_leastSigned])), (b_r, .inr (7, [.ref r_scalars, .ref r_vectors, .ref r_type, .int r_length, .int r_start, .int r_rounding, .int r_saturated, .long r_choices]))] none [(b_a, .inr (0, [.ref b_r, .int (fX0_setWidth__a_sew u1), .long (fX0_setWidth__a_greatest u1), .long (fX0_setWidth__a_greatestSigned u1), .long (fX0_setWidth__a_leastSigned u1)])), (b_r, .inr (7, [.ref r_scalars, .ref r_vectors, .ref r_type, .int r_length, .int r_start, .int r_rounding, .int r_saturated, .long r_choices]))] := by
  refine kM.of (by decide) rfl ?_
  intro p e R s m args below meth c A X _ _ hRt hLk
  refine k_sub [0, 1] (lv' := [(0, .ref b_a), (1, .int u1)]) rfl ?_
  refine k_aload_n X dX0_setWidth_0 rfl 0 rfl rfl ?_
  refine k_iload_n X dX0_setWidth_1 rfl 1 rfl rfl ?_
  refine k_put (ws' := [(b_a, .inr (0, [.ref b_r, .int u1, .long a_greatest, .long a_greatestSigned, .long a_leastSigned])), (b_r, .inr (7, [.ref r_scalars, .ref r_vectors, .ref r_type, .int r_length, .int r_start, .int r_rounding, .int r_saturated, .long r_choices]))]) X i_wsX00 tyX0 tyX0_ok nmX0 0 1 q19_1 rfl rfl rfl rfl rfl rfl rfl rfl rfl dX0_setWidth_2 rfl ?_
  refine k_aload_n X dX0_setWidth_5 rfl 0 rfl rfl ?_
  refine k_iload_n X dX0_setWidth_6 rfl 1 rfl rfl ?_
  refine k_cN1 (st := [.ref b_a]) (ws' := [(b_a, .inr (0, [.ref b_r, .int u1, .long a_greatest, .long a_greatestSigned, .long a_leastSigned])), (b_r, .inr (7, [.ref r_scalars, .ref r_vectors, .ref r_type, .int r_length, .int r_start, .int r_rounding, .int r_saturated, .long r_choices]))]) (wr := [(b_a, .inr (0, [.ref b_r, .int u1, .long a_greatest, .long a_greatestSigned, .long a_leastSigned])), (b_r, .inr (7, [.ref r_scalars, .ref r_vectors, .ref r_type, .int r_length, .int r_start, .int r_rounding, .int r_saturated, .long r_choices]))]) X [.int u1] 1 [] [0, 1] [0, 1] (kX10_ones l D kI kZ u1) vX10_ones X.2.1.2.1.1 dX0_setWidth_7 rfl rfl rfl rfl rfl rfl rfl rfl rfl rfl rfl rfl rfl ?_
  refine k_put (ws' := [(b_a, .inr (0, [.ref b_r, .int u1, .long (fX10_ones u1), .long a_greatestSigned, .long a_leastSigned])), (b_r, .inr (7, [.ref r_scalars, .ref r_vectors, .ref r_type, .int r_length, .int r_start, .int r_rounding, .int r_saturated, .long r_choices]))]) X i_wsX00 tyX0 tyX0_ok nmX0 0 2 q19_2 rfl rfl rfl rfl rfl rfl rfl rfl rfl dX0_setWidth_10 rfl ?_
  refine k_aload_n X dX0_setWidth_13 rfl 0 rfl rfl ?_
  refine k_aload_n X dX0_setWidth_14 rfl 0 rfl rfl ?_
  refine k_get X i_wsX00 0 2 q19_2 rfl rfl rfl rfl rfl dX0_setWidth_15 rfl ?_
  refine k_iconst X dX0_setWidth_18 kc_i_1 rfl ?_
  refine k_lshr X dX0_setWidth_19 rfl ?_
  refine k_put (ws' := [(b_a, .inr (0, [.ref b_r, .int u1, .long (fX10_ones u1), .long (lshr (fX10_ones u1) (1 : Int32)), .long a_leastSigned])), (b_r, .inr (7, [.ref r_scalars, .ref r_vectors, .ref r_type, .int r_length, .int r_start, .int r_rounding, .int r_saturated, .long r_choices]))]) X i_wsX00 tyX0 tyX0_ok nmX0 0 3 q19_3 rfl rfl rfl rfl rfl rfl rfl rfl rfl dX0_setWidth_20 rfl ?_
  refine k_aload_n X dX0_setWidth_23 rfl 0 rfl rfl ?_
  refine k_aload_n X dX0_setWidth_24 rfl 0 rfl rfl ?_
  refine k_get X i_wsX00 0 3 q19_3 rfl rfl rfl rfl rfl dX0_setWidth_25 rfl ?_
  refine k_lneg X dX0_setWidth_28 rfl ?_
  refine k_lconst (v := (1 : Int64)) X dX0_setWidth_29 rfl rfl ?_
  refine k_lsub X dX0_setWidth_30 rfl ?_
  refine k_put (ws' := [(b_a, .inr (0, [.ref b_r, .int u1, .long (fX10_ones u1), .long (lshr (fX10_ones u1) (1 : Int32)), .long ((-(lshr (fX10_ones u1) (1 : Int32))) - (1 : Int64))])), (b_r, .inr (7, [.ref r_scalars, .ref r_vectors, .ref r_type, .int r_length, .int r_start, .int r_rounding, .int r_saturated, .long r_choices]))]) X i_wsX00 tyX0 tyX0_ok nmX0 0 4 q19_4 rfl rfl rfl rfl rfl rfl rfl rfl rfl dX0_setWidth_31 rfl ?_
  have e1 : (fX0_setWidth__a_sew u1) = u1 := by rw [fX0_setWidth__a_sew]
  have e2 : (fX0_setWidth__a_greatest u1) = (fX10_ones u1) := by rw [fX0_setWidth__a_greatest]
  have e3 : (fX0_setWidth__a_greatestSigned u1) = (lshr (fX10_ones u1) (1 : Int32)) := by rw [fX0_setWidth__a_greatestSigned]
  have e4 : (fX0_setWidth__a_leastSigned u1) = ((-(lshr (fX10_ones u1) (1 : Int32))) - (1 : Int64)) := by rw [fX0_setWidth__a_leastSigned]
  exact k_vret X hRt hLk (by rw [e1, e2, e3, e4]) dX0_setWidth_34
theorem vX0_setWidth : kVi yX0_setWidth cX0_setWidth 2 none 1 := ⟨q19_0, q4_3, q18_22, q18_23, by decide, by decide +kernel⟩
noncomputable def pX0_clipped_35_S1 (u1 : Int64) (u3 : Int64) (u5 : Int64) : Int64 := (if u3 ≤ u1 then u5 else u3)
noncomputable def rX0_clipped_15 (u1 : Int64) (u3 : Int64) (u5 : Int64) : Int64 := (pX0_clipped_35_S1 u1 u3 u5)
noncomputable def fX0_clipped (u1 : Int64) (u3 : Int64) (u5 : Int64) : Int64 := (if u1 < u3 then (rX0_clipped_15 u1 u3 u5) else (if u5 < u1 then (rX0_clipped_15 u1 u3 u5) else u1))
noncomputable def rX0_clipped_15__r_saturated : Int32 := (1 : Int32)
noncomputable def fX0_clipped__r_saturated (r_saturated : Int32) (u1 : Int64) (u3 : Int64) (u5 : Int64) : Int32 := (if u1 < u3 then rX0_clipped_15__r_saturated else (if u5 < u1 then rX0_clipped_15__r_saturated else r_saturated))
set_option maxRecDepth 100000 in
set_option maxHeartbeats 4000000 in
theorem kX0_clipped (l : Launch) (D : va_G) (kI kZ : ClassId) (b_a : Nat) (b_r : Nat) (a_sew : Int32) (a_greatest : Int64) (a_greatestSigned : Int64) (a_leastSigned : Int64) (r_scalars : Nat) (r_vectors : Nat) (r_type : Nat) (r_length : Int32) (r_start : Int32) (r_rounding : Int32) (r_saturated : Int32) (r_choices : Int64) (u1 : Int64) (u3 : Int64) (u5 : Int64) : kM l yX0_clipped cX0_clipped 7 (some .long) 0 0 0 0 D [(kI, .int), (kZ, .boolean)] [.ref b_a, .long u1, .long u3, .long u5] [(b_a, .inr (0, [.ref b_r, .int a_sew, .long a_greatest, .long a_greatestSigned, .long a_leastSigned])), (b_r, .inr (7, [.ref r_scalars, .ref r_vectors, .ref r_type, .int r_length, .int r_start, .int r_rounding, .int r_saturated, .long r_choices]))] (some (.long (fX0_clipped u1 u3 u5))) [(b_a, .inr (0, [.ref b_r, .int a_sew, .long a_greatest, .long a_greatestSigned, .long a_leastSigned])), (b_r, .inr (7, [.ref r_scalars, .ref r_vectors, .ref r_type, .int r_length, .int r_start, .int r_rounding, .int (fX0_clipped__r_saturated r_saturated u1 u3 u5), .long r_choices]))] := by
  refine kM.of (by decide) rfl ?_
  intro p e R s m args below meth c A X _ _ hRt hLk
  refine k_sub [0, 1, 2, 3] (lv' := [(0, .ref b_a), (1, .long u1), (3, .long u3), (5, .long u5)]) rfl ?_
  refine k_lload_n X dX0_clipped_0 rfl 1 rfl rfl ?_
  refine k_lload_n X dX0_clipped_1 rfl 2 rfl rfl ?_
  refine k_midR (some (.long (rX0_clipped_15 u1 u3 u5))) [(b_a, .inr (0, [.ref b_r, .int a_sew, .long a_greatest, .long a_greatestSigned, .long a_leastSigned])), (b_r, .inr (7, [.ref r_scalars, .ref r_vectors, .ref r_type, .int r_length, .int r_start, .int r_rounding, .int rX0_clipped_15__r_saturated, .long r_choices]))] [(b_a, .inr (0, [.ref b_r, .int a_sew, .long a_greatest, .long a_greatestSigned, .long a_leastSigned])), (b_r, .inr (7, [.ref r_scalars, .ref r_vectors, .ref r_type, .int r_length, .int r_start, .int r_rounding, .int r_saturated, .long r_choices]))] [(0, .ref b_a), (1, .long u1), (3, .long u3), (5, .long u5)] [] 15 (fun hJ3 => ?_) ?_
  · skip
    refine k_lcmp_lt (tgt := 15) X dX0_clipped_2 rfl dX0_clipped_3 (by decide) rfl (fun c1 => ?_) (fun c1 => ?_)
    · skip
      have e6 : (fX0_clipped u1 u3 u5) = (rX0_clipped_15 u1 u3 u5) := by rw [fX0_clipped, if_pos c1]
      have e7 : (fX0_clipped__r_saturated r_saturated u1 u3 u5) = rX0_clipped_15__r_saturated := by rw [fX0_clipped__r_saturated, if_pos c1]
      rw [e6, e7]
      exact k_sub [0, 1, 2, 3] rfl hJ3
    refine k_lload_n X dX0_clipped_6 rfl 1 rfl rfl ?_
    refine k_lload X dX0_clipped_7 3 rfl rfl ?_
    refine k_lcmp_gt (tgt := 15) X dX0_clipped_9 rfl dX0_clipped_10 (by decide) rfl (fun c2 => ?_) (fun c2 => ?_)
    · skip
      have e8 : (fX0_clipped u1 u3 u5) = (rX0_clipped_15 u1 u3 u5) := by rw [fX0_clipped, if_neg c1, if_pos c2]
      have e9 : (fX0_clipped__r_saturated r_saturated u1 u3 u5) = rX0_clipped_15__r_saturated := by rw [fX0_clipped__r_saturated, if_neg c1, if_pos c2]
      rw [e8, e9]
      exact k_sub [0, 1, 2, 3] rfl hJ3
    refine k_lload_n X dX0_clipped_13 rfl 1 rfl rfl ?_
    have e10 : (fX0_clipped u1 u3 u5) = u1 := by rw [fX0_clipped, if_neg c1, if_neg c2]
    have e11 : (fX0_clipped__r_saturated r_saturated u1 u3 u5) = r_saturated := by rw [fX0_clipped__r_saturated, if_neg c1, if_neg c2]
    exact k_lret9 X hRt hLk e10.symm (by rw [e11]) dX0_clipped_14
  refine k_aload_n X dX0_clipped_15 rfl 0 rfl rfl ?_
  refine k_get X i_wsX00 0 0 q4_16 rfl rfl rfl rfl rfl dX0_clipped_16 rfl ?_
  refine k_iconst X dX0_clipped_19 kc_i_1 rfl ?_
  refine k_put (ws' := [(b_a, .inr (0, [.ref b_r, .int a_sew, .long a_greatest, .long a_greatestSigned, .long a_leastSigned])), (b_r, .inr (7, [.ref r_scalars, .ref r_vectors, .ref r_type, .int r_length, .int r_start, .int r_rounding, .int (1 : Int32), .long r_choices]))]) X i_wsX80 tyX8 tyX8_ok nmX8 1 6 q25_4 rfl rfl rfl rfl rfl rfl rfl rfl rfl dX0_clipped_20 rfl ?_
  refine k_lload_n X dX0_clipped_23 rfl 1 rfl rfl ?_
  refine k_lload_n X dX0_clipped_24 rfl 2 rfl rfl ?_
  refine k_mid2 [(b_a, .inr (0, [.ref b_r, .int a_sew, .long a_greatest, .long a_greatestSigned, .long a_leastSigned])), (b_r, .inr (7, [.ref r_scalars, .ref r_vectors, .ref r_type, .int r_length, .int r_start, .int r_rounding, .int (1 : Int32), .long r_choices]))] [(0, .ref b_a), (1, .long u1), (3, .long u3), (5, .long u5)] [.long (pX0_clipped_35_S1 u1 u3 u5)] 35 (fun hJ5 => ?_) ?_
  · skip
    refine k_lcmp_ge (tgt := 33) X dX0_clipped_25 rfl dX0_clipped_26 (by decide) rfl (fun c4 => ?_) (fun c4 => ?_)
    · skip
      refine k_lload X dX0_clipped_33 3 rfl rfl ?_
      have e12 : (pX0_clipped_35_S1 u1 u3 u5) = u5 := by rw [pX0_clipped_35_S1, if_pos c4]
      rw [e12] at hJ5
      exact k_sub [0, 1, 2, 3] rfl hJ5
    refine k_lload_n X dX0_clipped_29 rfl 2 rfl rfl ?_
    refine k_goto (tgt := 35) X dX0_clipped_30 (by decide) ?_
    have e13 : (pX0_clipped_35_S1 u1 u3 u5) = u3 := by rw [pX0_clipped_35_S1, if_neg c4]
    rw [e13] at hJ5
    exact k_sub [0, 1, 2, 3] rfl hJ5
  have e14 : (rX0_clipped_15 u1 u3 u5) = (pX0_clipped_35_S1 u1 u3 u5) := by rw [rX0_clipped_15]
  have e15 : rX0_clipped_15__r_saturated = (1 : Int32) := by rw [rX0_clipped_15__r_saturated]
  exact k_lret9 X hRt hLk e14.symm (by rw [e15]) dX0_clipped_35
theorem vX0_clipped : kVi yX0_clipped cX0_clipped 7 (some .long) 3 := ⟨q25_3, q4_3, q25_1, q25_2, by decide, by decide +kernel⟩
noncomputable def eX0_rounded_29 (u1 : Int64) (u3 : Int32) : Int64 := (u1 &&& (((2 : Int64) * (lshl (1 : Int64) (u3 - (1 : Int32)))) - (1 : Int64)))
noncomputable def pX0_rounded_85_S1 (u1 : Int64) (u3 : Int32) : Int64 := (if (eX0_rounded_29 u1 u3) < (lshl (1 : Int64) (u3 - (1 : Int32))) then (lshr u1 u3) else ((lshr u1 u3) + (1 : Int64)))
noncomputable def pX0_rounded_120_S1 (u1 : Int64) (u3 : Int32) : Int64 := (if (lshl (1 : Int64) (u3 - (1 : Int32))) < (eX0_rounded_29 u1 u3) then ((lshr u1 u3) + (1 : Int64)) else (if (eX0_rounded_29 u1 u3) = (lshl (1 : Int64) (u3 - (1 : Int32))) then (if ((lshr u1 u3) &&& (1 : Int64)) = (1 : Int64) then ((lshr u1 u3) + (1 : Int64)) else (lshr u1 u3)) else (lshr u1 u3)))
noncomputable def pX0_rounded_137_S1 (u1 : Int64) (u3 : Int32) : Int64 := (if (eX0_rounded_29 u1 u3) = (0 : Int64) then (lshr u1 u3) else ((lshr u1 u3) ||| (1 : Int64)))
noncomputable def fX0_rounded (r_rounding : Int32) (u1 : Int64) (u3 : Int32) : Int64 := (if (1 : Int32) ≤ u3 then (if r_rounding = (0 : Int32) then (pX0_rounded_85_S1 u1 u3) else (if r_rounding = (1 : Int32) then (pX0_rounded_120_S1 u1 u3) else (if r_rounding = (3 : Int32) then (pX0_rounded_137_S1 u1 u3) else (lshr u1 u3)))) else u1)
set_option maxRecDepth 100000 in
set_option maxHeartbeats 4000000 in
theorem kX0_rounded (l : Launch) (D : va_G) (kI kZ : ClassId) (b_a : Nat) (b_r : Nat) (a_sew : Int32) (a_greatest : Int64) (a_greatestSigned : Int64) (a_leastSigned : Int64) (r_scalars : Nat) (r_vectors : Nat) (r_type : Nat) (r_length : Int32) (r_start : Int32) (r_rounding : Int32) (r_saturated : Int32) (r_choices : Int64) (u1 : Int64) (u3 : Int32) : kM l yX0_rounded cX0_rounded 10 (some .long) 0 0 0 0 D [(kI, .int), (kZ, .boolean)] [.ref b_a, .long u1, .int u3] [(b_a, .inr (0, [.ref b_r, .int a_sew, .long a_greatest, .long a_greatestSigned, .long a_leastSigned])), (b_r, .inr (7, [.ref r_scalars, .ref r_vectors, .ref r_type, .int r_length, .int r_start, .int r_rounding, .int r_saturated, .long r_choices]))] (some (.long (fX0_rounded r_rounding u1 u3))) [(b_a, .inr (0, [.ref b_r, .int a_sew, .long a_greatest, .long a_greatestSigned, .long a_leastSigned])), (b_r, .inr (7, [.ref r_scalars, .ref r_vectors, .ref r_type, .int r_length, .int r_start, .int r_rounding, .int r_saturated, .long r_choices]))] := by
  refine kM.of (by decide) rfl ?_
  intro p e R s m args below meth c A X _ _ hRt hLk
  refine k_sub [0, 1, 2] (lv' := [(0, .ref b_a), (1, .long u1), (3, .int u3)]) rfl ?_
  refine k_iload_n X dX0_rounded_0 rfl 2 rfl rfl ?_
  refine k_iconst X dX0_rounded_1 kc_i_1 rfl ?_
  refine k_icmp_ge (tgt := 7) X dX0_rounded_2 (by decide) rfl (fun c1 => ?_) (fun c1 => ?_)
  · skip
    refine k_lconst (v := (1 : Int64)) X dX0_rounded_7 rfl rfl ?_
    refine k_iload_n X dX0_rounded_8 rfl 2 rfl rfl ?_
    refine k_iconst X dX0_rounded_9 kc_i_1 rfl ?_
    refine k_isub X dX0_rounded_10 rfl ?_
    refine k_lshl X dX0_rounded_11 rfl ?_
    refine k_lstore (lv' := [(4, .long (lshl (1 : Int64) (u3 - (1 : Int32)))), (0, .ref b_a), (1, .long u1), (3, .int u3)]) X dX0_rounded_12 rfl rfl rfl ?_
    refine k_lload_n X dX0_rounded_14 rfl 2 rfl rfl ?_
    refine k_iload_n X dX0_rounded_15 rfl 3 rfl rfl ?_
    refine k_lshr X dX0_rounded_16 rfl ?_
    refine k_lstore (lv' := [(6, .long (lshr u1 u3)), (4, .long (lshl (1 : Int64) (u3 - (1 : Int32)))), (0, .ref b_a), (1, .long u1), (3, .int u3)]) X dX0_rounded_17 rfl rfl rfl ?_
    refine k_lload_n X dX0_rounded_19 rfl 3 rfl rfl ?_
    refine k_ldc2 X q25_9 dX0_rounded_20 rfl ?_
    refine k_lload X dX0_rounded_23 1 rfl rfl ?_
    refine k_lmul X dX0_rounded_25 rfl ?_
    refine k_lconst (v := (1 : Int64)) X dX0_rounded_26 rfl rfl ?_
    refine k_lsub X dX0_rounded_27 rfl ?_
    refine k_land X dX0_rounded_28 rfl ?_
    refine k_foldl (v := (eX0_rounded_29 u1 u3)) rfl ?_
    refine k_lstore (lv' := [(8, .long (eX0_rounded_29 u1 u3)), (6, .long (lshr u1 u3)), (4, .long (lshl (1 : Int64) (u3 - (1 : Int32)))), (0, .ref b_a), (1, .long u1), (3, .int u3)]) X dX0_rounded_29 rfl rfl rfl ?_
    refine k_aload_n X dX0_rounded_31 rfl 3 rfl rfl ?_
    refine k_get X i_wsX00 0 0 q4_16 rfl rfl rfl rfl rfl dX0_rounded_32 rfl ?_
    refine k_get X i_wsX80 1 5 q25_10 rfl rfl rfl rfl rfl dX0_rounded_35 rfl ?_
    by_cases c2 : r_rounding = (0 : Int32)
    · refine k_tblIn (tgt := 68) X dX0_rounded_38 c2 (by decide) (by decide) rfl (by decide) ?_
      refine k_lload X dX0_rounded_68 0 rfl rfl ?_
      refine k_lload X dX0_rounded_70 2 rfl rfl ?_
      refine k_mid2 [(b_a, .inr (0, [.ref b_r, .int a_sew, .long a_greatest, .long a_greatestSigned, .long a_leastSigned])), (b_r, .inr (7, [.ref r_scalars, .ref r_vectors, .ref r_type, .int r_length, .int r_start, .int r_rounding, .int r_saturated, .long r_choices]))] [(0, .ref b_a), (1, .long u1), (3, .int u3), (4, .long (lshl (1 : Int64) (u3 - (1 : Int32)))), (6, .long (lshr u1 u3)), (8, .long (eX0_rounded_29 u1 u3))] [.long (pX0_rounded_85_S1 u1 u3)] 85 (fun hJ4 => ?_) ?_
      · skip
        refine k_lcmp_lt (tgt := 83) X dX0_rounded_72 rfl dX0_rounded_73 (by decide) rfl (fun c3 => ?_) (fun c3 => ?_)
        · skip
          refine k_lload X dX0_rounded_83 1 rfl rfl ?_
          have e13 : (pX0_rounded_85_S1 u1 u3) = (lshr u1 u3) := by rw [pX0_rounded_85_S1, if_pos c3]
          rw [e13] at hJ4
          exact k_sub [3, 4, 5, 2, 1, 0] rfl hJ4
        refine k_lload X dX0_rounded_76 1 rfl rfl ?_
        refine k_lconst (v := (1 : Int64)) X dX0_rounded_78 rfl rfl ?_
        refine k_ladd X dX0_rounded_79 rfl ?_
        refine k_goto (tgt := 85) X dX0_rounded_80 (by decide) ?_
        have e14 : (pX0_rounded_85_S1 u1 u3) = ((lshr u1 u3) + (1 : Int64)) := by rw [pX0_rounded_85_S1, if_neg c3]
        rw [e14] at hJ4
        exact k_sub [3, 4, 5, 2, 1, 0] rfl hJ4
      have e15 : (fX0_rounded r_rounding u1 u3) = (pX0_rounded_85_S1 u1 u3) := by rw [fX0_rounded, if_pos c1, if_pos c2]
      exact k_lret9 X hRt hLk e15.symm rfl dX0_rounded_85
    by_cases c5 : r_rounding = (1 : Int32)
    · refine k_tblIn (tgt := 86) X dX0_rounded_38 c5 (by decide) (by decide) rfl (by decide) ?_
      refine k_lload X dX0_rounded_86 0 rfl rfl ?_
      refine k_lload X dX0_rounded_88 2 rfl rfl ?_
      refine k_mid2 [(b_a, .inr (0, [.ref b_r, .int a_sew, .long a_greatest, .long a_greatestSigned, .long a_leastSigned])), (b_r, .inr (7, [.ref r_scalars, .ref r_vectors, .ref r_type, .int r_length, .int r_start, .int r_rounding, .int r_saturated, .long r_choices]))] [(0, .ref b_a), (1, .long u1), (3, .int u3), (4, .long (lshl (1 : Int64) (u3 - (1 : Int32)))), (6, .long (lshr u1 u3)), (8, .long (eX0_rounded_29 u1 u3))] [.long (pX0_rounded_120_S1 u1 u3)] 120 (fun hJ9 => ?_) ?_
      · skip
        refine k_lcmp_gt (tgt := 111) X dX0_rounded_90 rfl dX0_rounded_91 (by decide) rfl (fun c6 => ?_) (fun c6 => ?_)
        · skip
          refine k_lload X dX0_rounded_111 1 rfl rfl ?_
          refine k_lconst (v := (1 : Int64)) X dX0_rounded_113 rfl rfl ?_
          refine k_ladd X dX0_rounded_114 rfl ?_
          refine k_goto (tgt := 120) X dX0_rounded_115 (by decide) ?_
          have e16 : (pX0_rounded_120_S1 u1 u3) = ((lshr u1 u3) + (1 : Int64)) := by rw [pX0_rounded_120_S1, if_pos c6]
          rw [e16] at hJ9
          exact k_sub [3, 4, 5, 2, 1, 0] rfl hJ9
        refine k_lload X dX0_rounded_94 0 rfl rfl ?_
        refine k_lload X dX0_rounded_96 2 rfl rfl ?_
        refine k_lcmp_ne (tgt := 118) X dX0_rounded_98 rfl dX0_rounded_99 (by decide) rfl (fun c7 => ?_) (fun c7 => ?_)
        · skip
          refine k_lload X dX0_rounded_102 1 rfl rfl ?_
          refine k_lconst (v := (1 : Int64)) X dX0_rounded_104 rfl rfl ?_
          refine k_land X dX0_rounded_105 rfl ?_
          refine k_lconst (v := (1 : Int64)) X dX0_rounded_106 rfl rfl ?_
          refine k_lcmp_ne (tgt := 118) X dX0_rounded_107 rfl dX0_rounded_108 (by decide) rfl (fun c8 => ?_) (fun c8 => ?_)
          · skip
            refine k_lload X dX0_rounded_111 1 rfl rfl ?_
            refine k_lconst (v := (1 : Int64)) X dX0_rounded_113 rfl rfl ?_
            refine k_ladd X dX0_rounded_114 rfl ?_
            refine k_goto (tgt := 120) X dX0_rounded_115 (by decide) ?_
            have e17 : (pX0_rounded_120_S1 u1 u3) = ((lshr u1 u3) + (1 : Int64)) := by rw [pX0_rounded_120_S1, if_neg c6, if_pos c7, if_pos c8]
            rw [e17] at hJ9
            exact k_sub [3, 4, 5, 2, 1, 0] rfl hJ9
          refine k_lload X dX0_rounded_118 1 rfl rfl ?_
          have e18 : (pX0_rounded_120_S1 u1 u3) = (lshr u1 u3) := by rw [pX0_rounded_120_S1, if_neg c6, if_pos c7, if_neg c8]
          rw [e18] at hJ9
          exact k_sub [3, 4, 5, 2, 1, 0] rfl hJ9
        refine k_lload X dX0_rounded_118 1 rfl rfl ?_
        have e19 : (pX0_rounded_120_S1 u1 u3) = (lshr u1 u3) := by rw [pX0_rounded_120_S1, if_neg c6, if_neg c7]
        rw [e19] at hJ9
        exact k_sub [3, 4, 5, 2, 1, 0] rfl hJ9
      have e20 : (fX0_rounded r_rounding u1 u3) = (pX0_rounded_120_S1 u1 u3) := by rw [fX0_rounded, if_pos c1, if_neg c2, if_pos c5]
      exact k_lret9 X hRt hLk e20.symm rfl dX0_rounded_120
    by_cases c10 : r_rounding = (3 : Int32)
    · refine k_tblIn (tgt := 121) X dX0_rounded_38 c10 (by decide) (by decide) rfl (by decide) ?_
      refine k_lload X dX0_rounded_121 0 rfl rfl ?_
      refine k_lconst (v := (0 : Int64)) X dX0_rounded_123 rfl rfl ?_
      refine k_mid2 [(b_a, .inr (0, [.ref b_r, .int a_sew, .long a_greatest, .long a_greatestSigned, .long a_leastSigned])), (b_r, .inr (7, [.ref r_scalars, .ref r_vectors, .ref r_type, .int r_length, .int r_start, .int r_rounding, .int r_saturated, .long r_choices]))] [(0, .ref b_a), (1, .long u1), (3, .int u3), (4, .long (lshl (1 : Int64) (u3 - (1 : Int32)))), (6, .long (lshr u1 u3)), (8, .long (eX0_rounded_29 u1 u3))] [.long (pX0_rounded_137_S1 u1 u3)] 137 (fun hJ12 => ?_) ?_
      · skip
        refine k_lcmp_eq (tgt := 135) X dX0_rounded_124 rfl dX0_rounded_125 (by decide) rfl (fun c11 => ?_) (fun c11 => ?_)
        · skip
          refine k_lload X dX0_rounded_135 1 rfl rfl ?_
          have e21 : (pX0_rounded_137_S1 u1 u3) = (lshr u1 u3) := by rw [pX0_rounded_137_S1, if_pos c11]
          rw [e21] at hJ12
          exact k_sub [3, 4, 5, 2, 1, 0] rfl hJ12
        refine k_lload X dX0_rounded_128 1 rfl rfl ?_
        refine k_lconst (v := (1 : Int64)) X dX0_rounded_130 rfl rfl ?_
        refine k_lor X dX0_rounded_131 rfl ?_
        refine k_goto (tgt := 137) X dX0_rounded_132 (by decide) ?_
        have e22 : (pX0_rounded_137_S1 u1 u3) = ((lshr u1 u3) ||| (1 : Int64)) := by rw [pX0_rounded_137_S1, if_neg c11]
        rw [e22] at hJ12
        exact k_sub [3, 4, 5, 2, 1, 0] rfl hJ12
      have e23 : (fX0_rounded r_rounding u1 u3) = (pX0_rounded_137_S1 u1 u3) := by rw [fX0_rounded, if_pos c1, if_neg c2, if_neg c5, if_pos c10]
      exact k_lret9 X hRt hLk e23.symm rfl dX0_rounded_137
    refine k_tblD (tgt := 138) X dX0_rounded_38 [(0 : Int32), (1 : Int32), (3 : Int32)] (List.forall_mem_cons.mpr ⟨c2, (List.forall_mem_cons.mpr ⟨c5, (List.forall_mem_cons.mpr ⟨c10, (fun _ h => absurd h List.not_mem_nil)⟩)⟩)⟩) (by decide +kernel) (by decide) ?_
    refine k_lload X dX0_rounded_138 1 rfl rfl ?_
    have e24 : (fX0_rounded r_rounding u1 u3) = (lshr u1 u3) := by rw [fX0_rounded, if_pos c1, if_neg c2, if_neg c5, if_neg c10]
    exact k_lret9 X hRt hLk e24.symm rfl dX0_rounded_140
  refine k_lload_n X dX0_rounded_5 rfl 1 rfl rfl ?_
  have e25 : (fX0_rounded r_rounding u1 u3) = u1 := by rw [fX0_rounded, if_neg c1]
  exact k_lret9 X hRt hLk e25.symm rfl dX0_rounded_6
theorem vX0_rounded : kVi yX0_rounded cX0_rounded 10 (some .long) 2 := ⟨q25_8, q4_3, q25_6, q25_7, by decide, by decide +kernel⟩
noncomputable def fX0_simple (a_sew : Int32) (u1 : Int32) (u2 : Int64) (u4 : Int64) : Int64 := (if u1 = (0 : Int32) then (u2 + u4) else (if u1 = (2 : Int32) then (u2 - u4) else (if u1 = (3 : Int32) then (u4 - u2) else (if u1 = (4 : Int32) then (kmin u2 u4) else (if u1 = (5 : Int32) then (kmin (fX10_signed u2 a_sew) (fX10_signed u4 a_sew)) else (if u1 = (6 : Int32) then (kmax u2 u4) else (if u1 = (7 : Int32) then (kmax (fX10_signed u2 a_sew) (fX10_signed u4 a_sew)) else (if u1 = (9 : Int32) then (u2 &&& u4) else (if u1 = (10 : Int32) then (u2 ||| u4) else (if u1 = (11 : Int32) then (u2 ^^^ u4) else (0 : Int64)))))))))))
set_option maxRecDepth 100000 in
set_option maxHeartbeats 4000000 in
theorem kX0_simple (l : Launch) (D : va_G) (kI kZ : ClassId) (b_a : Nat) (b_r : Nat) (a_sew : Int32) (a_greatest : Int64) (a_greatestSigned : Int64) (a_leastSigned : Int64) (r_scalars : Nat) (r_vectors : Nat) (r_type : Nat) (r_length : Int32) (r_start : Int32) (r_rounding : Int32) (r_saturated : Int32) (r_choices : Int64) (u1 : Int32) (u2 : Int64) (u4 : Int64) : kM l yX0_simple cX0_simple 6 (some .long) 1 40 0 0 D [(kI, .int), (kZ, .boolean)] [.ref b_a, .int u1, .long u2, .long u4] [(b_a, .inr (0, [.ref b_r, .int a_sew, .long a_greatest, .long a_greatestSigned, .long a_leastSigned])), (b_r, .inr (7, [.ref r_scalars, .ref r_vectors, .ref r_type, .int r_length, .int r_start, .int r_rounding, .int r_saturated, .long r_choices]))] (some (.long (fX0_simple a_sew u1 u2 u4))) [(b_a, .inr (0, [.ref b_r, .int a_sew, .long a_greatest, .long a_greatestSigned, .long a_leastSigned])), (b_r, .inr (7, [.ref r_scalars, .ref r_vectors, .ref r_type, .int r_length, .int r_start, .int r_rounding, .int r_saturated, .long r_choices]))] := by
  refine kM.of (by decide) rfl ?_
  intro p e R s m args below meth c A X _ _ hRt hLk
  refine k_sub [0, 1, 2, 3] (lv' := [(0, .ref b_a), (1, .int u1), (2, .long u2), (4, .long u4)]) rfl ?_
  refine k_iload_n X dX0_simple_0 rfl 1 rfl rfl ?_
  by_cases c1 : u1 = (0 : Int32)
  · refine k_tblIn (tgt := 64) X dX0_simple_1 c1 (by decide) (by decide) rfl (by decide) ?_
    refine k_lload_n X dX0_simple_64 rfl 2 rfl rfl ?_
    refine k_lload X dX0_simple_65 3 rfl rfl ?_
    refine k_ladd X dX0_simple_67 rfl ?_
    have e11 : (fX0_simple a_sew u1 u2 u4) = (u2 + u4) := by rw [fX0_simple, if_pos c1]
    exact k_lret9 X hRt hLk e11.symm rfl dX0_simple_68
  by_cases c2 : u1 = (2 : Int32)
  · refine k_tblIn (tgt := 69) X dX0_simple_1 c2 (by decide) (by decide) rfl (by decide) ?_
    refine k_lload_n X dX0_simple_69 rfl 2 rfl rfl ?_
    refine k_lload X dX0_simple_70 3 rfl rfl ?_
    refine k_lsub X dX0_simple_72 rfl ?_
    have e12 : (fX0_simple a_sew u1 u2 u4) = (u2 - u4) := by rw [fX0_simple, if_neg c1, if_pos c2]
    exact k_lret9 X hRt hLk e12.symm rfl dX0_simple_73
  by_cases c3 : u1 = (3 : Int32)
  · refine k_tblIn (tgt := 74) X dX0_simple_1 c3 (by decide) (by decide) rfl (by decide) ?_
    refine k_lload X dX0_simple_74 3 rfl rfl ?_
    refine k_lload_n X dX0_simple_76 rfl 2 rfl rfl ?_
    refine k_lsub X dX0_simple_77 rfl ?_
    have e13 : (fX0_simple a_sew u1 u2 u4) = (u4 - u2) := by rw [fX0_simple, if_neg c1, if_neg c2, if_pos c3]
    exact k_lret9 X hRt hLk e13.symm rfl dX0_simple_78
  by_cases c4 : u1 = (4 : Int32)
  · refine k_tblIn (tgt := 79) X dX0_simple_1 c4 (by decide) (by decide) rfl (by decide) ?_
    refine k_lload_n X dX0_simple_79 rfl 2 rfl rfl ?_
    refine k_lload X dX0_simple_80 3 rfl rfl ?_
    refine k_mmin (st := []) X q20_3 q20_4 q20_5 q20_6 dX0_simple_82 rfl rfl rfl ?_
    have e14 : (fX0_simple a_sew u1 u2 u4) = (kmin u2 u4) := by rw [fX0_simple, if_neg c1, if_neg c2, if_neg c3, if_pos c4]
    exact k_lret9 X hRt hLk e14.symm rfl dX0_simple_85
  by_cases c5 : u1 = (5 : Int32)
  · refine k_tblIn (tgt := 86) X dX0_simple_1 c5 (by decide) (by decide) rfl (by decide) ?_
    refine k_lload_n X dX0_simple_86 rfl 2 rfl rfl ?_
    refine k_aload_n X dX0_simple_87 rfl 0 rfl rfl ?_
    refine k_get X i_wsX00 0 1 q19_1 rfl rfl rfl rfl rfl dX0_simple_88 rfl ?_
    refine k_cN1 (st := []) (ws' := [(b_a, .inr (0, [.ref b_r, .int a_sew, .long a_greatest, .long a_greatestSigned, .long a_leastSigned])), (b_r, .inr (7, [.ref r_scalars, .ref r_vectors, .ref r_type, .int r_length, .int r_start, .int r_rounding, .int r_saturated, .long r_choices]))]) (wr := [(b_a, .inr (0, [.ref b_r, .int a_sew, .long a_greatest, .long a_greatestSigned, .long a_leastSigned])), (b_r, .inr (7, [.ref r_scalars, .ref r_vectors, .ref r_type, .int r_length, .int r_start, .int r_rounding, .int r_saturated, .long r_choices]))]) X [.long u2, .int a_sew] 0 [] [0, 1] [0, 1] (kX10_signed l D kI kZ u2 a_sew) vX10_signed X.2.1.2.1.2.1 dX0_simple_91 rfl rfl rfl rfl rfl rfl rfl rfl rfl rfl rfl rfl rfl ?_
    refine k_lload X dX0_simple_94 3 rfl rfl ?_
    refine k_aload_n X dX0_simple_96 rfl 0 rfl rfl ?_
    refine k_get X i_wsX00 0 1 q19_1 rfl rfl rfl rfl rfl dX0_simple_97 rfl ?_
    refine k_cN1 (st := [.long (fX10_signed u2 a_sew)]) (ws' := [(b_a, .inr (0, [.ref b_r, .int a_sew, .long a_greatest, .long a_greatestSigned, .long a_leastSigned])), (b_r, .inr (7, [.ref r_scalars, .ref r_vectors, .ref r_type, .int r_length, .int r_start, .int r_rounding, .int r_saturated, .long r_choices]))]) (wr := [(b_a, .inr (0, [.ref b_r, .int a_sew, .long a_greatest, .long a_greatestSigned, .long a_leastSigned])), (b_r, .inr (7, [.ref r_scalars, .ref r_vectors, .ref r_type, .int r_length, .int r_start, .int r_rounding, .int r_saturated, .long r_choices]))]) X [.long u4, .int a_sew] 2 [] [0, 1] [0, 1] (kX10_signed l D kI kZ u4 a_sew) vX10_signed X.2.1.2.1.2.1 dX0_simple_100 rfl rfl rfl rfl rfl rfl rfl rfl rfl rfl rfl rfl rfl ?_
    refine k_mmin (st := []) X q20_3 q20_4 q20_5 q20_6 dX0_simple_103 rfl rfl rfl ?_
    have e15 : (fX0_simple a_sew u1 u2 u4) = (kmin (fX10_signed u2 a_sew) (fX10_signed u4 a_sew)) := by rw [fX0_simple, if_neg c1, if_neg c2, if_neg c3, if_neg c4, if_pos c5]
    exact k_lret9 X hRt hLk e15.symm rfl dX0_simple_106
  by_cases c6 : u1 = (6 : Int32)
  · refine k_tblIn (tgt := 107) X dX0_simple_1 c6 (by decide) (by decide) rfl (by decide) ?_
    refine k_lload_n X dX0_simple_107 rfl 2 rfl rfl ?_
    refine k_lload X dX0_simple_108 3 rfl rfl ?_
    refine k_mmax (st := []) X q20_7 q20_8 q20_5 q20_9 dX0_simple_110 rfl rfl rfl ?_
    have e16 : (fX0_simple a_sew u1 u2 u4) = (kmax u2 u4) := by rw [fX0_simple, if_neg c1, if_neg c2, if_neg c3, if_neg c4, if_neg c5, if_pos c6]
    exact k_lret9 X hRt hLk e16.symm rfl dX0_simple_113
  by_cases c7 : u1 = (7 : Int32)
  · refine k_tblIn (tgt := 114) X dX0_simple_1 c7 (by decide) (by decide) rfl (by decide) ?_
    refine k_lload_n X dX0_simple_114 rfl 2 rfl rfl ?_
    refine k_aload_n X dX0_simple_115 rfl 0 rfl rfl ?_
    refine k_get X i_wsX00 0 1 q19_1 rfl rfl rfl rfl rfl dX0_simple_116 rfl ?_
    refine k_cN1 (st := []) (ws' := [(b_a, .inr (0, [.ref b_r, .int a_sew, .long a_greatest, .long a_greatestSigned, .long a_leastSigned])), (b_r, .inr (7, [.ref r_scalars, .ref r_vectors, .ref r_type, .int r_length, .int r_start, .int r_rounding, .int r_saturated, .long r_choices]))]) (wr := [(b_a, .inr (0, [.ref b_r, .int a_sew, .long a_greatest, .long a_greatestSigned, .long a_leastSigned])), (b_r, .inr (7, [.ref r_scalars, .ref r_vectors, .ref r_type, .int r_length, .int r_start, .int r_rounding, .int r_saturated, .long r_choices]))]) X [.long u2, .int a_sew] 0 [] [0, 1] [0, 1] (kX10_signed l D kI kZ u2 a_sew) vX10_signed X.2.1.2.1.2.1 dX0_simple_119 rfl rfl rfl rfl rfl rfl rfl rfl rfl rfl rfl rfl rfl ?_
    refine k_lload X dX0_simple_122 3 rfl rfl ?_
    refine k_aload_n X dX0_simple_124 rfl 0 rfl rfl ?_
    refine k_get X i_wsX00 0 1 q19_1 rfl rfl rfl rfl rfl dX0_simple_125 rfl ?_
    refine k_cN1 (st := [.long (fX10_signed u2 a_sew)]) (ws' := [(b_a, .inr (0, [.ref b_r, .int a_sew, .long a_greatest, .long a_greatestSigned, .long a_leastSigned])), (b_r, .inr (7, [.ref r_scalars, .ref r_vectors, .ref r_type, .int r_length, .int r_start, .int r_rounding, .int r_saturated, .long r_choices]))]) (wr := [(b_a, .inr (0, [.ref b_r, .int a_sew, .long a_greatest, .long a_greatestSigned, .long a_leastSigned])), (b_r, .inr (7, [.ref r_scalars, .ref r_vectors, .ref r_type, .int r_length, .int r_start, .int r_rounding, .int r_saturated, .long r_choices]))]) X [.long u4, .int a_sew] 2 [] [0, 1] [0, 1] (kX10_signed l D kI kZ u4 a_sew) vX10_signed X.2.1.2.1.2.1 dX0_simple_128 rfl rfl rfl rfl rfl rfl rfl rfl rfl rfl rfl rfl rfl ?_
    refine k_mmax (st := []) X q20_7 q20_8 q20_5 q20_9 dX0_simple_131 rfl rfl rfl ?_
    have e17 : (fX0_simple a_sew u1 u2 u4) = (kmax (fX10_signed u2 a_sew) (fX10_signed u4 a_sew)) := by rw [fX0_simple, if_neg c1, if_neg c2, if_neg c3, if_neg c4, if_neg c5, if_neg c6, if_pos c7]
    exact k_lret9 X hRt hLk e17.symm rfl dX0_simple_134
  by_cases c8 : u1 = (9 : Int32)
  · refine k_tblIn (tgt := 135) X dX0_simple_1 c8 (by decide) (by decide) rfl (by decide) ?_
    refine k_lload_n X dX0_simple_135 rfl 2 rfl rfl ?_
    refine k_lload X dX0_simple_136 3 rfl rfl ?_
    refine k_land X dX0_simple_138 rfl ?_
    have e18 : (fX0_simple a_sew u1 u2 u4) = (u2 &&& u4) := by rw [fX0_simple, if_neg c1, if_neg c2, if_neg c3, if_neg c4, if_neg c5, if_neg c6, if_neg c7, if_pos c8]
    exact k_lret9 X hRt hLk e18.symm rfl dX0_simple_139
  by_cases c9 : u1 = (10 : Int32)
  · refine k_tblIn (tgt := 140) X dX0_simple_1 c9 (by decide) (by decide) rfl (by decide) ?_
    refine k_lload_n X dX0_simple_140 rfl 2 rfl rfl ?_
    refine k_lload X dX0_simple_141 3 rfl rfl ?_
    refine k_lor X dX0_simple_143 rfl ?_
    have e19 : (fX0_simple a_sew u1 u2 u4) = (u2 ||| u4) := by rw [fX0_simple, if_neg c1, if_neg c2, if_neg c3, if_neg c4, if_neg c5, if_neg c6, if_neg c7, if_neg c8, if_pos c9]
    exact k_lret9 X hRt hLk e19.symm rfl dX0_simple_144
  by_cases c10 : u1 = (11 : Int32)
  · refine k_tblIn (tgt := 145) X dX0_simple_1 c10 (by decide) (by decide) rfl (by decide) ?_
    refine k_lload_n X dX0_simple_145 rfl 2 rfl rfl ?_
    refine k_lload X dX0_simple_146 3 rfl rfl ?_
    refine k_lxor X dX0_simple_148 rfl ?_
    have e20 : (fX0_simple a_sew u1 u2 u4) = (u2 ^^^ u4) := by rw [fX0_simple, if_neg c1, if_neg c2, if_neg c3, if_neg c4, if_neg c5, if_neg c6, if_neg c7, if_neg c8, if_neg c9, if_pos c10]
    exact k_lret9 X hRt hLk e20.symm rfl dX0_simple_149
  refine k_tblD (tgt := 150) X dX0_simple_1 [(0 : Int32), (2 : Int32), (3 : Int32), (4 : Int32), (5 : Int32), (6 : Int32), (7 : Int32), (9 : Int32), (10 : Int32), (11 : Int32)] (List.forall_mem_cons.mpr ⟨c1, (List.forall_mem_cons.mpr ⟨c2, (List.forall_mem_cons.mpr ⟨c3, (List.forall_mem_cons.mpr ⟨c4, (List.forall_mem_cons.mpr ⟨c5, (List.forall_mem_cons.mpr ⟨c6, (List.forall_mem_cons.mpr ⟨c7, (List.forall_mem_cons.mpr ⟨c8, (List.forall_mem_cons.mpr ⟨c9, (List.forall_mem_cons.mpr ⟨c10, (fun _ h => absurd h List.not_mem_nil)⟩)⟩)⟩)⟩)⟩)⟩)⟩)⟩)⟩)⟩) (by decide +kernel) (by decide) ?_
  refine k_lconst (v := (0 : Int64)) X dX0_simple_150 rfl rfl ?_
  have e21 : (fX0_simple a_sew u1 u2 u4) = (0 : Int64) := by rw [fX0_simple, if_neg c1, if_neg c2, if_neg c3, if_neg c4, if_neg c5, if_neg c6, if_neg c7, if_neg c8, if_neg c9, if_neg c10]
  exact k_lret9 X hRt hLk e21.symm rfl dX0_simple_151
theorem vX0_simple : kVi yX0_simple cX0_simple 6 (some .long) 3 := ⟨q24_19, q4_3, q24_17, q24_18, by decide, by decide +kernel⟩
noncomputable def fX0_saturatingOrShift (a_sew : Int32) (a_greatest : Int64) (a_greatestSigned : Int64) (a_leastSigned : Int64) (r_rounding : Int32) (u1 : Int32) (u2 : Int64) (u4 : Int64) : Int64 := (if u1 = (32 : Int32) then (fX0_clipped (u2 + u4) (0 : Int64) a_greatest) else (if u1 = (33 : Int32) then (fX0_clipped ((fX10_signed u2 a_sew) + (fX10_signed u4 a_sew)) a_leastSigned a_greatestSigned) else (if u1 = (34 : Int32) then (fX0_clipped (u2 - u4) (0 : Int64) a_greatest) else (if u1 = (35 : Int32) then (fX0_clipped ((fX10_signed u2 a_sew) - (fX10_signed u4 a_sew)) a_leastSigned a_greatestSigned) else (if u1 = (37 : Int32) then (lshl u2 ((Int64.toInt32 u4) &&& (a_sew - (1 : Int32)))) else (if u1 = (39 : Int32) then (fX0_clipped (fX0_rounded r_rounding ((fX10_signed u2 a_sew) * (fX10_signed u4 a_sew)) (a_sew - (1 : Int32))) a_leastSigned a_greatestSigned) else (if u1 = (40 : Int32) then (lsru u2 ((Int64.toInt32 u4) &&& (a_sew - (1 : Int32)))) else (if u1 = (41 : Int32) then (lshr (fX10_signed u2 a_sew) ((Int64.toInt32 u4) &&& (a_sew - (1 : Int32)))) else (if u1 = (42 : Int32) then (fX0_rounded r_rounding u2 ((Int64.toInt32 u4) &&& (a_sew - (1 : Int32)))) else (if u1 = (43 : Int32) then (fX0_rounded r_rounding (fX10_signed u2 a_sew) ((Int64.toInt32 u4) &&& (a_sew - (1 : Int32)))) else (0 : Int64)))))))))))
noncomputable def fX0_saturatingOrShift__r_saturated (a_sew : Int32) (a_greatest : Int64) (a_greatestSigned : Int64) (a_leastSigned : Int64) (r_rounding : Int32) (r_saturated : Int32) (u1 : Int32) (u2 : Int64) (u4 : Int64) : Int32 := (if u1 = (32 : Int32) then (fX0_clipped__r_saturated r_saturated (u2 + u4) (0 : Int64) a_greatest) else (if u1 = (33 : Int32) then (fX0_clipped__r_saturated r_saturated ((fX10_signed u2 a_sew) + (fX10_signed u4 a_sew)) a_leastSigned a_greatestSigned) else (if u1 = (34 : Int32) then (fX0_clipped__r_saturated r_saturated (u2 - u4) (0 : Int64) a_greatest) else (if u1 = (35 : Int32) then (fX0_clipped__r_saturated r_saturated ((fX10_signed u2 a_sew) - (fX10_signed u4 a_sew)) a_leastSigned a_greatestSigned) else (if u1 = (37 : Int32) then r_saturated else (if u1 = (39 : Int32) then (fX0_clipped__r_saturated r_saturated (fX0_rounded r_rounding ((fX10_signed u2 a_sew) * (fX10_signed u4 a_sew)) (a_sew - (1 : Int32))) a_leastSigned a_greatestSigned) else r_saturated))))))
set_option maxRecDepth 100000 in
set_option maxHeartbeats 4000000 in
theorem kX0_saturatingOrShift (l : Launch) (D : va_G) (kI kZ : ClassId) (b_a : Nat) (b_r : Nat) (a_sew : Int32) (a_greatest : Int64) (a_greatestSigned : Int64) (a_leastSigned : Int64) (r_scalars : Nat) (r_vectors : Nat) (r_type : Nat) (r_length : Int32) (r_start : Int32) (r_rounding : Int32) (r_saturated : Int32) (r_choices : Int64) (u1 : Int32) (u2 : Int64) (u4 : Int64) : kM l yX0_saturatingOrShift cX0_saturatingOrShift 11 (some .long) 1 22 0 0 D [(kI, .int), (kZ, .boolean)] [.ref b_a, .int u1, .long u2, .long u4] [(b_a, .inr (0, [.ref b_r, .int a_sew, .long a_greatest, .long a_greatestSigned, .long a_leastSigned])), (b_r, .inr (7, [.ref r_scalars, .ref r_vectors, .ref r_type, .int r_length, .int r_start, .int r_rounding, .int r_saturated, .long r_choices]))] (some (.long (fX0_saturatingOrShift a_sew a_greatest a_greatestSigned a_leastSigned r_rounding u1 u2 u4))) [(b_a, .inr (0, [.ref b_r, .int a_sew, .long a_greatest, .long a_greatestSigned, .long a_leastSigned])), (b_r, .inr (7, [.ref r_scalars, .ref r_vectors, .ref r_type, .int r_length, .int r_start, .int r_rounding, .int (fX0_saturatingOrShift__r_saturated a_sew a_greatest a_greatestSigned a_leastSigned r_rounding r_saturated u1 u2 u4), .long r_choices]))] := by
  refine kM.of (by decide) rfl ?_
  intro p e R s m args below meth c A X _ _ hRt hLk
  refine k_sub [0, 1, 2, 3] (lv' := [(0, .ref b_a), (1, .int u1), (2, .long u2), (4, .long u4)]) rfl ?_
  refine k_lload X dX0_saturatingOrShift_0 3 rfl rfl ?_
  refine k_l2i X dX0_saturatingOrShift_2 rfl ?_
  refine k_aload_n X dX0_saturatingOrShift_3 rfl 0 rfl rfl ?_
  refine k_get X i_wsX00 0 1 q19_1 rfl rfl rfl rfl rfl dX0_saturatingOrShift_4 rfl ?_
  refine k_iconst X dX0_saturatingOrShift_7 kc_i_1 rfl ?_
  refine k_isub X dX0_saturatingOrShift_8 rfl ?_
  refine k_iand X dX0_saturatingOrShift_9 rfl ?_
  refine k_istore (lv' := [(6, .int ((Int64.toInt32 u4) &&& (a_sew - (1 : Int32)))), (0, .ref b_a), (1, .int u1), (2, .long u2), (4, .long u4)]) X dX0_saturatingOrShift_10 rfl rfl rfl ?_
  refine k_lload_n X dX0_saturatingOrShift_12 rfl 3 rfl rfl ?_
  refine k_aload_n X dX0_saturatingOrShift_13 rfl 1 rfl rfl ?_
  refine k_get X i_wsX00 0 1 q19_1 rfl rfl rfl rfl rfl dX0_saturatingOrShift_14 rfl ?_
  refine k_cN1 (st := []) (ws' := [(b_a, .inr (0, [.ref b_r, .int a_sew, .long a_greatest, .long a_greatestSigned, .long a_leastSigned])), (b_r, .inr (7, [.ref r_scalars, .ref r_vectors, .ref r_type, .int r_length, .int r_start, .int r_rounding, .int r_saturated, .long r_choices]))]) (wr := [(b_a, .inr (0, [.ref b_r, .int a_sew, .long a_greatest, .long a_greatestSigned, .long a_leastSigned])), (b_r, .inr (7, [.ref r_scalars, .ref r_vectors, .ref r_type, .int r_length, .int r_start, .int r_rounding, .int r_saturated, .long r_choices]))]) X [.long u2, .int a_sew] 0 [] [0, 1] [0, 1] (kX10_signed l D kI kZ u2 a_sew) vX10_signed X.2.1.2.1.2.1 dX0_saturatingOrShift_17 rfl rfl rfl rfl rfl rfl rfl rfl rfl rfl rfl rfl rfl ?_
  refine k_lstore (lv' := [(7, .long (fX10_signed u2 a_sew)), (6, .int ((Int64.toInt32 u4) &&& (a_sew - (1 : Int32)))), (0, .ref b_a), (1, .int u1), (2, .long u2), (4, .long u4)]) X dX0_saturatingOrShift_20 rfl rfl rfl ?_
  refine k_lload X dX0_saturatingOrShift_22 5 rfl rfl ?_
  refine k_aload_n X dX0_saturatingOrShift_24 rfl 2 rfl rfl ?_
  refine k_get X i_wsX00 0 1 q19_1 rfl rfl rfl rfl rfl dX0_saturatingOrShift_25 rfl ?_
  refine k_cN1 (st := []) (ws' := [(b_a, .inr (0, [.ref b_r, .int a_sew, .long a_greatest, .long a_greatestSigned, .long a_leastSigned])), (b_r, .inr (7, [.ref r_scalars, .ref r_vectors, .ref r_type, .int r_length, .int r_start, .int r_rounding, .int r_saturated, .long r_choices]))]) (wr := [(b_a, .inr (0, [.ref b_r, .int a_sew, .long a_greatest, .long a_greatestSigned, .long a_leastSigned])), (b_r, .inr (7, [.ref r_scalars, .ref r_vectors, .ref r_type, .int r_length, .int r_start, .int r_rounding, .int r_saturated, .long r_choices]))]) X [.long u4, .int a_sew] 0 [] [0, 1] [0, 1] (kX10_signed l D kI kZ u4 a_sew) vX10_signed X.2.1.2.1.2.1 dX0_saturatingOrShift_28 rfl rfl rfl rfl rfl rfl rfl rfl rfl rfl rfl rfl rfl ?_
  refine k_lstore (lv' := [(9, .long (fX10_signed u4 a_sew)), (7, .long (fX10_signed u2 a_sew)), (6, .int ((Int64.toInt32 u4) &&& (a_sew - (1 : Int32)))), (0, .ref b_a), (1, .int u1), (2, .long u2), (4, .long u4)]) X dX0_saturatingOrShift_31 rfl rfl rfl ?_
  refine k_iload_n X dX0_saturatingOrShift_33 rfl 4 rfl rfl ?_
  by_cases c1 : u1 = (32 : Int32)
  · refine k_tblIn (tgt := 96) X dX0_saturatingOrShift_34 c1 (by decide) (by decide) rfl (by decide) ?_
    refine k_aload_n X dX0_saturatingOrShift_96 rfl 3 rfl rfl ?_
    refine k_lload_n X dX0_saturatingOrShift_97 rfl 5 rfl rfl ?_
    refine k_lload X dX0_saturatingOrShift_98 6 rfl rfl ?_
    refine k_ladd X dX0_saturatingOrShift_100 rfl ?_
    refine k_lconst (v := (0 : Int64)) X dX0_saturatingOrShift_101 rfl rfl ?_
    refine k_aload_n X dX0_saturatingOrShift_102 rfl 3 rfl rfl ?_
    refine k_get X i_wsX00 0 2 q19_2 rfl rfl rfl rfl rfl dX0_saturatingOrShift_103 rfl ?_
    refine k_cV1 (st := []) (ws' := [(b_a, .inr (0, [.ref b_r, .int a_sew, .long a_greatest, .long a_greatestSigned, .long a_leastSigned])), (b_r, .inr (7, [.ref r_scalars, .ref r_vectors, .ref r_type, .int r_length, .int r_start, .int r_rounding, .int (fX0_clipped__r_saturated r_saturated (u2 + u4) (0 : Int64) a_greatest), .long r_choices]))]) (wr := []) (ci := 0) (q9 := 0) X [.long (u2 + u4), .long (0 : Int64), .long a_greatest] 0 [0, 1] [] [0, 1] (kX0_clipped l D kI kZ b_a b_r a_sew a_greatest a_greatestSigned a_leastSigned r_scalars r_vectors r_type r_length r_start r_rounding r_saturated r_choices (u2 + u4) (0 : Int64) a_greatest) vX0_clipped q25_0 dX0_saturatingOrShift_106 rfl rfl rfl rfl rfl rfl rfl rfl rfl rfl rfl rfl rfl rfl rfl ?_
    have e11 : (fX0_saturatingOrShift a_sew a_greatest a_greatestSigned a_leastSigned r_rounding u1 u2 u4) = (fX0_clipped (u2 + u4) (0 : Int64) a_greatest) := by rw [fX0_saturatingOrShift, if_pos c1]
    have e12 : (fX0_saturatingOrShift__r_saturated a_sew a_greatest a_greatestSigned a_leastSigned r_rounding r_saturated u1 u2 u4) = (fX0_clipped__r_saturated r_saturated (u2 + u4) (0 : Int64) a_greatest) := by rw [fX0_saturatingOrShift__r_saturated, if_pos c1]
    exact k_lret9 X hRt hLk e11.symm (by rw [e12]) dX0_saturatingOrShift_109
  by_cases c2 : u1 = (33 : Int32)
  · refine k_tblIn (tgt := 110) X dX0_saturatingOrShift_34 c2 (by decide) (by decide) rfl (by decide) ?_
    refine k_aload_n X dX0_saturatingOrShift_110 rfl 3 rfl rfl ?_
    refine k_lload X dX0_saturatingOrShift_111 1 rfl rfl ?_
    refine k_lload X dX0_saturatingOrShift_113 0 rfl rfl ?_
    refine k_ladd X dX0_saturatingOrShift_115 rfl ?_
    refine k_aload_n X dX0_saturatingOrShift_116 rfl 3 rfl rfl ?_
    refine k_get X i_wsX00 0 4 q19_4 rfl rfl rfl rfl rfl dX0_saturatingOrShift_117 rfl ?_
    refine k_aload_n X dX0_saturatingOrShift_120 rfl 3 rfl rfl ?_
    refine k_get X i_wsX00 0 3 q19_3 rfl rfl rfl rfl rfl dX0_saturatingOrShift_121 rfl ?_
    refine k_cV1 (st := []) (ws' := [(b_a, .inr (0, [.ref b_r, .int a_sew, .long a_greatest, .long a_greatestSigned, .long a_leastSigned])), (b_r, .inr (7, [.ref r_scalars, .ref r_vectors, .ref r_type, .int r_length, .int r_start, .int r_rounding, .int (fX0_clipped__r_saturated r_saturated ((fX10_signed u2 a_sew) + (fX10_signed u4 a_sew)) a_leastSigned a_greatestSigned), .long r_choices]))]) (wr := []) (ci := 0) (q9 := 0) X [.long ((fX10_signed u2 a_sew) + (fX10_signed u4 a_sew)), .long a_leastSigned, .long a_greatestSigned] 0 [0, 1] [] [0, 1] (kX0_clipped l D kI kZ b_a b_r a_sew a_greatest a_greatestSigned a_leastSigned r_scalars r_vectors r_type r_length r_start r_rounding r_saturated r_choices ((fX10_signed u2 a_sew) + (fX10_signed u4 a_sew)) a_leastSigned a_greatestSigned) vX0_clipped q25_0 dX0_saturatingOrShift_124 rfl rfl rfl rfl rfl rfl rfl rfl rfl rfl rfl rfl rfl rfl rfl ?_
    have e13 : (fX0_saturatingOrShift a_sew a_greatest a_greatestSigned a_leastSigned r_rounding u1 u2 u4) = (fX0_clipped ((fX10_signed u2 a_sew) + (fX10_signed u4 a_sew)) a_leastSigned a_greatestSigned) := by rw [fX0_saturatingOrShift, if_neg c1, if_pos c2]
    have e14 : (fX0_saturatingOrShift__r_saturated a_sew a_greatest a_greatestSigned a_leastSigned r_rounding r_saturated u1 u2 u4) = (fX0_clipped__r_saturated r_saturated ((fX10_signed u2 a_sew) + (fX10_signed u4 a_sew)) a_leastSigned a_greatestSigned) := by rw [fX0_saturatingOrShift__r_saturated, if_neg c1, if_pos c2]
    exact k_lret9 X hRt hLk e13.symm (by rw [e14]) dX0_saturatingOrShift_127
  by_cases c3 : u1 = (34 : Int32)
  · refine k_tblIn (tgt := 128) X dX0_saturatingOrShift_34 c3 (by decide) (by decide) rfl (by decide) ?_
    refine k_aload_n X dX0_saturatingOrShift_128 rfl 3 rfl rfl ?_
    refine k_lload_n X dX0_saturatingOrShift_129 rfl 5 rfl rfl ?_
    refine k_lload X dX0_saturatingOrShift_130 6 rfl rfl ?_
    refine k_lsub X dX0_saturatingOrShift_132 rfl ?_
    refine k_lconst (v := (0 : Int64)) X dX0_saturatingOrShift_133 rfl rfl ?_
    refine k_aload_n X dX0_saturatingOrShift_134 rfl 3 rfl rfl ?_
    refine k_get X i_wsX00 0 2 q19_2 rfl rfl rfl rfl rfl dX0_saturatingOrShift_135 rfl ?_
    refine k_cV1 (st := []) (ws' := [(b_a, .inr (0, [.ref b_r, .int a_sew, .long a_greatest, .long a_greatestSigned, .long a_leastSigned])), (b_r, .inr (7, [.ref r_scalars, .ref r_vectors, .ref r_type, .int r_length, .int r_start, .int r_rounding, .int (fX0_clipped__r_saturated r_saturated (u2 - u4) (0 : Int64) a_greatest), .long r_choices]))]) (wr := []) (ci := 0) (q9 := 0) X [.long (u2 - u4), .long (0 : Int64), .long a_greatest] 0 [0, 1] [] [0, 1] (kX0_clipped l D kI kZ b_a b_r a_sew a_greatest a_greatestSigned a_leastSigned r_scalars r_vectors r_type r_length r_start r_rounding r_saturated r_choices (u2 - u4) (0 : Int64) a_greatest) vX0_clipped q25_0 dX0_saturatingOrShift_138 rfl rfl rfl rfl rfl rfl rfl rfl rfl rfl rfl rfl rfl rfl rfl ?_
    have e15 : (fX0_saturatingOrShift a_sew a_greatest a_greatestSigned a_leastSigned r_rounding u1 u2 u4) = (fX0_clipped (u2 - u4) (0 : Int64) a_greatest) := by rw [fX0_saturatingOrShift, if_neg c1, if_neg c2, if_pos c3]
    have e16 : (fX0_saturatingOrShift__r_saturated a_sew a_greatest a_greatestSigned a_leastSigned r_rounding r_saturated u1 u2 u4) = (fX0_clipped__r_saturated r_saturated (u2 - u4) (0 : Int64) a_greatest) := by rw [fX0_saturatingOrShift__r_saturated, if_neg c1, if_neg c2, if_pos c3]
    exact k_lret9 X hRt hLk e15.symm (by rw [e16]) dX0_saturatingOrShift_141
  by_cases c4 : u1 = (35 : Int32)
  · refine k_tblIn (tgt := 142) X dX0_saturatingOrShift_34 c4 (by decide) (by decide) rfl (by decide) ?_
    refine k_aload_n X dX0_saturatingOrShift_142 rfl 3 rfl rfl ?_
    refine k_lload X dX0_saturatingOrShift_143 1 rfl rfl ?_
    refine k_lload X dX0_saturatingOrShift_145 0 rfl rfl ?_
    refine k_lsub X dX0_saturatingOrShift_147 rfl ?_
    refine k_aload_n X dX0_saturatingOrShift_148 rfl 3 rfl rfl ?_
    refine k_get X i_wsX00 0 4 q19_4 rfl rfl rfl rfl rfl dX0_saturatingOrShift_149 rfl ?_
    refine k_aload_n X dX0_saturatingOrShift_152 rfl 3 rfl rfl ?_
    refine k_get X i_wsX00 0 3 q19_3 rfl rfl rfl rfl rfl dX0_saturatingOrShift_153 rfl ?_
    refine k_cV1 (st := []) (ws' := [(b_a, .inr (0, [.ref b_r, .int a_sew, .long a_greatest, .long a_greatestSigned, .long a_leastSigned])), (b_r, .inr (7, [.ref r_scalars, .ref r_vectors, .ref r_type, .int r_length, .int r_start, .int r_rounding, .int (fX0_clipped__r_saturated r_saturated ((fX10_signed u2 a_sew) - (fX10_signed u4 a_sew)) a_leastSigned a_greatestSigned), .long r_choices]))]) (wr := []) (ci := 0) (q9 := 0) X [.long ((fX10_signed u2 a_sew) - (fX10_signed u4 a_sew)), .long a_leastSigned, .long a_greatestSigned] 0 [0, 1] [] [0, 1] (kX0_clipped l D kI kZ b_a b_r a_sew a_greatest a_greatestSigned a_leastSigned r_scalars r_vectors r_type r_length r_start r_rounding r_saturated r_choices ((fX10_signed u2 a_sew) - (fX10_signed u4 a_sew)) a_leastSigned a_greatestSigned) vX0_clipped q25_0 dX0_saturatingOrShift_156 rfl rfl rfl rfl rfl rfl rfl rfl rfl rfl rfl rfl rfl rfl rfl ?_
    have e17 : (fX0_saturatingOrShift a_sew a_greatest a_greatestSigned a_leastSigned r_rounding u1 u2 u4) = (fX0_clipped ((fX10_signed u2 a_sew) - (fX10_signed u4 a_sew)) a_leastSigned a_greatestSigned) := by rw [fX0_saturatingOrShift, if_neg c1, if_neg c2, if_neg c3, if_pos c4]
    have e18 : (fX0_saturatingOrShift__r_saturated a_sew a_greatest a_greatestSigned a_leastSigned r_rounding r_saturated u1 u2 u4) = (fX0_clipped__r_saturated r_saturated ((fX10_signed u2 a_sew) - (fX10_signed u4 a_sew)) a_leastSigned a_greatestSigned) := by rw [fX0_saturatingOrShift__r_saturated, if_neg c1, if_neg c2, if_neg c3, if_pos c4]
    exact k_lret9 X hRt hLk e17.symm (by rw [e18]) dX0_saturatingOrShift_159
  by_cases c5 : u1 = (37 : Int32)
  · refine k_tblIn (tgt := 160) X dX0_saturatingOrShift_34 c5 (by decide) (by decide) rfl (by decide) ?_
    refine k_lload_n X dX0_saturatingOrShift_160 rfl 5 rfl rfl ?_
    refine k_iload X dX0_saturatingOrShift_161 2 rfl rfl ?_
    refine k_lshl X dX0_saturatingOrShift_163 rfl ?_
    have e19 : (fX0_saturatingOrShift a_sew a_greatest a_greatestSigned a_leastSigned r_rounding u1 u2 u4) = (lshl u2 ((Int64.toInt32 u4) &&& (a_sew - (1 : Int32)))) := by rw [fX0_saturatingOrShift, if_neg c1, if_neg c2, if_neg c3, if_neg c4, if_pos c5]
    have e20 : (fX0_saturatingOrShift__r_saturated a_sew a_greatest a_greatestSigned a_leastSigned r_rounding r_saturated u1 u2 u4) = r_saturated := by rw [fX0_saturatingOrShift__r_saturated, if_neg c1, if_neg c2, if_neg c3, if_neg c4, if_pos c5]
    exact k_lret9 X hRt hLk e19.symm (by rw [e20]) dX0_saturatingOrShift_164
  by_cases c6 : u1 = (39 : Int32)
  · refine k_tblIn (tgt := 165) X dX0_saturatingOrShift_34 c6 (by decide) (by decide) rfl (by decide) ?_
    refine k_aload_n X dX0_saturatingOrShift_165 rfl 3 rfl rfl ?_
    refine k_aload_n X dX0_saturatingOrShift_166 rfl 3 rfl rfl ?_
    refine k_lload X dX0_saturatingOrShift_167 1 rfl rfl ?_
    refine k_lload X dX0_saturatingOrShift_169 0 rfl rfl ?_
    refine k_lmul X dX0_saturatingOrShift_171 rfl ?_
    refine k_aload_n X dX0_saturatingOrShift_172 rfl 3 rfl rfl ?_
    refine k_get X i_wsX00 0 1 q19_1 rfl rfl rfl rfl rfl dX0_saturatingOrShift_173 rfl ?_
    refine k_iconst X dX0_saturatingOrShift_176 kc_i_1 rfl ?_
    refine k_isub X dX0_saturatingOrShift_177 rfl ?_
    refine k_cV1 (st := [.ref b_a]) (ws' := [(b_a, .inr (0, [.ref b_r, .int a_sew, .long a_greatest, .long a_greatestSigned, .long a_leastSigned])), (b_r, .inr (7, [.ref r_scalars, .ref r_vectors, .ref r_type, .int r_length, .int r_start, .int r_rounding, .int r_saturated, .long r_choices]))]) (wr := []) (ci := 0) (q9 := 0) X [.long ((fX10_signed u2 a_sew) * (fX10_signed u4 a_sew)), .int (a_sew - (1 : Int32))] 1 [0, 1] [] [0, 1] (kX0_rounded l D kI kZ b_a b_r a_sew a_greatest a_greatestSigned a_leastSigned r_scalars r_vectors r_type r_length r_start r_rounding r_saturated r_choices ((fX10_signed u2 a_sew) * (fX10_signed u4 a_sew)) (a_sew - (1 : Int32))) vX0_rounded q25_5 dX0_saturatingOrShift_178 rfl rfl rfl rfl rfl rfl rfl rfl rfl rfl rfl rfl rfl rfl rfl ?_
    refine k_aload_n X dX0_saturatingOrShift_181 rfl 3 rfl rfl ?_
    refine k_get X i_wsX00 0 4 q19_4 rfl rfl rfl rfl rfl dX0_saturatingOrShift_182 rfl ?_
    refine k_aload_n X dX0_saturatingOrShift_185 rfl 3 rfl rfl ?_
    refine k_get X i_wsX00 0 3 q19_3 rfl rfl rfl rfl rfl dX0_saturatingOrShift_186 rfl ?_
    refine k_cV1 (st := []) (ws' := [(b_a, .inr (0, [.ref b_r, .int a_sew, .long a_greatest, .long a_greatestSigned, .long a_leastSigned])), (b_r, .inr (7, [.ref r_scalars, .ref r_vectors, .ref r_type, .int r_length, .int r_start, .int r_rounding, .int (fX0_clipped__r_saturated r_saturated (fX0_rounded r_rounding ((fX10_signed u2 a_sew) * (fX10_signed u4 a_sew)) (a_sew - (1 : Int32))) a_leastSigned a_greatestSigned), .long r_choices]))]) (wr := []) (ci := 0) (q9 := 0) X [.long (fX0_rounded r_rounding ((fX10_signed u2 a_sew) * (fX10_signed u4 a_sew)) (a_sew - (1 : Int32))), .long a_leastSigned, .long a_greatestSigned] 0 [0, 1] [] [0, 1] (kX0_clipped l D kI kZ b_a b_r a_sew a_greatest a_greatestSigned a_leastSigned r_scalars r_vectors r_type r_length r_start r_rounding r_saturated r_choices (fX0_rounded r_rounding ((fX10_signed u2 a_sew) * (fX10_signed u4 a_sew)) (a_sew - (1 : Int32))) a_leastSigned a_greatestSigned) vX0_clipped q25_0 dX0_saturatingOrShift_189 rfl rfl rfl rfl rfl rfl rfl rfl rfl rfl rfl rfl rfl rfl rfl ?_
    have e21 : (fX0_saturatingOrShift a_sew a_greatest a_greatestSigned a_leastSigned r_rounding u1 u2 u4) = (fX0_clipped (fX0_rounded r_rounding ((fX10_signed u2 a_sew) * (fX10_signed u4 a_sew)) (a_sew - (1 : Int32))) a_leastSigned a_greatestSigned) := by rw [fX0_saturatingOrShift, if_neg c1, if_neg c2, if_neg c3, if_neg c4, if_neg c5, if_pos c6]
    have e22 : (fX0_saturatingOrShift__r_saturated a_sew a_greatest a_greatestSigned a_leastSigned r_rounding r_saturated u1 u2 u4) = (fX0_clipped__r_saturated r_saturated (fX0_rounded r_rounding ((fX10_signed u2 a_sew) * (fX10_signed u4 a_sew)) (a_sew - (1 : Int32))) a_leastSigned a_greatestSigned) := by rw [fX0_saturatingOrShift__r_saturated, if_neg c1, if_neg c2, if_neg c3, if_neg c4, if_neg c5, if_pos c6]
    exact k_lret9 X hRt hLk e21.symm (by rw [e22]) dX0_saturatingOrShift_192
  by_cases c7 : u1 = (40 : Int32)
  · refine k_tblIn (tgt := 193) X dX0_saturatingOrShift_34 c7 (by decide) (by decide) rfl (by decide) ?_
    refine k_lload_n X dX0_saturatingOrShift_193 rfl 5 rfl rfl ?_
    refine k_iload X dX0_saturatingOrShift_194 2 rfl rfl ?_
    refine k_lushr X dX0_saturatingOrShift_196 rfl ?_
    have e23 : (fX0_saturatingOrShift a_sew a_greatest a_greatestSigned a_leastSigned r_rounding u1 u2 u4) = (lsru u2 ((Int64.toInt32 u4) &&& (a_sew - (1 : Int32)))) := by rw [fX0_saturatingOrShift, if_neg c1, if_neg c2, if_neg c3, if_neg c4, if_neg c5, if_neg c6, if_pos c7]
    have e24 : (fX0_saturatingOrShift__r_saturated a_sew a_greatest a_greatestSigned a_leastSigned r_rounding r_saturated u1 u2 u4) = r_saturated := by rw [fX0_saturatingOrShift__r_saturated, if_neg c1, if_neg c2, if_neg c3, if_neg c4, if_neg c5, if_neg c6]
    exact k_lret9 X hRt hLk e23.symm (by rw [e24]) dX0_saturatingOrShift_197
  by_cases c8 : u1 = (41 : Int32)
  · refine k_tblIn (tgt := 198) X dX0_saturatingOrShift_34 c8 (by decide) (by decide) rfl (by decide) ?_
    refine k_lload X dX0_saturatingOrShift_198 1 rfl rfl ?_
    refine k_iload X dX0_saturatingOrShift_200 2 rfl rfl ?_
    refine k_lshr X dX0_saturatingOrShift_202 rfl ?_
    have e25 : (fX0_saturatingOrShift a_sew a_greatest a_greatestSigned a_leastSigned r_rounding u1 u2 u4) = (lshr (fX10_signed u2 a_sew) ((Int64.toInt32 u4) &&& (a_sew - (1 : Int32)))) := by rw [fX0_saturatingOrShift, if_neg c1, if_neg c2, if_neg c3, if_neg c4, if_neg c5, if_neg c6, if_neg c7, if_pos c8]
    have e26 : (fX0_saturatingOrShift__r_saturated a_sew a_greatest a_greatestSigned a_leastSigned r_rounding r_saturated u1 u2 u4) = r_saturated := by rw [fX0_saturatingOrShift__r_saturated, if_neg c1, if_neg c2, if_neg c3, if_neg c4, if_neg c5, if_neg c6]
    exact k_lret9 X hRt hLk e25.symm (by rw [e26]) dX0_saturatingOrShift_203
  by_cases c9 : u1 = (42 : Int32)
  · refine k_tblIn (tgt := 204) X dX0_saturatingOrShift_34 c9 (by decide) (by decide) rfl (by decide) ?_
    refine k_aload_n X dX0_saturatingOrShift_204 rfl 3 rfl rfl ?_
    refine k_lload_n X dX0_saturatingOrShift_205 rfl 5 rfl rfl ?_
    refine k_iload X dX0_saturatingOrShift_206 2 rfl rfl ?_
    refine k_cV1 (st := []) (ws' := [(b_a, .inr (0, [.ref b_r, .int a_sew, .long a_greatest, .long a_greatestSigned, .long a_leastSigned])), (b_r, .inr (7, [.ref r_scalars, .ref r_vectors, .ref r_type, .int r_length, .int r_start, .int r_rounding, .int r_saturated, .long r_choices]))]) (wr := []) (ci := 0) (q9 := 0) X [.long u2, .int ((Int64.toInt32 u4) &&& (a_sew - (1 : Int32)))] 0 [0, 1] [] [0, 1] (kX0_rounded l D kI kZ b_a b_r a_sew a_greatest a_greatestSigned a_leastSigned r_scalars r_vectors r_type r_length r_start r_rounding r_saturated r_choices u2 ((Int64.toInt32 u4) &&& (a_sew - (1 : Int32)))) vX0_rounded q25_5 dX0_saturatingOrShift_208 rfl rfl rfl rfl rfl rfl rfl rfl rfl rfl rfl rfl rfl rfl rfl ?_
    have e27 : (fX0_saturatingOrShift a_sew a_greatest a_greatestSigned a_leastSigned r_rounding u1 u2 u4) = (fX0_rounded r_rounding u2 ((Int64.toInt32 u4) &&& (a_sew - (1 : Int32)))) := by rw [fX0_saturatingOrShift, if_neg c1, if_neg c2, if_neg c3, if_neg c4, if_neg c5, if_neg c6, if_neg c7, if_neg c8, if_pos c9]
    have e28 : (fX0_saturatingOrShift__r_saturated a_sew a_greatest a_greatestSigned a_leastSigned r_rounding r_saturated u1 u2 u4) = r_saturated := by rw [fX0_saturatingOrShift__r_saturated, if_neg c1, if_neg c2, if_neg c3, if_neg c4, if_neg c5, if_neg c6]
    exact k_lret9 X hRt hLk e27.symm (by rw [e28]) dX0_saturatingOrShift_211
  by_cases c10 : u1 = (43 : Int32)
  · refine k_tblIn (tgt := 212) X dX0_saturatingOrShift_34 c10 (by decide) (by decide) rfl (by decide) ?_
    refine k_aload_n X dX0_saturatingOrShift_212 rfl 3 rfl rfl ?_
    refine k_lload X dX0_saturatingOrShift_213 1 rfl rfl ?_
    refine k_iload X dX0_saturatingOrShift_215 2 rfl rfl ?_
    refine k_cV1 (st := []) (ws' := [(b_a, .inr (0, [.ref b_r, .int a_sew, .long a_greatest, .long a_greatestSigned, .long a_leastSigned])), (b_r, .inr (7, [.ref r_scalars, .ref r_vectors, .ref r_type, .int r_length, .int r_start, .int r_rounding, .int r_saturated, .long r_choices]))]) (wr := []) (ci := 0) (q9 := 0) X [.long (fX10_signed u2 a_sew), .int ((Int64.toInt32 u4) &&& (a_sew - (1 : Int32)))] 0 [0, 1] [] [0, 1] (kX0_rounded l D kI kZ b_a b_r a_sew a_greatest a_greatestSigned a_leastSigned r_scalars r_vectors r_type r_length r_start r_rounding r_saturated r_choices (fX10_signed u2 a_sew) ((Int64.toInt32 u4) &&& (a_sew - (1 : Int32)))) vX0_rounded q25_5 dX0_saturatingOrShift_217 rfl rfl rfl rfl rfl rfl rfl rfl rfl rfl rfl rfl rfl rfl rfl ?_
    have e29 : (fX0_saturatingOrShift a_sew a_greatest a_greatestSigned a_leastSigned r_rounding u1 u2 u4) = (fX0_rounded r_rounding (fX10_signed u2 a_sew) ((Int64.toInt32 u4) &&& (a_sew - (1 : Int32)))) := by rw [fX0_saturatingOrShift, if_neg c1, if_neg c2, if_neg c3, if_neg c4, if_neg c5, if_neg c6, if_neg c7, if_neg c8, if_neg c9, if_pos c10]
    have e30 : (fX0_saturatingOrShift__r_saturated a_sew a_greatest a_greatestSigned a_leastSigned r_rounding r_saturated u1 u2 u4) = r_saturated := by rw [fX0_saturatingOrShift__r_saturated, if_neg c1, if_neg c2, if_neg c3, if_neg c4, if_neg c5, if_neg c6]
    exact k_lret9 X hRt hLk e29.symm (by rw [e30]) dX0_saturatingOrShift_220
  refine k_tblD (tgt := 221) X dX0_saturatingOrShift_34 [(32 : Int32), (33 : Int32), (34 : Int32), (35 : Int32), (37 : Int32), (39 : Int32), (40 : Int32), (41 : Int32), (42 : Int32), (43 : Int32)] (List.forall_mem_cons.mpr ⟨c1, (List.forall_mem_cons.mpr ⟨c2, (List.forall_mem_cons.mpr ⟨c3, (List.forall_mem_cons.mpr ⟨c4, (List.forall_mem_cons.mpr ⟨c5, (List.forall_mem_cons.mpr ⟨c6, (List.forall_mem_cons.mpr ⟨c7, (List.forall_mem_cons.mpr ⟨c8, (List.forall_mem_cons.mpr ⟨c9, (List.forall_mem_cons.mpr ⟨c10, (fun _ h => absurd h List.not_mem_nil)⟩)⟩)⟩)⟩)⟩)⟩)⟩)⟩)⟩)⟩) (by decide +kernel) (by decide) ?_
  refine k_lconst (v := (0 : Int64)) X dX0_saturatingOrShift_221 rfl rfl ?_
  have e31 : (fX0_saturatingOrShift a_sew a_greatest a_greatestSigned a_leastSigned r_rounding u1 u2 u4) = (0 : Int64) := by rw [fX0_saturatingOrShift, if_neg c1, if_neg c2, if_neg c3, if_neg c4, if_neg c5, if_neg c6, if_neg c7, if_neg c8, if_neg c9, if_neg c10]
  have e32 : (fX0_saturatingOrShift__r_saturated a_sew a_greatest a_greatestSigned a_leastSigned r_rounding r_saturated u1 u2 u4) = r_saturated := by rw [fX0_saturatingOrShift__r_saturated, if_neg c1, if_neg c2, if_neg c3, if_neg c4, if_neg c5, if_neg c6]
  exact k_lret9 X hRt hLk e31.symm (by rw [e32]) dX0_saturatingOrShift_222
theorem vX0_saturatingOrShift : kVi yX0_saturatingOrShift cX0_saturatingOrShift 11 (some .long) 3 := ⟨q24_23, q4_3, q24_21, q24_22, by decide, by decide +kernel⟩
noncomputable def fX0_narrow (a_sew : Int32) (a_greatest : Int64) (a_greatestSigned : Int64) (a_leastSigned : Int64) (r_rounding : Int32) (u1 : Int32) (u2 : Int64) (u4 : Int64) : Int64 := (if u1 = (44 : Int32) then (lsru u2 ((Int64.toInt32 u4) &&& (((2 : Int32) * a_sew) - (1 : Int32)))) else (if u1 = (45 : Int32) then (lshr (fX10_signed u2 ((2 : Int32) * a_sew)) ((Int64.toInt32 u4) &&& (((2 : Int32) * a_sew) - (1 : Int32)))) else (if u1 = (46 : Int32) then (fX0_clipped (fX0_rounded r_rounding u2 ((Int64.toInt32 u4) &&& (((2 : Int32) * a_sew) - (1 : Int32)))) (0 : Int64) a_greatest) else (if u1 = (47 : Int32) then (fX0_clipped (fX0_rounded r_rounding (fX10_signed u2 ((2 : Int32) * a_sew)) ((Int64.toInt32 u4) &&& (((2 : Int32) * a_sew) - (1 : Int32)))) a_leastSigned a_greatestSigned) else (0 : Int64)))))
noncomputable def fX0_narrow__r_saturated (a_sew : Int32) (a_greatest : Int64) (a_greatestSigned : Int64) (a_leastSigned : Int64) (r_rounding : Int32) (r_saturated : Int32) (u1 : Int32) (u2 : Int64) (u4 : Int64) : Int32 := (if u1 = (44 : Int32) then r_saturated else (if u1 = (45 : Int32) then r_saturated else (if u1 = (46 : Int32) then (fX0_clipped__r_saturated r_saturated (fX0_rounded r_rounding u2 ((Int64.toInt32 u4) &&& (((2 : Int32) * a_sew) - (1 : Int32)))) (0 : Int64) a_greatest) else (if u1 = (47 : Int32) then (fX0_clipped__r_saturated r_saturated (fX0_rounded r_rounding (fX10_signed u2 ((2 : Int32) * a_sew)) ((Int64.toInt32 u4) &&& (((2 : Int32) * a_sew) - (1 : Int32)))) a_leastSigned a_greatestSigned) else r_saturated))))
set_option maxRecDepth 100000 in
set_option maxHeartbeats 4000000 in
theorem kX0_narrow (l : Launch) (D : va_G) (kI kZ : ClassId) (b_a : Nat) (b_r : Nat) (a_sew : Int32) (a_greatest : Int64) (a_greatestSigned : Int64) (a_leastSigned : Int64) (r_scalars : Nat) (r_vectors : Nat) (r_type : Nat) (r_length : Int32) (r_start : Int32) (r_rounding : Int32) (r_saturated : Int32) (r_choices : Int64) (u1 : Int32) (u2 : Int64) (u4 : Int64) : kM l yX0_narrow cX0_narrow 9 (some .long) 1 22 0 0 D [(kI, .int), (kZ, .boolean)] [.ref b_a, .int u1, .long u2, .long u4] [(b_a, .inr (0, [.ref b_r, .int a_sew, .long a_greatest, .long a_greatestSigned, .long a_leastSigned])), (b_r, .inr (7, [.ref r_scalars, .ref r_vectors, .ref r_type, .int r_length, .int r_start, .int r_rounding, .int r_saturated, .long r_choices]))] (some (.long (fX0_narrow a_sew a_greatest a_greatestSigned a_leastSigned r_rounding u1 u2 u4))) [(b_a, .inr (0, [.ref b_r, .int a_sew, .long a_greatest, .long a_greatestSigned, .long a_leastSigned])), (b_r, .inr (7, [.ref r_scalars, .ref r_vectors, .ref r_type, .int r_length, .int r_start, .int r_rounding, .int (fX0_narrow__r_saturated a_sew a_greatest a_greatestSigned a_leastSigned r_rounding r_saturated u1 u2 u4), .long r_choices]))] := by
  refine kM.of (by decide) rfl ?_
  intro p e R s m args below meth c A X _ _ hRt hLk
  refine k_sub [0, 1, 2, 3] (lv' := [(0, .ref b_a), (1, .int u1), (2, .long u2), (4, .long u4)]) rfl ?_
  refine k_lload X dX0_narrow_0 3 rfl rfl ?_
  refine k_l2i X dX0_narrow_2 rfl ?_
  refine k_iconst X dX0_narrow_3 kc_i_2 rfl ?_
  refine k_aload_n X dX0_narrow_4 rfl 0 rfl rfl ?_
  refine k_get X i_wsX00 0 1 q19_1 rfl rfl rfl rfl rfl dX0_narrow_5 rfl ?_
  refine k_imul X dX0_narrow_8 rfl ?_
  refine k_iconst X dX0_narrow_9 kc_i_1 rfl ?_
  refine k_isub X dX0_narrow_10 rfl ?_
  refine k_iand X dX0_narrow_11 rfl ?_
  refine k_istore (lv' := [(6, .int ((Int64.toInt32 u4) &&& (((2 : Int32) * a_sew) - (1 : Int32)))), (0, .ref b_a), (1, .int u1), (2, .long u2), (4, .long u4)]) X dX0_narrow_12 rfl rfl rfl ?_
  refine k_lload_n X dX0_narrow_14 rfl 3 rfl rfl ?_
  refine k_iconst X dX0_narrow_15 kc_i_2 rfl ?_
  refine k_aload_n X dX0_narrow_16 rfl 1 rfl rfl ?_
  refine k_get X i_wsX00 0 1 q19_1 rfl rfl rfl rfl rfl dX0_narrow_17 rfl ?_
  refine k_imul X dX0_narrow_20 rfl ?_
  refine k_cN1 (st := []) (ws' := [(b_a, .inr (0, [.ref b_r, .int a_sew, .long a_greatest, .long a_greatestSigned, .long a_leastSigned])), (b_r, .inr (7, [.ref r_scalars, .ref r_vectors, .ref r_type, .int r_length, .int r_start, .int r_rounding, .int r_saturated, .long r_choices]))]) (wr := [(b_a, .inr (0, [.ref b_r, .int a_sew, .long a_greatest, .long a_greatestSigned, .long a_leastSigned])), (b_r, .inr (7, [.ref r_scalars, .ref r_vectors, .ref r_type, .int r_length, .int r_start, .int r_rounding, .int r_saturated, .long r_choices]))]) X [.long u2, .int ((2 : Int32) * a_sew)] 0 [] [0, 1] [0, 1] (kX10_signed l D kI kZ u2 ((2 : Int32) * a_sew)) vX10_signed X.2.1.2.1.2.1 dX0_narrow_21 rfl rfl rfl rfl rfl rfl rfl rfl rfl rfl rfl rfl rfl ?_
  refine k_lstore (lv' := [(7, .long (fX10_signed u2 ((2 : Int32) * a_sew))), (6, .int ((Int64.toInt32 u4) &&& (((2 : Int32) * a_sew) - (1 : Int32)))), (0, .ref b_a), (1, .int u1), (2, .long u2), (4, .long u4)]) X dX0_narrow_24 rfl rfl rfl ?_
  refine k_iload_n X dX0_narrow_26 rfl 3 rfl rfl ?_
  by_cases c1 : u1 = (44 : Int32)
  · refine k_tblIn (tgt := 56) X dX0_narrow_27 c1 (by decide) (by decide) rfl (by decide) ?_
    refine k_lload_n X dX0_narrow_56 rfl 4 rfl rfl ?_
    refine k_iload X dX0_narrow_57 1 rfl rfl ?_
    refine k_lushr X dX0_narrow_59 rfl ?_
    have e5 : (fX0_narrow a_sew a_greatest a_greatestSigned a_leastSigned r_rounding u1 u2 u4) = (lsru u2 ((Int64.toInt32 u4) &&& (((2 : Int32) * a_sew) - (1 : Int32)))) := by rw [fX0_narrow, if_pos c1]
    have e6 : (fX0_narrow__r_saturated a_sew a_greatest a_greatestSigned a_leastSigned r_rounding r_saturated u1 u2 u4) = r_saturated := by rw [fX0_narrow__r_saturated, if_pos c1]
    exact k_lret9 X hRt hLk e5.symm (by rw [e6]) dX0_narrow_60
  by_cases c2 : u1 = (45 : Int32)
  · refine k_tblIn (tgt := 61) X dX0_narrow_27 c2 (by decide) (by decide) rfl (by decide) ?_
    refine k_lload X dX0_narrow_61 0 rfl rfl ?_
    refine k_iload X dX0_narrow_63 1 rfl rfl ?_
    refine k_lshr X dX0_narrow_65 rfl ?_
    have e7 : (fX0_narrow a_sew a_greatest a_greatestSigned a_leastSigned r_rounding u1 u2 u4) = (lshr (fX10_signed u2 ((2 : Int32) * a_sew)) ((Int64.toInt32 u4) &&& (((2 : Int32) * a_sew) - (1 : Int32)))) := by rw [fX0_narrow, if_neg c1, if_pos c2]
    have e8 : (fX0_narrow__r_saturated a_sew a_greatest a_greatestSigned a_leastSigned r_rounding r_saturated u1 u2 u4) = r_saturated := by rw [fX0_narrow__r_saturated, if_neg c1, if_pos c2]
    exact k_lret9 X hRt hLk e7.symm (by rw [e8]) dX0_narrow_66
  by_cases c3 : u1 = (46 : Int32)
  · refine k_tblIn (tgt := 67) X dX0_narrow_27 c3 (by decide) (by decide) rfl (by decide) ?_
    refine k_aload_n X dX0_narrow_67 rfl 2 rfl rfl ?_
    refine k_aload_n X dX0_narrow_68 rfl 2 rfl rfl ?_
    refine k_lload_n X dX0_narrow_69 rfl 4 rfl rfl ?_
    refine k_iload X dX0_narrow_70 1 rfl rfl ?_
    refine k_cV1 (st := [.ref b_a]) (ws' := [(b_a, .inr (0, [.ref b_r, .int a_sew, .long a_greatest, .long a_greatestSigned, .long a_leastSigned])), (b_r, .inr (7, [.ref r_scalars, .ref r_vectors, .ref r_type, .int r_length, .int r_start, .int r_rounding, .int r_saturated, .long r_choices]))]) (wr := []) (ci := 0) (q9 := 0) X [.long u2, .int ((Int64.toInt32 u4) &&& (((2 : Int32) * a_sew) - (1 : Int32)))] 1 [0, 1] [] [0, 1] (kX0_rounded l D kI kZ b_a b_r a_sew a_greatest a_greatestSigned a_leastSigned r_scalars r_vectors r_type r_length r_start r_rounding r_saturated r_choices u2 ((Int64.toInt32 u4) &&& (((2 : Int32) * a_sew) - (1 : Int32)))) vX0_rounded q25_5 dX0_narrow_72 rfl rfl rfl rfl rfl rfl rfl rfl rfl rfl rfl rfl rfl rfl rfl ?_
    refine k_lconst (v := (0 : Int64)) X dX0_narrow_75 rfl rfl ?_
    refine k_aload_n X dX0_narrow_76 rfl 2 rfl rfl ?_
    refine k_get X i_wsX00 0 2 q19_2 rfl rfl rfl rfl rfl dX0_narrow_77 rfl ?_
    refine k_cV1 (st := []) (ws' := [(b_a, .inr (0, [.ref b_r, .int a_sew, .long a_greatest, .long a_greatestSigned, .long a_leastSigned])), (b_r, .inr (7, [.ref r_scalars, .ref r_vectors, .ref r_type, .int r_length, .int r_start, .int r_rounding, .int (fX0_clipped__r_saturated r_saturated (fX0_rounded r_rounding u2 ((Int64.toInt32 u4) &&& (((2 : Int32) * a_sew) - (1 : Int32)))) (0 : Int64) a_greatest), .long r_choices]))]) (wr := []) (ci := 0) (q9 := 0) X [.long (fX0_rounded r_rounding u2 ((Int64.toInt32 u4) &&& (((2 : Int32) * a_sew) - (1 : Int32)))), .long (0 : Int64), .long a_greatest] 0 [0, 1] [] [0, 1] (kX0_clipped l D kI kZ b_a b_r a_sew a_greatest a_greatestSigned a_leastSigned r_scalars r_vectors r_type r_length r_start r_rounding r_saturated r_choices (fX0_rounded r_rounding u2 ((Int64.toInt32 u4) &&& (((2 : Int32) * a_sew) - (1 : Int32)))) (0 : Int64) a_greatest) vX0_clipped q25_0 dX0_narrow_80 rfl rfl rfl rfl rfl rfl rfl rfl rfl rfl rfl rfl rfl rfl rfl ?_
    have e9 : (fX0_narrow a_sew a_greatest a_greatestSigned a_leastSigned r_rounding u1 u2 u4) = (fX0_clipped (fX0_rounded r_rounding u2 ((Int64.toInt32 u4) &&& (((2 : Int32) * a_sew) - (1 : Int32)))) (0 : Int64) a_greatest) := by rw [fX0_narrow, if_neg c1, if_neg c2, if_pos c3]
    have e10 : (fX0_narrow__r_saturated a_sew a_greatest a_greatestSigned a_leastSigned r_rounding r_saturated u1 u2 u4) = (fX0_clipped__r_saturated r_saturated (fX0_rounded r_rounding u2 ((Int64.toInt32 u4) &&& (((2 : Int32) * a_sew) - (1 : Int32)))) (0 : Int64) a_greatest) := by rw [fX0_narrow__r_saturated, if_neg c1, if_neg c2, if_pos c3]
    exact k_lret9 X hRt hLk e9.symm (by rw [e10]) dX0_narrow_83
  by_cases c4 : u1 = (47 : Int32)
  · refine k_tblIn (tgt := 84) X dX0_narrow_27 c4 (by decide) (by decide) rfl (by decide) ?_
    refine k_aload_n X dX0_narrow_84 rfl 2 rfl rfl ?_
    refine k_aload_n X dX0_narrow_85 rfl 2 rfl rfl ?_
    refine k_lload X dX0_narrow_86 0 rfl rfl ?_
    refine k_iload X dX0_narrow_88 1 rfl rfl ?_
    refine k_cV1 (st := [.ref b_a]) (ws' := [(b_a, .inr (0, [.ref b_r, .int a_sew, .long a_greatest, .long a_greatestSigned, .long a_leastSigned])), (b_r, .inr (7, [.ref r_scalars, .ref r_vectors, .ref r_type, .int r_length, .int r_start, .int r_rounding, .int r_saturated, .long r_choices]))]) (wr := []) (ci := 0) (q9 := 0) X [.long (fX10_signed u2 ((2 : Int32) * a_sew)), .int ((Int64.toInt32 u4) &&& (((2 : Int32) * a_sew) - (1 : Int32)))] 1 [0, 1] [] [0, 1] (kX0_rounded l D kI kZ b_a b_r a_sew a_greatest a_greatestSigned a_leastSigned r_scalars r_vectors r_type r_length r_start r_rounding r_saturated r_choices (fX10_signed u2 ((2 : Int32) * a_sew)) ((Int64.toInt32 u4) &&& (((2 : Int32) * a_sew) - (1 : Int32)))) vX0_rounded q25_5 dX0_narrow_90 rfl rfl rfl rfl rfl rfl rfl rfl rfl rfl rfl rfl rfl rfl rfl ?_
    refine k_aload_n X dX0_narrow_93 rfl 2 rfl rfl ?_
    refine k_get X i_wsX00 0 4 q19_4 rfl rfl rfl rfl rfl dX0_narrow_94 rfl ?_
    refine k_aload_n X dX0_narrow_97 rfl 2 rfl rfl ?_
    refine k_get X i_wsX00 0 3 q19_3 rfl rfl rfl rfl rfl dX0_narrow_98 rfl ?_
    refine k_cV1 (st := []) (ws' := [(b_a, .inr (0, [.ref b_r, .int a_sew, .long a_greatest, .long a_greatestSigned, .long a_leastSigned])), (b_r, .inr (7, [.ref r_scalars, .ref r_vectors, .ref r_type, .int r_length, .int r_start, .int r_rounding, .int (fX0_clipped__r_saturated r_saturated (fX0_rounded r_rounding (fX10_signed u2 ((2 : Int32) * a_sew)) ((Int64.toInt32 u4) &&& (((2 : Int32) * a_sew) - (1 : Int32)))) a_leastSigned a_greatestSigned), .long r_choices]))]) (wr := []) (ci := 0) (q9 := 0) X [.long (fX0_rounded r_rounding (fX10_signed u2 ((2 : Int32) * a_sew)) ((Int64.toInt32 u4) &&& (((2 : Int32) * a_sew) - (1 : Int32)))), .long a_leastSigned, .long a_greatestSigned] 0 [0, 1] [] [0, 1] (kX0_clipped l D kI kZ b_a b_r a_sew a_greatest a_greatestSigned a_leastSigned r_scalars r_vectors r_type r_length r_start r_rounding r_saturated r_choices (fX0_rounded r_rounding (fX10_signed u2 ((2 : Int32) * a_sew)) ((Int64.toInt32 u4) &&& (((2 : Int32) * a_sew) - (1 : Int32)))) a_leastSigned a_greatestSigned) vX0_clipped q25_0 dX0_narrow_101 rfl rfl rfl rfl rfl rfl rfl rfl rfl rfl rfl rfl rfl rfl rfl ?_
    have e11 : (fX0_narrow a_sew a_greatest a_greatestSigned a_leastSigned r_rounding u1 u2 u4) = (fX0_clipped (fX0_rounded r_rounding (fX10_signed u2 ((2 : Int32) * a_sew)) ((Int64.toInt32 u4) &&& (((2 : Int32) * a_sew) - (1 : Int32)))) a_leastSigned a_greatestSigned) := by rw [fX0_narrow, if_neg c1, if_neg c2, if_neg c3, if_pos c4]
    have e12 : (fX0_narrow__r_saturated a_sew a_greatest a_greatestSigned a_leastSigned r_rounding r_saturated u1 u2 u4) = (fX0_clipped__r_saturated r_saturated (fX0_rounded r_rounding (fX10_signed u2 ((2 : Int32) * a_sew)) ((Int64.toInt32 u4) &&& (((2 : Int32) * a_sew) - (1 : Int32)))) a_leastSigned a_greatestSigned) := by rw [fX0_narrow__r_saturated, if_neg c1, if_neg c2, if_neg c3, if_pos c4]
    exact k_lret9 X hRt hLk e11.symm (by rw [e12]) dX0_narrow_104
  refine k_tblD (tgt := 105) X dX0_narrow_27 [(44 : Int32), (45 : Int32), (46 : Int32), (47 : Int32)] (List.forall_mem_cons.mpr ⟨c1, (List.forall_mem_cons.mpr ⟨c2, (List.forall_mem_cons.mpr ⟨c3, (List.forall_mem_cons.mpr ⟨c4, (fun _ h => absurd h List.not_mem_nil)⟩)⟩)⟩)⟩) (by decide +kernel) (by decide) ?_
  refine k_lconst (v := (0 : Int64)) X dX0_narrow_105 rfl rfl ?_
  have e13 : (fX0_narrow a_sew a_greatest a_greatestSigned a_leastSigned r_rounding u1 u2 u4) = (0 : Int64) := by rw [fX0_narrow, if_neg c1, if_neg c2, if_neg c3, if_neg c4]
  have e14 : (fX0_narrow__r_saturated a_sew a_greatest a_greatestSigned a_leastSigned r_rounding r_saturated u1 u2 u4) = r_saturated := by rw [fX0_narrow__r_saturated, if_neg c1, if_neg c2, if_neg c3, if_neg c4]
  exact k_lret9 X hRt hLk e13.symm (by rw [e14]) dX0_narrow_106
theorem vX0_narrow : kVi yX0_narrow cX0_narrow 9 (some .long) 3 := ⟨q25_14, q4_3, q25_12, q25_13, by decide, by decide +kernel⟩
noncomputable def fX0_average (a_sew : Int32) (r_rounding : Int32) (u1 : Int32) (u2 : Int64) (u4 : Int64) : Int64 := (if u1 = (72 : Int32) then (fX0_rounded r_rounding (u2 + u4) (1 : Int32)) else (if u1 = (73 : Int32) then (fX0_rounded r_rounding ((fX10_signed u2 a_sew) + (fX10_signed u4 a_sew)) (1 : Int32)) else (if u1 = (74 : Int32) then (fX0_rounded r_rounding (u2 - u4) (1 : Int32)) else (if u1 = (75 : Int32) then (fX0_rounded r_rounding ((fX10_signed u2 a_sew) - (fX10_signed u4 a_sew)) (1 : Int32)) else (0 : Int64)))))
set_option maxRecDepth 100000 in
set_option maxHeartbeats 4000000 in
theorem kX0_average (l : Launch) (D : va_G) (kI kZ : ClassId) (b_a : Nat) (b_r : Nat) (a_sew : Int32) (a_greatest : Int64) (a_greatestSigned : Int64) (a_leastSigned : Int64) (r_scalars : Nat) (r_vectors : Nat) (r_type : Nat) (r_length : Int32) (r_start : Int32) (r_rounding : Int32) (r_saturated : Int32) (r_choices : Int64) (u1 : Int32) (u2 : Int64) (u4 : Int64) : kM l yX0_average cX0_average 10 (some .long) 1 21 0 0 D [(kI, .int), (kZ, .boolean)] [.ref b_a, .int u1, .long u2, .long u4] [(b_a, .inr (0, [.ref b_r, .int a_sew, .long a_greatest, .long a_greatestSigned, .long a_leastSigned])), (b_r, .inr (7, [.ref r_scalars, .ref r_vectors, .ref r_type, .int r_length, .int r_start, .int r_rounding, .int r_saturated, .long r_choices]))] (some (.long (fX0_average a_sew r_rounding u1 u2 u4))) [(b_a, .inr (0, [.ref b_r, .int a_sew, .long a_greatest, .long a_greatestSigned, .long a_leastSigned])), (b_r, .inr (7, [.ref r_scalars, .ref r_vectors, .ref r_type, .int r_length, .int r_start, .int r_rounding, .int r_saturated, .long r_choices]))] := by
  refine kM.of (by decide) rfl ?_
  intro p e R s m args below meth c A X _ _ hRt hLk
  refine k_sub [0, 1, 2, 3] (lv' := [(0, .ref b_a), (1, .int u1), (2, .long u2), (4, .long u4)]) rfl ?_
  refine k_lload_n X dX0_average_0 rfl 2 rfl rfl ?_
  refine k_aload_n X dX0_average_1 rfl 0 rfl rfl ?_
  refine k_get X i_wsX00 0 1 q19_1 rfl rfl rfl rfl rfl dX0_average_2 rfl ?_
  refine k_cN1 (st := []) (ws' := [(b_a, .inr (0, [.ref b_r, .int a_sew, .long a_greatest, .long a_greatestSigned, .long a_leastSigned])), (b_r, .inr (7, [.ref r_scalars, .ref r_vectors, .ref r_type, .int r_length, .int r_start, .int r_rounding, .int r_saturated, .long r_choices]))]) (wr := [(b_a, .inr (0, [.ref b_r, .int a_sew, .long a_greatest, .long a_greatestSigned, .long a_leastSigned])), (b_r, .inr (7, [.ref r_scalars, .ref r_vectors, .ref r_type, .int r_length, .int r_start, .int r_rounding, .int r_saturated, .long r_choices]))]) X [.long u2, .int a_sew] 0 [] [0, 1] [0, 1] (kX10_signed l D kI kZ u2 a_sew) vX10_signed X.2.1.2.1.2.1 dX0_average_5 rfl rfl rfl rfl rfl rfl rfl rfl rfl rfl rfl rfl rfl ?_
  refine k_lstore (lv' := [(6, .long (fX10_signed u2 a_sew)), (0, .ref b_a), (1, .int u1), (2, .long u2), (4, .long u4)]) X dX0_average_8 rfl rfl rfl ?_
  refine k_lload X dX0_average_10 4 rfl rfl ?_
  refine k_aload_n X dX0_average_12 rfl 1 rfl rfl ?_
  refine k_get X i_wsX00 0 1 q19_1 rfl rfl rfl rfl rfl dX0_average_13 rfl ?_
  refine k_cN1 (st := []) (ws' := [(b_a, .inr (0, [.ref b_r, .int a_sew, .long a_greatest, .long a_greatestSigned, .long a_leastSigned])), (b_r, .inr (7, [.ref r_scalars, .ref r_vectors, .ref r_type, .int r_length, .int r_start, .int r_rounding, .int r_saturated, .long r_choices]))]) (wr := [(b_a, .inr (0, [.ref b_r, .int a_sew, .long a_greatest, .long a_greatestSigned, .long a_leastSigned])), (b_r, .inr (7, [.ref r_scalars, .ref r_vectors, .ref r_type, .int r_length, .int r_start, .int r_rounding, .int r_saturated, .long r_choices]))]) X [.long u4, .int a_sew] 0 [] [0, 1] [0, 1] (kX10_signed l D kI kZ u4 a_sew) vX10_signed X.2.1.2.1.2.1 dX0_average_16 rfl rfl rfl rfl rfl rfl rfl rfl rfl rfl rfl rfl rfl ?_
  refine k_lstore (lv' := [(8, .long (fX10_signed u4 a_sew)), (6, .long (fX10_signed u2 a_sew)), (0, .ref b_a), (1, .int u1), (2, .long u2), (4, .long u4)]) X dX0_average_19 rfl rfl rfl ?_
  refine k_iload_n X dX0_average_21 rfl 3 rfl rfl ?_
  by_cases c1 : u1 = (72 : Int32)
  · refine k_tblIn (tgt := 52) X dX0_average_22 c1 (by decide) (by decide) rfl (by decide) ?_
    refine k_aload_n X dX0_average_52 rfl 2 rfl rfl ?_
    refine k_lload_n X dX0_average_53 rfl 4 rfl rfl ?_
    refine k_lload X dX0_average_54 5 rfl rfl ?_
    refine k_ladd X dX0_average_56 rfl ?_
    refine k_iconst X dX0_average_57 kc_i_1 rfl ?_
    refine k_cV1 (st := []) (ws' := [(b_a, .inr (0, [.ref b_r, .int a_sew, .long a_greatest, .long a_greatestSigned, .long a_leastSigned])), (b_r, .inr (7, [.ref r_scalars, .ref r_vectors, .ref r_type, .int r_length, .int r_start, .int r_rounding, .int r_saturated, .long r_choices]))]) (wr := []) (ci := 0) (q9 := 0) X [.long (u2 + u4), .int (1 : Int32)] 0 [0, 1] [] [0, 1] (kX0_rounded l D kI kZ b_a b_r a_sew a_greatest a_greatestSigned a_leastSigned r_scalars r_vectors r_type r_length r_start r_rounding r_saturated r_choices (u2 + u4) (1 : Int32)) vX0_rounded q25_5 dX0_average_58 rfl rfl rfl rfl rfl rfl rfl rfl rfl rfl rfl rfl rfl rfl rfl ?_
    have e5 : (fX0_average a_sew r_rounding u1 u2 u4) = (fX0_rounded r_rounding (u2 + u4) (1 : Int32)) := by rw [fX0_average, if_pos c1]
    exact k_lret9 X hRt hLk e5.symm rfl dX0_average_61
  by_cases c2 : u1 = (73 : Int32)
  · refine k_tblIn (tgt := 62) X dX0_average_22 c2 (by decide) (by decide) rfl (by decide) ?_
    refine k_aload_n X dX0_average_62 rfl 2 rfl rfl ?_
    refine k_lload X dX0_average_63 1 rfl rfl ?_
    refine k_lload X dX0_average_65 0 rfl rfl ?_
    refine k_ladd X dX0_average_67 rfl ?_
    refine k_iconst X dX0_average_68 kc_i_1 rfl ?_
    refine k_cV1 (st := []) (ws' := [(b_a, .inr (0, [.ref b_r, .int a_sew, .long a_greatest, .long a_greatestSigned, .long a_leastSigned])), (b_r, .inr (7, [.ref r_scalars, .ref r_vectors, .ref r_type, .int r_length, .int r_start, .int r_rounding, .int r_saturated, .long r_choices]))]) (wr := []) (ci := 0) (q9 := 0) X [.long ((fX10_signed u2 a_sew) + (fX10_signed u4 a_sew)), .int (1 : Int32)] 0 [0, 1] [] [0, 1] (kX0_rounded l D kI kZ b_a b_r a_sew a_greatest a_greatestSigned a_leastSigned r_scalars r_vectors r_type r_length r_start r_rounding r_saturated r_choices ((fX10_signed u2 a_sew) + (fX10_signed u4 a_sew)) (1 : Int32)) vX0_rounded q25_5 dX0_average_69 rfl rfl rfl rfl rfl rfl rfl rfl rfl rfl rfl rfl rfl rfl rfl ?_
    have e6 : (fX0_average a_sew r_rounding u1 u2 u4) = (fX0_rounded r_rounding ((fX10_signed u2 a_sew) + (fX10_signed u4 a_sew)) (1 : Int32)) := by rw [fX0_average, if_neg c1, if_pos c2]
    exact k_lret9 X hRt hLk e6.symm rfl dX0_average_72
  by_cases c3 : u1 = (74 : Int32)
  · refine k_tblIn (tgt := 73) X dX0_average_22 c3 (by decide) (by decide) rfl (by decide) ?_
    refine k_aload_n X dX0_average_73 rfl 2 rfl rfl ?_
    refine k_lload_n X dX0_average_74 rfl 4 rfl rfl ?_
    refine k_lload X dX0_average_75 5 rfl rfl ?_
    refine k_lsub X dX0_average_77 rfl ?_
    refine k_iconst X dX0_average_78 kc_i_1 rfl ?_
    refine k_cV1 (st := []) (ws' := [(b_a, .inr (0, [.ref b_r, .int a_sew, .long a_greatest, .long a_greatestSigned, .long a_leastSigned])), (b_r, .inr (7, [.ref r_scalars, .ref r_vectors, .ref r_type, .int r_length, .int r_start, .int r_rounding, .int r_saturated, .long r_choices]))]) (wr := []) (ci := 0) (q9 := 0) X [.long (u2 - u4), .int (1 : Int32)] 0 [0, 1] [] [0, 1] (kX0_rounded l D kI kZ b_a b_r a_sew a_greatest a_greatestSigned a_leastSigned r_scalars r_vectors r_type r_length r_start r_rounding r_saturated r_choices (u2 - u4) (1 : Int32)) vX0_rounded q25_5 dX0_average_79 rfl rfl rfl rfl rfl rfl rfl rfl rfl rfl rfl rfl rfl rfl rfl ?_
    have e7 : (fX0_average a_sew r_rounding u1 u2 u4) = (fX0_rounded r_rounding (u2 - u4) (1 : Int32)) := by rw [fX0_average, if_neg c1, if_neg c2, if_pos c3]
    exact k_lret9 X hRt hLk e7.symm rfl dX0_average_82
  by_cases c4 : u1 = (75 : Int32)
  · refine k_tblIn (tgt := 83) X dX0_average_22 c4 (by decide) (by decide) rfl (by decide) ?_
    refine k_aload_n X dX0_average_83 rfl 2 rfl rfl ?_
    refine k_lload X dX0_average_84 1 rfl rfl ?_
    refine k_lload X dX0_average_86 0 rfl rfl ?_
    refine k_lsub X dX0_average_88 rfl ?_
    refine k_iconst X dX0_average_89 kc_i_1 rfl ?_
    refine k_cV1 (st := []) (ws' := [(b_a, .inr (0, [.ref b_r, .int a_sew, .long a_greatest, .long a_greatestSigned, .long a_leastSigned])), (b_r, .inr (7, [.ref r_scalars, .ref r_vectors, .ref r_type, .int r_length, .int r_start, .int r_rounding, .int r_saturated, .long r_choices]))]) (wr := []) (ci := 0) (q9 := 0) X [.long ((fX10_signed u2 a_sew) - (fX10_signed u4 a_sew)), .int (1 : Int32)] 0 [0, 1] [] [0, 1] (kX0_rounded l D kI kZ b_a b_r a_sew a_greatest a_greatestSigned a_leastSigned r_scalars r_vectors r_type r_length r_start r_rounding r_saturated r_choices ((fX10_signed u2 a_sew) - (fX10_signed u4 a_sew)) (1 : Int32)) vX0_rounded q25_5 dX0_average_90 rfl rfl rfl rfl rfl rfl rfl rfl rfl rfl rfl rfl rfl rfl rfl ?_
    have e8 : (fX0_average a_sew r_rounding u1 u2 u4) = (fX0_rounded r_rounding ((fX10_signed u2 a_sew) - (fX10_signed u4 a_sew)) (1 : Int32)) := by rw [fX0_average, if_neg c1, if_neg c2, if_neg c3, if_pos c4]
    exact k_lret9 X hRt hLk e8.symm rfl dX0_average_93
  refine k_tblD (tgt := 94) X dX0_average_22 [(72 : Int32), (73 : Int32), (74 : Int32), (75 : Int32)] (List.forall_mem_cons.mpr ⟨c1, (List.forall_mem_cons.mpr ⟨c2, (List.forall_mem_cons.mpr ⟨c3, (List.forall_mem_cons.mpr ⟨c4, (fun _ h => absurd h List.not_mem_nil)⟩)⟩)⟩)⟩) (by decide +kernel) (by decide) ?_
  refine k_lconst (v := (0 : Int64)) X dX0_average_94 rfl rfl ?_
  have e9 : (fX0_average a_sew r_rounding u1 u2 u4) = (0 : Int64) := by rw [fX0_average, if_neg c1, if_neg c2, if_neg c3, if_neg c4]
  exact k_lret9 X hRt hLk e9.symm rfl dX0_average_95
theorem vX0_average : kVi yX0_average cX0_average 10 (some .long) 3 := ⟨q25_18, q4_3, q25_16, q25_17, by decide, by decide +kernel⟩
noncomputable def pX0_quotient_54_S1 (u1 : Int32) (u2 : Int64) : Int64 := (if u1 = (96 : Int32) then (-1 : Int64) else (if u1 = (97 : Int32) then (-1 : Int64) else u2))
noncomputable def rX0_quotient_35 (u1 : Int32) (u2 : Int64) : Int64 := (pX0_quotient_54_S1 u1 u2)
noncomputable def fX0_quotient (a_sew : Int32) (u1 : Int32) (u2 : Int64) (u4 : Int64) : Int64 := (if u4 = (0 : Int64) then (rX0_quotient_35 u1 u2) else (if (fX10_signed u4 a_sew) = (0 : Int64) then (rX0_quotient_35 u1 u2) else (if u1 = (96 : Int32) then (u2 / u4) else (if u1 = (97 : Int32) then ((fX10_signed u2 a_sew) / (fX10_signed u4 a_sew)) else (if u1 = (98 : Int32) then (lrem u2 u4) else (if u1 = (99 : Int32) then (lrem (fX10_signed u2 a_sew) (fX10_signed u4 a_sew)) else (0 : Int64)))))))
noncomputable def okX0_quotient (a_sew : Int32) (u1 : Int32) (u4 : Int64) : Prop := (¬ (u4 = (0 : Int64)) → ¬ ((fX10_signed u4 a_sew) = (0 : Int64)) → (u1 = (96 : Int32)) → ¬ u4 = 0) ∧ (¬ (u4 = (0 : Int64)) → ¬ ((fX10_signed u4 a_sew) = (0 : Int64)) → ¬ (u1 = (96 : Int32)) → (u1 = (97 : Int32)) → ¬ (fX10_signed u4 a_sew) = 0) ∧ (¬ (u4 = (0 : Int64)) → ¬ ((fX10_signed u4 a_sew) = (0 : Int64)) → ¬ (u1 = (96 : Int32)) → ¬ (u1 = (97 : Int32)) → (u1 = (98 : Int32)) → ¬ u4 = 0) ∧ (¬ (u4 = (0 : Int64)) → ¬ ((fX10_signed u4 a_sew) = (0 : Int64)) → ¬ (u1 = (96 : Int32)) → ¬ (u1 = (97 : Int32)) → ¬ (u1 = (98 : Int32)) → (u1 = (99 : Int32)) → ¬ (fX10_signed u4 a_sew) = 0)
set_option maxRecDepth 100000 in
set_option maxHeartbeats 4000000 in
theorem kX0_quotient (l : Launch) (D : va_G) (kI kZ : ClassId) (b_a : Nat) (b_r : Nat) (a_sew : Int32) (a_greatest : Int64) (a_greatestSigned : Int64) (a_leastSigned : Int64) (r_scalars : Nat) (r_vectors : Nat) (r_type : Nat) (r_length : Int32) (r_start : Int32) (r_rounding : Int32) (r_saturated : Int32) (r_choices : Int64) (u1 : Int32) (u2 : Int64) (u4 : Int64) (hok : okX0_quotient a_sew u1 u4) : kM l yX0_quotient cX0_quotient 10 (some .long) 1 14 0 0 D [(kI, .int), (kZ, .boolean)] [.ref b_a, .int u1, .long u2, .long u4] [(b_a, .inr (0, [.ref b_r, .int a_sew, .long a_greatest, .long a_greatestSigned, .long a_leastSigned])), (b_r, .inr (7, [.ref r_scalars, .ref r_vectors, .ref r_type, .int r_length, .int r_start, .int r_rounding, .int r_saturated, .long r_choices]))] (some (.long (fX0_quotient a_sew u1 u2 u4))) [(b_a, .inr (0, [.ref b_r, .int a_sew, .long a_greatest, .long a_greatestSigned, .long a_leastSigned])), (b_r, .inr (7, [.ref r_scalars, .ref r_vectors, .ref r_type, .int r_length, .int r_start, .int r_rounding, .int r_saturated, .long r_choices]))] := by
  refine kM.of (by decide) rfl ?_
  intro p e R s m args below meth c A X _ _ hRt hLk
  refine k_sub [0, 1, 2, 3] (lv' := [(0, .ref b_a), (1, .int u1), (2, .long u2), (4, .long u4)]) rfl ?_
  unfold okX0_quotient at hok
  refine k_lload_n X dX0_quotient_0 rfl 2 rfl rfl ?_
  refine k_aload_n X dX0_quotient_1 rfl 0 rfl rfl ?_
  refine k_get X i_wsX00 0 1 q19_1 rfl rfl rfl rfl rfl dX0_quotient_2 rfl ?_
  refine k_cN1 (st := []) (ws' := [(b_a, .inr (0, [.ref b_r, .int a_sew, .long a_greatest, .long a_greatestSigned, .long a_leastSigned])), (b_r, .inr (7, [.ref r_scalars, .ref r_vectors, .ref r_type, .int r_length, .int r_start, .int r_rounding, .int r_saturated, .long r_choices]))]) (wr := [(b_a, .inr (0, [.ref b_r, .int a_sew, .long a_greatest, .long a_greatestSigned, .long a_leastSigned])), (b_r, .inr (7, [.ref r_scalars, .ref r_vectors, .ref r_type, .int r_length, .int r_start, .int r_rounding, .int r_saturated, .long r_choices]))]) X [.long u2, .int a_sew] 0 [] [0, 1] [0, 1] (kX10_signed l D kI kZ u2 a_sew) vX10_signed X.2.1.2.1.2.1 dX0_quotient_5 rfl rfl rfl rfl rfl rfl rfl rfl rfl rfl rfl rfl rfl ?_
  refine k_lstore (lv' := [(6, .long (fX10_signed u2 a_sew)), (0, .ref b_a), (1, .int u1), (2, .long u2), (4, .long u4)]) X dX0_quotient_8 rfl rfl rfl ?_
  refine k_lload X dX0_quotient_10 4 rfl rfl ?_
  refine k_aload_n X dX0_quotient_12 rfl 1 rfl rfl ?_
  refine k_get X i_wsX00 0 1 q19_1 rfl rfl rfl rfl rfl dX0_quotient_13 rfl ?_
  refine k_cN1 (st := []) (ws' := [(b_a, .inr (0, [.ref b_r, .int a_sew, .long a_greatest, .long a_greatestSigned, .long a_leastSigned])), (b_r, .inr (7, [.ref r_scalars, .ref r_vectors, .ref r_type, .int r_length, .int r_start, .int r_rounding, .int r_saturated, .long r_choices]))]) (wr := [(b_a, .inr (0, [.ref b_r, .int a_sew, .long a_greatest, .long a_greatestSigned, .long a_leastSigned])), (b_r, .inr (7, [.ref r_scalars, .ref r_vectors, .ref r_type, .int r_length, .int r_start, .int r_rounding, .int r_saturated, .long r_choices]))]) X [.long u4, .int a_sew] 0 [] [0, 1] [0, 1] (kX10_signed l D kI kZ u4 a_sew) vX10_signed X.2.1.2.1.2.1 dX0_quotient_16 rfl rfl rfl rfl rfl rfl rfl rfl rfl rfl rfl rfl rfl ?_
  refine k_lstore (lv' := [(8, .long (fX10_signed u4 a_sew)), (6, .long (fX10_signed u2 a_sew)), (0, .ref b_a), (1, .int u1), (2, .long u2), (4, .long u4)]) X dX0_quotient_19 rfl rfl rfl ?_
  refine k_lload X dX0_quotient_21 5 rfl rfl ?_
  refine k_lconst (v := (0 : Int64)) X dX0_quotient_23 rfl rfl ?_
  refine k_midR (some (.long (rX0_quotient_35 u1 u2))) [(b_a, .inr (0, [.ref b_r, .int a_sew, .long a_greatest, .long a_greatestSigned, .long a_leastSigned])), (b_r, .inr (7, [.ref r_scalars, .ref r_vectors, .ref r_type, .int r_length, .int r_start, .int r_rounding, .int r_saturated, .long r_choices]))] [(b_a, .inr (0, [.ref b_r, .int a_sew, .long a_greatest, .long a_greatestSigned, .long a_leastSigned])), (b_r, .inr (7, [.ref r_scalars, .ref r_vectors, .ref r_type, .int r_length, .int r_start, .int r_rounding, .int r_saturated, .long r_choices]))] [(0, .ref b_a), (1, .int u1), (2, .long u2), (4, .long u4), (6, .long (fX10_signed u2 a_sew)), (8, .long (fX10_signed u4 a_sew))] [] 35 (fun hJ7 => ?_) ?_
  · skip
    refine k_lcmp_eq (tgt := 35) X dX0_quotient_24 rfl dX0_quotient_25 (by decide) rfl (fun c1 => ?_) (fun c1 => ?_)
    · skip
      have e11 : (fX0_quotient a_sew u1 u2 u4) = (rX0_quotient_35 u1 u2) := by rw [fX0_quotient, if_pos c1]
      rw [e11]
      exact k_sub [2, 3, 4, 5, 1, 0] rfl hJ7
    refine k_lload X dX0_quotient_28 0 rfl rfl ?_
    refine k_lconst (v := (0 : Int64)) X dX0_quotient_30 rfl rfl ?_
    refine k_lcmp_ne (tgt := 55) X dX0_quotient_31 rfl dX0_quotient_32 (by decide) rfl (fun c2 => ?_) (fun c2 => ?_)
    · skip
      have e12 : (fX0_quotient a_sew u1 u2 u4) = (rX0_quotient_35 u1 u2) := by rw [fX0_quotient, if_neg c1, if_pos c2]
      rw [e12]
      exact k_sub [2, 3, 4, 5, 1, 0] rfl hJ7
    refine k_iload_n X dX0_quotient_55 rfl 3 rfl rfl ?_
    by_cases c3 : u1 = (96 : Int32)
    · refine k_tblIn (tgt := 88) X dX0_quotient_56 c3 (by decide) (by decide) rfl (by decide) ?_
      refine k_lload_n X dX0_quotient_88 rfl 4 rfl rfl ?_
      refine k_lload X dX0_quotient_89 5 rfl rfl ?_
      refine k_ldiv X dX0_quotient_91 (hok.1 c1 c2 c3) rfl ?_
      have e13 : (fX0_quotient a_sew u1 u2 u4) = (u2 / u4) := by rw [fX0_quotient, if_neg c1, if_neg c2, if_pos c3]
      exact k_lret9 X hRt hLk e13.symm rfl dX0_quotient_92
    by_cases c4 : u1 = (97 : Int32)
    · refine k_tblIn (tgt := 93) X dX0_quotient_56 c4 (by decide) (by decide) rfl (by decide) ?_
      refine k_lload X dX0_quotient_93 1 rfl rfl ?_
      refine k_lload X dX0_quotient_95 0 rfl rfl ?_
      refine k_ldiv X dX0_quotient_97 (hok.2.1 c1 c2 c3 c4) rfl ?_
      have e14 : (fX0_quotient a_sew u1 u2 u4) = ((fX10_signed u2 a_sew) / (fX10_signed u4 a_sew)) := by rw [fX0_quotient, if_neg c1, if_neg c2, if_neg c3, if_pos c4]
      exact k_lret9 X hRt hLk e14.symm rfl dX0_quotient_98
    by_cases c5 : u1 = (98 : Int32)
    · refine k_tblIn (tgt := 99) X dX0_quotient_56 c5 (by decide) (by decide) rfl (by decide) ?_
      refine k_lload_n X dX0_quotient_99 rfl 4 rfl rfl ?_
      refine k_lload X dX0_quotient_100 5 rfl rfl ?_
      refine k_lrem X dX0_quotient_102 (hok.2.2.1 c1 c2 c3 c4 c5) rfl ?_
      have e15 : (fX0_quotient a_sew u1 u2 u4) = (lrem u2 u4) := by rw [fX0_quotient, if_neg c1, if_neg c2, if_neg c3, if_neg c4, if_pos c5]
      exact k_lret9 X hRt hLk e15.symm rfl dX0_quotient_103
    by_cases c6 : u1 = (99 : Int32)
    · refine k_tblIn (tgt := 104) X dX0_quotient_56 c6 (by decide) (by decide) rfl (by decide) ?_
      refine k_lload X dX0_quotient_104 1 rfl rfl ?_
      refine k_lload X dX0_quotient_106 0 rfl rfl ?_
      refine k_lrem X dX0_quotient_108 (hok.2.2.2 c1 c2 c3 c4 c5 c6) rfl ?_
      have e16 : (fX0_quotient a_sew u1 u2 u4) = (lrem (fX10_signed u2 a_sew) (fX10_signed u4 a_sew)) := by rw [fX0_quotient, if_neg c1, if_neg c2, if_neg c3, if_neg c4, if_neg c5, if_pos c6]
      exact k_lret9 X hRt hLk e16.symm rfl dX0_quotient_109
    refine k_tblD (tgt := 110) X dX0_quotient_56 [(96 : Int32), (97 : Int32), (98 : Int32), (99 : Int32)] (List.forall_mem_cons.mpr ⟨c3, (List.forall_mem_cons.mpr ⟨c4, (List.forall_mem_cons.mpr ⟨c5, (List.forall_mem_cons.mpr ⟨c6, (fun _ h => absurd h List.not_mem_nil)⟩)⟩)⟩)⟩) (by decide +kernel) (by decide) ?_
    refine k_lconst (v := (0 : Int64)) X dX0_quotient_110 rfl rfl ?_
    have e17 : (fX0_quotient a_sew u1 u2 u4) = (0 : Int64) := by rw [fX0_quotient, if_neg c1, if_neg c2, if_neg c3, if_neg c4, if_neg c5, if_neg c6]
    exact k_lret9 X hRt hLk e17.symm rfl dX0_quotient_111
  refine k_iload_n X dX0_quotient_35 rfl 1 rfl rfl ?_
  refine k_bipush X dX0_quotient_36 kc_b_96 rfl ?_
  refine k_mid2 [(b_a, .inr (0, [.ref b_r, .int a_sew, .long a_greatest, .long a_greatestSigned, .long a_leastSigned])), (b_r, .inr (7, [.ref r_scalars, .ref r_vectors, .ref r_type, .int r_length, .int r_start, .int r_rounding, .int r_saturated, .long r_choices]))] [(0, .ref b_a), (1, .int u1), (2, .long u2), (4, .long u4), (6, .long (fX10_signed u2 a_sew)), (8, .long (fX10_signed u4 a_sew))] [.long (pX0_quotient_54_S1 u1 u2)] 54 (fun hJ10 => ?_) ?_
  · skip
    refine k_icmp_eq (tgt := 47) X dX0_quotient_38 (by decide) rfl (fun c8 => ?_) (fun c8 => ?_)
    · skip
      refine k_ldc2 X q24_3 dX0_quotient_47 rfl ?_
      refine k_goto (tgt := 54) X dX0_quotient_50 (by decide) ?_
      have e18 : (pX0_quotient_54_S1 u1 u2) = (-1 : Int64) := by rw [pX0_quotient_54_S1, if_pos c8]
      rw [e18] at hJ10
      exact k_sub [0, 1, 2, 3, 4, 5] rfl hJ10
    refine k_iload_n X dX0_quotient_41 rfl 1 rfl rfl ?_
    refine k_bipush X dX0_quotient_42 kc_b_97 rfl ?_
    refine k_icmp_ne (tgt := 53) X dX0_quotient_44 (by decide) rfl (fun c9 => ?_) (fun c9 => ?_)
    · skip
      refine k_ldc2 X q24_3 dX0_quotient_47 rfl ?_
      refine k_goto (tgt := 54) X dX0_quotient_50 (by decide) ?_
      have e19 : (pX0_quotient_54_S1 u1 u2) = (-1 : Int64) := by rw [pX0_quotient_54_S1, if_neg c8, if_pos c9]
      rw [e19] at hJ10
      exact k_sub [0, 1, 2, 3, 4, 5] rfl hJ10
    refine k_lload_n X dX0_quotient_53 rfl 2 rfl rfl ?_
    have e20 : (pX0_quotient_54_S1 u1 u2) = u2 := by rw [pX0_quotient_54_S1, if_neg c8, if_neg c9]
    rw [e20] at hJ10
    exact k_sub [0, 1, 2, 3, 4, 5] rfl hJ10
  have e21 : (rX0_quotient_35 u1 u2) = (pX0_quotient_54_S1 u1 u2) := by rw [rX0_quotient_35]
  exact k_lret9 X hRt hLk e21.symm rfl dX0_quotient_54
theorem vX0_quotient : kVi yX0_quotient cX0_quotient 10 (some .long) 3 := ⟨q25_22, q4_3, q25_20, q25_21, by decide, by decide +kernel⟩
noncomputable def fX0_product (a_sew : Int32) (u1 : Int32) (u2 : Int64) (u4 : Int64) (u6 : Int64) : Int64 := (if u1 = (100 : Int32) then (lsru (u2 * u4) a_sew) else (if u1 = (101 : Int32) then (u2 * u4) else (if u1 = (102 : Int32) then (lshr ((fX10_signed u2 a_sew) * u4) a_sew) else (if u1 = (103 : Int32) then (lshr ((fX10_signed u2 a_sew) * (fX10_signed u4 a_sew)) a_sew) else (if u1 = (105 : Int32) then ((u4 * u6) + u2) else (if u1 = (107 : Int32) then (u2 - (u4 * u6)) else (if u1 = (109 : Int32) then ((u4 * u2) + u6) else (if u1 = (111 : Int32) then (u6 - (u4 * u2)) else (0 : Int64)))))))))
set_option maxRecDepth 100000 in
set_option maxHeartbeats 4000000 in
theorem kX0_product (l : Launch) (D : va_G) (kI kZ : ClassId) (b_a : Nat) (b_r : Nat) (a_sew : Int32) (a_greatest : Int64) (a_greatestSigned : Int64) (a_leastSigned : Int64) (r_scalars : Nat) (r_vectors : Nat) (r_type : Nat) (r_length : Int32) (r_start : Int32) (r_rounding : Int32) (r_saturated : Int32) (r_choices : Int64) (u1 : Int32) (u2 : Int64) (u4 : Int64) (u6 : Int64) : kM l yX0_product cX0_product 12 (some .long) 1 14 0 0 D [(kI, .int), (kZ, .boolean)] [.ref b_a, .int u1, .long u2, .long u4, .long u6] [(b_a, .inr (0, [.ref b_r, .int a_sew, .long a_greatest, .long a_greatestSigned, .long a_leastSigned])), (b_r, .inr (7, [.ref r_scalars, .ref r_vectors, .ref r_type, .int r_length, .int r_start, .int r_rounding, .int r_saturated, .long r_choices]))] (some (.long (fX0_product a_sew u1 u2 u4 u6))) [(b_a, .inr (0, [.ref b_r, .int a_sew, .long a_greatest, .long a_greatestSigned, .long a_leastSigned])), (b_r, .inr (7, [.ref r_scalars, .ref r_vectors, .ref r_type, .int r_length, .int r_start, .int r_rounding, .int r_saturated, .long r_choices]))] := by
  refine kM.of (by decide) rfl ?_
  intro p e R s m args below meth c A X _ _ hRt hLk
  refine k_sub [0, 1, 2, 3, 4] (lv' := [(0, .ref b_a), (1, .int u1), (2, .long u2), (4, .long u4), (6, .long u6)]) rfl ?_
  refine k_lload_n X dX0_product_0 rfl 2 rfl rfl ?_
  refine k_aload_n X dX0_product_1 rfl 0 rfl rfl ?_
  refine k_get X i_wsX00 0 1 q19_1 rfl rfl rfl rfl rfl dX0_product_2 rfl ?_
  refine k_cN1 (st := []) (ws' := [(b_a, .inr (0, [.ref b_r, .int a_sew, .long a_greatest, .long a_greatestSigned, .long a_leastSigned])), (b_r, .inr (7, [.ref r_scalars, .ref r_vectors, .ref r_type, .int r_length, .int r_start, .int r_rounding, .int r_saturated, .long r_choices]))]) (wr := [(b_a, .inr (0, [.ref b_r, .int a_sew, .long a_greatest, .long a_greatestSigned, .long a_leastSigned])), (b_r, .inr (7, [.ref r_scalars, .ref r_vectors, .ref r_type, .int r_length, .int r_start, .int r_rounding, .int r_saturated, .long r_choices]))]) X [.long u2, .int a_sew] 0 [] [0, 1] [0, 1] (kX10_signed l D kI kZ u2 a_sew) vX10_signed X.2.1.2.1.2.1 dX0_product_5 rfl rfl rfl rfl rfl rfl rfl rfl rfl rfl rfl rfl rfl ?_
  refine k_lstore (lv' := [(8, .long (fX10_signed u2 a_sew)), (0, .ref b_a), (1, .int u1), (2, .long u2), (4, .long u4), (6, .long u6)]) X dX0_product_8 rfl rfl rfl ?_
  refine k_lload X dX0_product_10 4 rfl rfl ?_
  refine k_aload_n X dX0_product_12 rfl 1 rfl rfl ?_
  refine k_get X i_wsX00 0 1 q19_1 rfl rfl rfl rfl rfl dX0_product_13 rfl ?_
  refine k_cN1 (st := []) (ws' := [(b_a, .inr (0, [.ref b_r, .int a_sew, .long a_greatest, .long a_greatestSigned, .long a_leastSigned])), (b_r, .inr (7, [.ref r_scalars, .ref r_vectors, .ref r_type, .int r_length, .int r_start, .int r_rounding, .int r_saturated, .long r_choices]))]) (wr := [(b_a, .inr (0, [.ref b_r, .int a_sew, .long a_greatest, .long a_greatestSigned, .long a_leastSigned])), (b_r, .inr (7, [.ref r_scalars, .ref r_vectors, .ref r_type, .int r_length, .int r_start, .int r_rounding, .int r_saturated, .long r_choices]))]) X [.long u4, .int a_sew] 0 [] [0, 1] [0, 1] (kX10_signed l D kI kZ u4 a_sew) vX10_signed X.2.1.2.1.2.1 dX0_product_16 rfl rfl rfl rfl rfl rfl rfl rfl rfl rfl rfl rfl rfl ?_
  refine k_lstore (lv' := [(10, .long (fX10_signed u4 a_sew)), (8, .long (fX10_signed u2 a_sew)), (0, .ref b_a), (1, .int u1), (2, .long u2), (4, .long u4), (6, .long u6)]) X dX0_product_19 rfl rfl rfl ?_
  refine k_iload_n X dX0_product_21 rfl 3 rfl rfl ?_
  by_cases c1 : u1 = (100 : Int32)
  · refine k_tblIn (tgt := 84) X dX0_product_22 c1 (by decide) (by decide) rfl (by decide) ?_
    refine k_lload_n X dX0_product_84 rfl 4 rfl rfl ?_
    refine k_lload X dX0_product_85 5 rfl rfl ?_
    refine k_lmul X dX0_product_87 rfl ?_
    refine k_aload_n X dX0_product_88 rfl 2 rfl rfl ?_
    refine k_get X i_wsX00 0 1 q19_1 rfl rfl rfl rfl rfl dX0_product_89 rfl ?_
    refine k_lushr X dX0_product_92 rfl ?_
    have e9 : (fX0_product a_sew u1 u2 u4 u6) = (lsru (u2 * u4) a_sew) := by rw [fX0_product, if_pos c1]
    exact k_lret9 X hRt hLk e9.symm rfl dX0_product_93
  by_cases c2 : u1 = (101 : Int32)
  · refine k_tblIn (tgt := 94) X dX0_product_22 c2 (by decide) (by decide) rfl (by decide) ?_
    refine k_lload_n X dX0_product_94 rfl 4 rfl rfl ?_
    refine k_lload X dX0_product_95 5 rfl rfl ?_
    refine k_lmul X dX0_product_97 rfl ?_
    have e10 : (fX0_product a_sew u1 u2 u4 u6) = (u2 * u4) := by rw [fX0_product, if_neg c1, if_pos c2]
    exact k_lret9 X hRt hLk e10.symm rfl dX0_product_98
  by_cases c3 : u1 = (102 : Int32)
  · refine k_tblIn (tgt := 99) X dX0_product_22 c3 (by decide) (by decide) rfl (by decide) ?_
    refine k_lload X dX0_product_99 1 rfl rfl ?_
    refine k_lload X dX0_product_101 5 rfl rfl ?_
    refine k_lmul X dX0_product_103 rfl ?_
    refine k_aload_n X dX0_product_104 rfl 2 rfl rfl ?_
    refine k_get X i_wsX00 0 1 q19_1 rfl rfl rfl rfl rfl dX0_product_105 rfl ?_
    refine k_lshr X dX0_product_108 rfl ?_
    have e11 : (fX0_product a_sew u1 u2 u4 u6) = (lshr ((fX10_signed u2 a_sew) * u4) a_sew) := by rw [fX0_product, if_neg c1, if_neg c2, if_pos c3]
    exact k_lret9 X hRt hLk e11.symm rfl dX0_product_109
  by_cases c4 : u1 = (103 : Int32)
  · refine k_tblIn (tgt := 110) X dX0_product_22 c4 (by decide) (by decide) rfl (by decide) ?_
    refine k_lload X dX0_product_110 1 rfl rfl ?_
    refine k_lload X dX0_product_112 0 rfl rfl ?_
    refine k_lmul X dX0_product_114 rfl ?_
    refine k_aload_n X dX0_product_115 rfl 2 rfl rfl ?_
    refine k_get X i_wsX00 0 1 q19_1 rfl rfl rfl rfl rfl dX0_product_116 rfl ?_
    refine k_lshr X dX0_product_119 rfl ?_
    have e12 : (fX0_product a_sew u1 u2 u4 u6) = (lshr ((fX10_signed u2 a_sew) * (fX10_signed u4 a_sew)) a_sew) := by rw [fX0_product, if_neg c1, if_neg c2, if_neg c3, if_pos c4]
    exact k_lret9 X hRt hLk e12.symm rfl dX0_product_120
  by_cases c5 : u1 = (105 : Int32)
  · refine k_tblIn (tgt := 121) X dX0_product_22 c5 (by decide) (by decide) rfl (by decide) ?_
    refine k_lload X dX0_product_121 5 rfl rfl ?_
    refine k_lload X dX0_product_123 6 rfl rfl ?_
    refine k_lmul X dX0_product_125 rfl ?_
    refine k_lload_n X dX0_product_126 rfl 4 rfl rfl ?_
    refine k_ladd X dX0_product_127 rfl ?_
    have e13 : (fX0_product a_sew u1 u2 u4 u6) = ((u4 * u6) + u2) := by rw [fX0_product, if_neg c1, if_neg c2, if_neg c3, if_neg c4, if_pos c5]
    exact k_lret9 X hRt hLk e13.symm rfl dX0_product_128
  by_cases c6 : u1 = (107 : Int32)
  · refine k_tblIn (tgt := 129) X dX0_product_22 c6 (by decide) (by decide) rfl (by decide) ?_
    refine k_lload_n X dX0_product_129 rfl 4 rfl rfl ?_
    refine k_lload X dX0_product_130 5 rfl rfl ?_
    refine k_lload X dX0_product_132 6 rfl rfl ?_
    refine k_lmul X dX0_product_134 rfl ?_
    refine k_lsub X dX0_product_135 rfl ?_
    have e14 : (fX0_product a_sew u1 u2 u4 u6) = (u2 - (u4 * u6)) := by rw [fX0_product, if_neg c1, if_neg c2, if_neg c3, if_neg c4, if_neg c5, if_pos c6]
    exact k_lret9 X hRt hLk e14.symm rfl dX0_product_136
  by_cases c7 : u1 = (109 : Int32)
  · refine k_tblIn (tgt := 137) X dX0_product_22 c7 (by decide) (by decide) rfl (by decide) ?_
    refine k_lload X dX0_product_137 5 rfl rfl ?_
    refine k_lload_n X dX0_product_139 rfl 4 rfl rfl ?_
    refine k_lmul X dX0_product_140 rfl ?_
    refine k_lload X dX0_product_141 6 rfl rfl ?_
    refine k_ladd X dX0_product_143 rfl ?_
    have e15 : (fX0_product a_sew u1 u2 u4 u6) = ((u4 * u2) + u6) := by rw [fX0_product, if_neg c1, if_neg c2, if_neg c3, if_neg c4, if_neg c5, if_neg c6, if_pos c7]
    exact k_lret9 X hRt hLk e15.symm rfl dX0_product_144
  by_cases c8 : u1 = (111 : Int32)
  · refine k_tblIn (tgt := 145) X dX0_product_22 c8 (by decide) (by decide) rfl (by decide) ?_
    refine k_lload X dX0_product_145 6 rfl rfl ?_
    refine k_lload X dX0_product_147 5 rfl rfl ?_
    refine k_lload_n X dX0_product_149 rfl 4 rfl rfl ?_
    refine k_lmul X dX0_product_150 rfl ?_
    refine k_lsub X dX0_product_151 rfl ?_
    have e16 : (fX0_product a_sew u1 u2 u4 u6) = (u6 - (u4 * u2)) := by rw [fX0_product, if_neg c1, if_neg c2, if_neg c3, if_neg c4, if_neg c5, if_neg c6, if_neg c7, if_pos c8]
    exact k_lret9 X hRt hLk e16.symm rfl dX0_product_152
  refine k_tblD (tgt := 153) X dX0_product_22 [(100 : Int32), (101 : Int32), (102 : Int32), (103 : Int32), (105 : Int32), (107 : Int32), (109 : Int32), (111 : Int32)] (List.forall_mem_cons.mpr ⟨c1, (List.forall_mem_cons.mpr ⟨c2, (List.forall_mem_cons.mpr ⟨c3, (List.forall_mem_cons.mpr ⟨c4, (List.forall_mem_cons.mpr ⟨c5, (List.forall_mem_cons.mpr ⟨c6, (List.forall_mem_cons.mpr ⟨c7, (List.forall_mem_cons.mpr ⟨c8, (fun _ h => absurd h List.not_mem_nil)⟩)⟩)⟩)⟩)⟩)⟩)⟩)⟩) (by decide +kernel) (by decide) ?_
  refine k_lconst (v := (0 : Int64)) X dX0_product_153 rfl rfl ?_
  have e17 : (fX0_product a_sew u1 u2 u4 u6) = (0 : Int64) := by rw [fX0_product, if_neg c1, if_neg c2, if_neg c3, if_neg c4, if_neg c5, if_neg c6, if_neg c7, if_neg c8]
  exact k_lret9 X hRt hLk e17.symm rfl dX0_product_154
theorem vX0_product : kVi yX0_product cX0_product 12 (some .long) 4 := ⟨q26_2, q4_3, q26_0, q26_1, by decide, by decide +kernel⟩
noncomputable def fX0_wideSum (a_sew : Int32) (u1 : Int32) (u2 : Int64) (u4 : Int64) : Int64 := (if u1 = (112 : Int32) then (u2 + u4) else (if u1 = (113 : Int32) then ((fX10_signed u2 a_sew) + (fX10_signed u4 a_sew)) else (if u1 = (114 : Int32) then (u2 - u4) else (if u1 = (115 : Int32) then ((fX10_signed u2 a_sew) - (fX10_signed u4 a_sew)) else (if u1 = (116 : Int32) then (u2 + u4) else (if u1 = (117 : Int32) then (u2 + (fX10_signed u4 a_sew)) else (if u1 = (118 : Int32) then (u2 - u4) else (if u1 = (119 : Int32) then (u2 - (fX10_signed u4 a_sew)) else (0 : Int64)))))))))
set_option maxRecDepth 100000 in
set_option maxHeartbeats 4000000 in
theorem kX0_wideSum (l : Launch) (D : va_G) (kI kZ : ClassId) (b_a : Nat) (b_r : Nat) (a_sew : Int32) (a_greatest : Int64) (a_greatestSigned : Int64) (a_leastSigned : Int64) (r_scalars : Nat) (r_vectors : Nat) (r_type : Nat) (r_length : Int32) (r_start : Int32) (r_rounding : Int32) (r_saturated : Int32) (r_choices : Int64) (u1 : Int32) (u2 : Int64) (u4 : Int64) : kM l yX0_wideSum cX0_wideSum 10 (some .long) 1 14 0 0 D [(kI, .int), (kZ, .boolean)] [.ref b_a, .int u1, .long u2, .long u4] [(b_a, .inr (0, [.ref b_r, .int a_sew, .long a_greatest, .long a_greatestSigned, .long a_leastSigned])), (b_r, .inr (7, [.ref r_scalars, .ref r_vectors, .ref r_type, .int r_length, .int r_start, .int r_rounding, .int r_saturated, .long r_choices]))] (some (.long (fX0_wideSum a_sew u1 u2 u4))) [(b_a, .inr (0, [.ref b_r, .int a_sew, .long a_greatest, .long a_greatestSigned, .long a_leastSigned])), (b_r, .inr (7, [.ref r_scalars, .ref r_vectors, .ref r_type, .int r_length, .int r_start, .int r_rounding, .int r_saturated, .long r_choices]))] := by
  refine kM.of (by decide) rfl ?_
  intro p e R s m args below meth c A X _ _ hRt hLk
  refine k_sub [0, 1, 2, 3] (lv' := [(0, .ref b_a), (1, .int u1), (2, .long u2), (4, .long u4)]) rfl ?_
  refine k_lload_n X dX0_wideSum_0 rfl 2 rfl rfl ?_
  refine k_aload_n X dX0_wideSum_1 rfl 0 rfl rfl ?_
  refine k_get X i_wsX00 0 1 q19_1 rfl rfl rfl rfl rfl dX0_wideSum_2 rfl ?_
  refine k_cN1 (st := []) (ws' := [(b_a, .inr (0, [.ref b_r, .int a_sew, .long a_greatest, .long a_greatestSigned, .long a_leastSigned])), (b_r, .inr (7, [.ref r_scalars, .ref r_vectors, .ref r_type, .int r_length, .int r_start, .int r_rounding, .int r_saturated, .long r_choices]))]) (wr := [(b_a, .inr (0, [.ref b_r, .int a_sew, .long a_greatest, .long a_greatestSigned, .long a_leastSigned])), (b_r, .inr (7, [.ref r_scalars, .ref r_vectors, .ref r_type, .int r_length, .int r_start, .int r_rounding, .int r_saturated, .long r_choices]))]) X [.long u2, .int a_sew] 0 [] [0, 1] [0, 1] (kX10_signed l D kI kZ u2 a_sew) vX10_signed X.2.1.2.1.2.1 dX0_wideSum_5 rfl rfl rfl rfl rfl rfl rfl rfl rfl rfl rfl rfl rfl ?_
  refine k_lstore (lv' := [(6, .long (fX10_signed u2 a_sew)), (0, .ref b_a), (1, .int u1), (2, .long u2), (4, .long u4)]) X dX0_wideSum_8 rfl rfl rfl ?_
  refine k_lload X dX0_wideSum_10 4 rfl rfl ?_
  refine k_aload_n X dX0_wideSum_12 rfl 1 rfl rfl ?_
  refine k_get X i_wsX00 0 1 q19_1 rfl rfl rfl rfl rfl dX0_wideSum_13 rfl ?_
  refine k_cN1 (st := []) (ws' := [(b_a, .inr (0, [.ref b_r, .int a_sew, .long a_greatest, .long a_greatestSigned, .long a_leastSigned])), (b_r, .inr (7, [.ref r_scalars, .ref r_vectors, .ref r_type, .int r_length, .int r_start, .int r_rounding, .int r_saturated, .long r_choices]))]) (wr := [(b_a, .inr (0, [.ref b_r, .int a_sew, .long a_greatest, .long a_greatestSigned, .long a_leastSigned])), (b_r, .inr (7, [.ref r_scalars, .ref r_vectors, .ref r_type, .int r_length, .int r_start, .int r_rounding, .int r_saturated, .long r_choices]))]) X [.long u4, .int a_sew] 0 [] [0, 1] [0, 1] (kX10_signed l D kI kZ u4 a_sew) vX10_signed X.2.1.2.1.2.1 dX0_wideSum_16 rfl rfl rfl rfl rfl rfl rfl rfl rfl rfl rfl rfl rfl ?_
  refine k_lstore (lv' := [(8, .long (fX10_signed u4 a_sew)), (6, .long (fX10_signed u2 a_sew)), (0, .ref b_a), (1, .int u1), (2, .long u2), (4, .long u4)]) X dX0_wideSum_19 rfl rfl rfl ?_
  refine k_iload_n X dX0_wideSum_21 rfl 3 rfl rfl ?_
  by_cases c1 : u1 = (112 : Int32)
  · refine k_tblIn (tgt := 68) X dX0_wideSum_22 c1 (by decide) (by decide) rfl (by decide) ?_
    refine k_lload_n X dX0_wideSum_68 rfl 4 rfl rfl ?_
    refine k_lload X dX0_wideSum_69 5 rfl rfl ?_
    refine k_ladd X dX0_wideSum_71 rfl ?_
    have e9 : (fX0_wideSum a_sew u1 u2 u4) = (u2 + u4) := by rw [fX0_wideSum, if_pos c1]
    exact k_lret9 X hRt hLk e9.symm rfl dX0_wideSum_72
  by_cases c2 : u1 = (113 : Int32)
  · refine k_tblIn (tgt := 73) X dX0_wideSum_22 c2 (by decide) (by decide) rfl (by decide) ?_
    refine k_lload X dX0_wideSum_73 1 rfl rfl ?_
    refine k_lload X dX0_wideSum_75 0 rfl rfl ?_
    refine k_ladd X dX0_wideSum_77 rfl ?_
    have e10 : (fX0_wideSum a_sew u1 u2 u4) = ((fX10_signed u2 a_sew) + (fX10_signed u4 a_sew)) := by rw [fX0_wideSum, if_neg c1, if_pos c2]
    exact k_lret9 X hRt hLk e10.symm rfl dX0_wideSum_78
  by_cases c3 : u1 = (114 : Int32)
  · refine k_tblIn (tgt := 79) X dX0_wideSum_22 c3 (by decide) (by decide) rfl (by decide) ?_
    refine k_lload_n X dX0_wideSum_79 rfl 4 rfl rfl ?_
    refine k_lload X dX0_wideSum_80 5 rfl rfl ?_
    refine k_lsub X dX0_wideSum_82 rfl ?_
    have e11 : (fX0_wideSum a_sew u1 u2 u4) = (u2 - u4) := by rw [fX0_wideSum, if_neg c1, if_neg c2, if_pos c3]
    exact k_lret9 X hRt hLk e11.symm rfl dX0_wideSum_83
  by_cases c4 : u1 = (115 : Int32)
  · refine k_tblIn (tgt := 84) X dX0_wideSum_22 c4 (by decide) (by decide) rfl (by decide) ?_
    refine k_lload X dX0_wideSum_84 1 rfl rfl ?_
    refine k_lload X dX0_wideSum_86 0 rfl rfl ?_
    refine k_lsub X dX0_wideSum_88 rfl ?_
    have e12 : (fX0_wideSum a_sew u1 u2 u4) = ((fX10_signed u2 a_sew) - (fX10_signed u4 a_sew)) := by rw [fX0_wideSum, if_neg c1, if_neg c2, if_neg c3, if_pos c4]
    exact k_lret9 X hRt hLk e12.symm rfl dX0_wideSum_89
  by_cases c5 : u1 = (116 : Int32)
  · refine k_tblIn (tgt := 90) X dX0_wideSum_22 c5 (by decide) (by decide) rfl (by decide) ?_
    refine k_lload_n X dX0_wideSum_90 rfl 4 rfl rfl ?_
    refine k_lload X dX0_wideSum_91 5 rfl rfl ?_
    refine k_ladd X dX0_wideSum_93 rfl ?_
    have e13 : (fX0_wideSum a_sew u1 u2 u4) = (u2 + u4) := by rw [fX0_wideSum, if_neg c1, if_neg c2, if_neg c3, if_neg c4, if_pos c5]
    exact k_lret9 X hRt hLk e13.symm rfl dX0_wideSum_94
  by_cases c6 : u1 = (117 : Int32)
  · refine k_tblIn (tgt := 95) X dX0_wideSum_22 c6 (by decide) (by decide) rfl (by decide) ?_
    refine k_lload_n X dX0_wideSum_95 rfl 4 rfl rfl ?_
    refine k_lload X dX0_wideSum_96 0 rfl rfl ?_
    refine k_ladd X dX0_wideSum_98 rfl ?_
    have e14 : (fX0_wideSum a_sew u1 u2 u4) = (u2 + (fX10_signed u4 a_sew)) := by rw [fX0_wideSum, if_neg c1, if_neg c2, if_neg c3, if_neg c4, if_neg c5, if_pos c6]
    exact k_lret9 X hRt hLk e14.symm rfl dX0_wideSum_99
  by_cases c7 : u1 = (118 : Int32)
  · refine k_tblIn (tgt := 100) X dX0_wideSum_22 c7 (by decide) (by decide) rfl (by decide) ?_
    refine k_lload_n X dX0_wideSum_100 rfl 4 rfl rfl ?_
    refine k_lload X dX0_wideSum_101 5 rfl rfl ?_
    refine k_lsub X dX0_wideSum_103 rfl ?_
    have e15 : (fX0_wideSum a_sew u1 u2 u4) = (u2 - u4) := by rw [fX0_wideSum, if_neg c1, if_neg c2, if_neg c3, if_neg c4, if_neg c5, if_neg c6, if_pos c7]
    exact k_lret9 X hRt hLk e15.symm rfl dX0_wideSum_104
  by_cases c8 : u1 = (119 : Int32)
  · refine k_tblIn (tgt := 105) X dX0_wideSum_22 c8 (by decide) (by decide) rfl (by decide) ?_
    refine k_lload_n X dX0_wideSum_105 rfl 4 rfl rfl ?_
    refine k_lload X dX0_wideSum_106 0 rfl rfl ?_
    refine k_lsub X dX0_wideSum_108 rfl ?_
    have e16 : (fX0_wideSum a_sew u1 u2 u4) = (u2 - (fX10_signed u4 a_sew)) := by rw [fX0_wideSum, if_neg c1, if_neg c2, if_neg c3, if_neg c4, if_neg c5, if_neg c6, if_neg c7, if_pos c8]
    exact k_lret9 X hRt hLk e16.symm rfl dX0_wideSum_109
  refine k_tblD (tgt := 110) X dX0_wideSum_22 [(112 : Int32), (113 : Int32), (114 : Int32), (115 : Int32), (116 : Int32), (117 : Int32), (118 : Int32), (119 : Int32)] (List.forall_mem_cons.mpr ⟨c1, (List.forall_mem_cons.mpr ⟨c2, (List.forall_mem_cons.mpr ⟨c3, (List.forall_mem_cons.mpr ⟨c4, (List.forall_mem_cons.mpr ⟨c5, (List.forall_mem_cons.mpr ⟨c6, (List.forall_mem_cons.mpr ⟨c7, (List.forall_mem_cons.mpr ⟨c8, (fun _ h => absurd h List.not_mem_nil)⟩)⟩)⟩)⟩)⟩)⟩)⟩)⟩) (by decide +kernel) (by decide) ?_
  refine k_lconst (v := (0 : Int64)) X dX0_wideSum_110 rfl rfl ?_
  have e17 : (fX0_wideSum a_sew u1 u2 u4) = (0 : Int64) := by rw [fX0_wideSum, if_neg c1, if_neg c2, if_neg c3, if_neg c4, if_neg c5, if_neg c6, if_neg c7, if_neg c8]
  exact k_lret9 X hRt hLk e17.symm rfl dX0_wideSum_111
theorem vX0_wideSum : kVi yX0_wideSum cX0_wideSum 10 (some .long) 3 := ⟨q26_6, q4_3, q26_4, q26_5, by decide, by decide +kernel⟩
noncomputable def fX0_wideProduct (a_sew : Int32) (u1 : Int32) (u2 : Int64) (u4 : Int64) (u6 : Int64) : Int64 := (if u1 = (120 : Int32) then (u2 * u4) else (if u1 = (122 : Int32) then ((fX10_signed u2 a_sew) * u4) else (if u1 = (123 : Int32) then ((fX10_signed u2 a_sew) * (fX10_signed u4 a_sew)) else (if u1 = (124 : Int32) then ((u2 * u4) + u6) else (if u1 = (125 : Int32) then (((fX10_signed u2 a_sew) * (fX10_signed u4 a_sew)) + u6) else (if u1 = (126 : Int32) then (((fX10_signed u2 a_sew) * u4) + u6) else (if u1 = (127 : Int32) then ((u2 * (fX10_signed u4 a_sew)) + u6) else (0 : Int64))))))))
set_option maxRecDepth 100000 in
set_option maxHeartbeats 4000000 in
theorem kX0_wideProduct (l : Launch) (D : va_G) (kI kZ : ClassId) (b_a : Nat) (b_r : Nat) (a_sew : Int32) (a_greatest : Int64) (a_greatestSigned : Int64) (a_leastSigned : Int64) (r_scalars : Nat) (r_vectors : Nat) (r_type : Nat) (r_length : Int32) (r_start : Int32) (r_rounding : Int32) (r_saturated : Int32) (r_choices : Int64) (u1 : Int32) (u2 : Int64) (u4 : Int64) (u6 : Int64) : kM l yX0_wideProduct cX0_wideProduct 12 (some .long) 1 14 0 0 D [(kI, .int), (kZ, .boolean)] [.ref b_a, .int u1, .long u2, .long u4, .long u6] [(b_a, .inr (0, [.ref b_r, .int a_sew, .long a_greatest, .long a_greatestSigned, .long a_leastSigned])), (b_r, .inr (7, [.ref r_scalars, .ref r_vectors, .ref r_type, .int r_length, .int r_start, .int r_rounding, .int r_saturated, .long r_choices]))] (some (.long (fX0_wideProduct a_sew u1 u2 u4 u6))) [(b_a, .inr (0, [.ref b_r, .int a_sew, .long a_greatest, .long a_greatestSigned, .long a_leastSigned])), (b_r, .inr (7, [.ref r_scalars, .ref r_vectors, .ref r_type, .int r_length, .int r_start, .int r_rounding, .int r_saturated, .long r_choices]))] := by
  refine kM.of (by decide) rfl ?_
  intro p e R s m args below meth c A X _ _ hRt hLk
  refine k_sub [0, 1, 2, 3, 4] (lv' := [(0, .ref b_a), (1, .int u1), (2, .long u2), (4, .long u4), (6, .long u6)]) rfl ?_
  refine k_lload_n X dX0_wideProduct_0 rfl 2 rfl rfl ?_
  refine k_aload_n X dX0_wideProduct_1 rfl 0 rfl rfl ?_
  refine k_get X i_wsX00 0 1 q19_1 rfl rfl rfl rfl rfl dX0_wideProduct_2 rfl ?_
  refine k_cN1 (st := []) (ws' := [(b_a, .inr (0, [.ref b_r, .int a_sew, .long a_greatest, .long a_greatestSigned, .long a_leastSigned])), (b_r, .inr (7, [.ref r_scalars, .ref r_vectors, .ref r_type, .int r_length, .int r_start, .int r_rounding, .int r_saturated, .long r_choices]))]) (wr := [(b_a, .inr (0, [.ref b_r, .int a_sew, .long a_greatest, .long a_greatestSigned, .long a_leastSigned])), (b_r, .inr (7, [.ref r_scalars, .ref r_vectors, .ref r_type, .int r_length, .int r_start, .int r_rounding, .int r_saturated, .long r_choices]))]) X [.long u2, .int a_sew] 0 [] [0, 1] [0, 1] (kX10_signed l D kI kZ u2 a_sew) vX10_signed X.2.1.2.1.2.1 dX0_wideProduct_5 rfl rfl rfl rfl rfl rfl rfl rfl rfl rfl rfl rfl rfl ?_
  refine k_lstore (lv' := [(8, .long (fX10_signed u2 a_sew)), (0, .ref b_a), (1, .int u1), (2, .long u2), (4, .long u4), (6, .long u6)]) X dX0_wideProduct_8 rfl rfl rfl ?_
  refine k_lload X dX0_wideProduct_10 4 rfl rfl ?_
  refine k_aload_n X dX0_wideProduct_12 rfl 1 rfl rfl ?_
  refine k_get X i_wsX00 0 1 q19_1 rfl rfl rfl rfl rfl dX0_wideProduct_13 rfl ?_
  refine k_cN1 (st := []) (ws' := [(b_a, .inr (0, [.ref b_r, .int a_sew, .long a_greatest, .long a_greatestSigned, .long a_leastSigned])), (b_r, .inr (7, [.ref r_scalars, .ref r_vectors, .ref r_type, .int r_length, .int r_start, .int r_rounding, .int r_saturated, .long r_choices]))]) (wr := [(b_a, .inr (0, [.ref b_r, .int a_sew, .long a_greatest, .long a_greatestSigned, .long a_leastSigned])), (b_r, .inr (7, [.ref r_scalars, .ref r_vectors, .ref r_type, .int r_length, .int r_start, .int r_rounding, .int r_saturated, .long r_choices]))]) X [.long u4, .int a_sew] 0 [] [0, 1] [0, 1] (kX10_signed l D kI kZ u4 a_sew) vX10_signed X.2.1.2.1.2.1 dX0_wideProduct_16 rfl rfl rfl rfl rfl rfl rfl rfl rfl rfl rfl rfl rfl ?_
  refine k_lstore (lv' := [(10, .long (fX10_signed u4 a_sew)), (8, .long (fX10_signed u2 a_sew)), (0, .ref b_a), (1, .int u1), (2, .long u2), (4, .long u4), (6, .long u6)]) X dX0_wideProduct_19 rfl rfl rfl ?_
  refine k_iload_n X dX0_wideProduct_21 rfl 3 rfl rfl ?_
  by_cases c1 : u1 = (120 : Int32)
  · refine k_tblIn (tgt := 68) X dX0_wideProduct_22 c1 (by decide) (by decide) rfl (by decide) ?_
    refine k_lload_n X dX0_wideProduct_68 rfl 4 rfl rfl ?_
    refine k_lload X dX0_wideProduct_69 5 rfl rfl ?_
    refine k_lmul X dX0_wideProduct_71 rfl ?_
    have e8 : (fX0_wideProduct a_sew u1 u2 u4 u6) = (u2 * u4) := by rw [fX0_wideProduct, if_pos c1]
    exact k_lret9 X hRt hLk e8.symm rfl dX0_wideProduct_72
  by_cases c2 : u1 = (122 : Int32)
  · refine k_tblIn (tgt := 73) X dX0_wideProduct_22 c2 (by decide) (by decide) rfl (by decide) ?_
    refine k_lload X dX0_wideProduct_73 1 rfl rfl ?_
    refine k_lload X dX0_wideProduct_75 5 rfl rfl ?_
    refine k_lmul X dX0_wideProduct_77 rfl ?_
    have e9 : (fX0_wideProduct a_sew u1 u2 u4 u6) = ((fX10_signed u2 a_sew) * u4) := by rw [fX0_wideProduct, if_neg c1, if_pos c2]
    exact k_lret9 X hRt hLk e9.symm rfl dX0_wideProduct_78
  by_cases c3 : u1 = (123 : Int32)
  · refine k_tblIn (tgt := 79) X dX0_wideProduct_22 c3 (by decide) (by decide) rfl (by decide) ?_
    refine k_lload X dX0_wideProduct_79 1 rfl rfl ?_
    refine k_lload X dX0_wideProduct_81 0 rfl rfl ?_
    refine k_lmul X dX0_wideProduct_83 rfl ?_
    have e10 : (fX0_wideProduct a_sew u1 u2 u4 u6) = ((fX10_signed u2 a_sew) * (fX10_signed u4 a_sew)) := by rw [fX0_wideProduct, if_neg c1, if_neg c2, if_pos c3]
    exact k_lret9 X hRt hLk e10.symm rfl dX0_wideProduct_84
  by_cases c4 : u1 = (124 : Int32)
  · refine k_tblIn (tgt := 85) X dX0_wideProduct_22 c4 (by decide) (by decide) rfl (by decide) ?_
    refine k_lload_n X dX0_wideProduct_85 rfl 4 rfl rfl ?_
    refine k_lload X dX0_wideProduct_86 5 rfl rfl ?_
    refine k_lmul X dX0_wideProduct_88 rfl ?_
    refine k_lload X dX0_wideProduct_89 6 rfl rfl ?_
    refine k_ladd X dX0_wideProduct_91 rfl ?_
    have e11 : (fX0_wideProduct a_sew u1 u2 u4 u6) = ((u2 * u4) + u6) := by rw [fX0_wideProduct, if_neg c1, if_neg c2, if_neg c3, if_pos c4]
    exact k_lret9 X hRt hLk e11.symm rfl dX0_wideProduct_92
  by_cases c5 : u1 = (125 : Int32)
  · refine k_tblIn (tgt := 93) X dX0_wideProduct_22 c5 (by decide) (by decide) rfl (by decide) ?_
    refine k_lload X dX0_wideProduct_93 1 rfl rfl ?_
    refine k_lload X dX0_wideProduct_95 0 rfl rfl ?_
    refine k_lmul X dX0_wideProduct_97 rfl ?_
    refine k_lload X dX0_wideProduct_98 6 rfl rfl ?_
    refine k_ladd X dX0_wideProduct_100 rfl ?_
    have e12 : (fX0_wideProduct a_sew u1 u2 u4 u6) = (((fX10_signed u2 a_sew) * (fX10_signed u4 a_sew)) + u6) := by rw [fX0_wideProduct, if_neg c1, if_neg c2, if_neg c3, if_neg c4, if_pos c5]
    exact k_lret9 X hRt hLk e12.symm rfl dX0_wideProduct_101
  by_cases c6 : u1 = (126 : Int32)
  · refine k_tblIn (tgt := 102) X dX0_wideProduct_22 c6 (by decide) (by decide) rfl (by decide) ?_
    refine k_lload X dX0_wideProduct_102 1 rfl rfl ?_
    refine k_lload X dX0_wideProduct_104 5 rfl rfl ?_
    refine k_lmul X dX0_wideProduct_106 rfl ?_
    refine k_lload X dX0_wideProduct_107 6 rfl rfl ?_
    refine k_ladd X dX0_wideProduct_109 rfl ?_
    have e13 : (fX0_wideProduct a_sew u1 u2 u4 u6) = (((fX10_signed u2 a_sew) * u4) + u6) := by rw [fX0_wideProduct, if_neg c1, if_neg c2, if_neg c3, if_neg c4, if_neg c5, if_pos c6]
    exact k_lret9 X hRt hLk e13.symm rfl dX0_wideProduct_110
  by_cases c7 : u1 = (127 : Int32)
  · refine k_tblIn (tgt := 111) X dX0_wideProduct_22 c7 (by decide) (by decide) rfl (by decide) ?_
    refine k_lload_n X dX0_wideProduct_111 rfl 4 rfl rfl ?_
    refine k_lload X dX0_wideProduct_112 0 rfl rfl ?_
    refine k_lmul X dX0_wideProduct_114 rfl ?_
    refine k_lload X dX0_wideProduct_115 6 rfl rfl ?_
    refine k_ladd X dX0_wideProduct_117 rfl ?_
    have e14 : (fX0_wideProduct a_sew u1 u2 u4 u6) = ((u2 * (fX10_signed u4 a_sew)) + u6) := by rw [fX0_wideProduct, if_neg c1, if_neg c2, if_neg c3, if_neg c4, if_neg c5, if_neg c6, if_pos c7]
    exact k_lret9 X hRt hLk e14.symm rfl dX0_wideProduct_118
  refine k_tblD (tgt := 119) X dX0_wideProduct_22 [(120 : Int32), (122 : Int32), (123 : Int32), (124 : Int32), (125 : Int32), (126 : Int32), (127 : Int32)] (List.forall_mem_cons.mpr ⟨c1, (List.forall_mem_cons.mpr ⟨c2, (List.forall_mem_cons.mpr ⟨c3, (List.forall_mem_cons.mpr ⟨c4, (List.forall_mem_cons.mpr ⟨c5, (List.forall_mem_cons.mpr ⟨c6, (List.forall_mem_cons.mpr ⟨c7, (fun _ h => absurd h List.not_mem_nil)⟩)⟩)⟩)⟩)⟩)⟩)⟩) (by decide +kernel) (by decide) ?_
  refine k_lconst (v := (0 : Int64)) X dX0_wideProduct_119 rfl rfl ?_
  have e15 : (fX0_wideProduct a_sew u1 u2 u4 u6) = (0 : Int64) := by rw [fX0_wideProduct, if_neg c1, if_neg c2, if_neg c3, if_neg c4, if_neg c5, if_neg c6, if_neg c7]
  exact k_lret9 X hRt hLk e15.symm rfl dX0_wideProduct_120
theorem vX0_wideProduct : kVi yX0_wideProduct cX0_wideProduct 12 (some .long) 4 := ⟨q26_10, q4_3, q26_8, q26_9, by decide, by decide +kernel⟩
noncomputable def pX0_result_119_S1 (a_sew : Int32) (u1 : Int32) (u2 : Int64) (u4 : Int64) (u6 : Int64) : Int64 := (if (120 : Int32) ≤ u1 then (fX0_wideProduct a_sew u1 u2 u4 u6) else (fX0_wideSum a_sew u1 u2 u4))
noncomputable def fX0_result (a_sew : Int32) (a_greatest : Int64) (a_greatestSigned : Int64) (a_leastSigned : Int64) (r_rounding : Int32) (u1 : Int32) (u2 : Int64) (u4 : Int64) (u6 : Int64) : Int64 := (if (32 : Int32) ≤ u1 then (if (44 : Int32) ≤ u1 then (if (64 : Int32) ≤ u1 then (if (96 : Int32) ≤ u1 then (if (100 : Int32) ≤ u1 then (if (112 : Int32) ≤ u1 then (pX0_result_119_S1 a_sew u1 u2 u4 u6) else (fX0_product a_sew u1 u2 u4 u6)) else (fX0_quotient a_sew u1 u2 u4)) else (fX0_average a_sew r_rounding u1 u2 u4)) else (fX0_narrow a_sew a_greatest a_greatestSigned a_leastSigned r_rounding u1 u2 u4)) else (fX0_saturatingOrShift a_sew a_greatest a_greatestSigned a_leastSigned r_rounding u1 u2 u4)) else (fX0_simple a_sew u1 u2 u4))
noncomputable def fX0_result__r_saturated (a_sew : Int32) (a_greatest : Int64) (a_greatestSigned : Int64) (a_leastSigned : Int64) (r_rounding : Int32) (r_saturated : Int32) (u1 : Int32) (u2 : Int64) (u4 : Int64) : Int32 := (if (32 : Int32) ≤ u1 then (if (44 : Int32) ≤ u1 then (if (64 : Int32) ≤ u1 then r_saturated else (fX0_narrow__r_saturated a_sew a_greatest a_greatestSigned a_leastSigned r_rounding r_saturated u1 u2 u4)) else (fX0_saturatingOrShift__r_saturated a_sew a_greatest a_greatestSigned a_leastSigned r_rounding r_saturated u1 u2 u4)) else r_saturated)
noncomputable def okX0_result (a_sew : Int32) (u1 : Int32) (u4 : Int64) : Prop := (((32 : Int32) ≤ u1) → ((44 : Int32) ≤ u1) → ((64 : Int32) ≤ u1) → ((96 : Int32) ≤ u1) → ¬ ((100 : Int32) ≤ u1) → okX0_quotient a_sew u1 u4)
set_option maxRecDepth 100000 in
set_option maxHeartbeats 4000000 in
theorem kX0_result (l : Launch) (D : va_G) (kI kZ : ClassId) (b_a : Nat) (b_r : Nat) (a_sew : Int32) (a_greatest : Int64) (a_greatestSigned : Int64) (a_leastSigned : Int64) (r_scalars : Nat) (r_vectors : Nat) (r_type : Nat) (r_length : Int32) (r_start : Int32) (r_rounding : Int32) (r_saturated : Int32) (r_choices : Int64) (u1 : Int32) (u2 : Int64) (u4 : Int64) (u6 : Int64) (hok : okX0_result a_sew u1 u4) : kM l yX0_result cX0_result 8 (some .long) 2 57 0 0 D [(kI, .int), (kZ, .boolean)] [.ref b_a, .int u1, .long u2, .long u4, .long u6] [(b_a, .inr (0, [.ref b_r, .int a_sew, .long a_greatest, .long a_greatestSigned, .long a_leastSigned])), (b_r, .inr (7, [.ref r_scalars, .ref r_vectors, .ref r_type, .int r_length, .int r_start, .int r_rounding, .int r_saturated, .long r_choices]))] (some (.long (fX0_result a_sew a_greatest a_greatestSigned a_leastSigned r_rounding u1 u2 u4 u6))) [(b_a, .inr (0, [.ref b_r, .int a_sew, .long a_greatest, .long a_greatestSigned, .long a_leastSigned])), (b_r, .inr (7, [.ref r_scalars, .ref r_vectors, .ref r_type, .int r_length, .int r_start, .int r_rounding, .int (fX0_result__r_saturated a_sew a_greatest a_greatestSigned a_leastSigned r_rounding r_saturated u1 u2 u4), .long r_choices]))] := by
  refine kM.of (by decide) rfl ?_
  intro p e R s m args below meth c A X _ _ hRt hLk
  refine k_sub [0, 1, 2, 3, 4] (lv' := [(0, .ref b_a), (1, .int u1), (2, .long u2), (4, .long u4), (6, .long u6)]) rfl ?_
  unfold okX0_result at hok
  refine k_iload_n X dX0_result_0 rfl 1 rfl rfl ?_
  refine k_bipush X dX0_result_1 kc_b_32 rfl ?_
  refine k_icmp_ge (tgt := 15) X dX0_result_3 (by decide) rfl (fun c1 => ?_) (fun c1 => ?_)
  · skip
    refine k_iload_n X dX0_result_15 rfl 1 rfl rfl ?_
    refine k_bipush X dX0_result_16 kc_b_44 rfl ?_
    refine k_icmp_ge (tgt := 30) X dX0_result_18 (by decide) rfl (fun c2 => ?_) (fun c2 => ?_)
    · skip
      refine k_iload_n X dX0_result_30 rfl 1 rfl rfl ?_
      refine k_bipush X dX0_result_31 kc_b_64 rfl ?_
      refine k_icmp_ge (tgt := 45) X dX0_result_33 (by decide) rfl (fun c3 => ?_) (fun c3 => ?_)
      · skip
        refine k_iload_n X dX0_result_45 rfl 1 rfl rfl ?_
        refine k_bipush X dX0_result_46 kc_b_96 rfl ?_
        refine k_icmp_ge (tgt := 60) X dX0_result_48 (by decide) rfl (fun c4 => ?_) (fun c4 => ?_)
        · skip
          refine k_iload_n X dX0_result_60 rfl 1 rfl rfl ?_
          refine k_bipush X dX0_result_61 kc_b_100 rfl ?_
          refine k_icmp_ge (tgt := 75) X dX0_result_63 (by decide) rfl (fun c5 => ?_) (fun c5 => ?_)
          · skip
            refine k_iload_n X dX0_result_75 rfl 1 rfl rfl ?_
            refine k_bipush X dX0_result_76 kc_b_112 rfl ?_
            refine k_icmp_ge (tgt := 92) X dX0_result_78 (by decide) rfl (fun c6 => ?_) (fun c6 => ?_)
            · skip
              refine k_iload_n X dX0_result_92 rfl 1 rfl rfl ?_
              refine k_bipush X dX0_result_93 kc_b_120 rfl ?_
              refine k_mid2 [(b_a, .inr (0, [.ref b_r, .int a_sew, .long a_greatest, .long a_greatestSigned, .long a_leastSigned])), (b_r, .inr (7, [.ref r_scalars, .ref r_vectors, .ref r_type, .int r_length, .int r_start, .int r_rounding, .int r_saturated, .long r_choices]))] [(0, .ref b_a), (1, .int u1), (2, .long u2), (4, .long u4), (6, .long u6)] [.long (pX0_result_119_S1 a_sew u1 u2 u4 u6)] 119 (fun hJ8 => ?_) ?_
              · skip
                refine k_icmp_ge (tgt := 109) X dX0_result_95 (by decide) rfl (fun c7 => ?_) (fun c7 => ?_)
                · skip
                  refine k_aload_n X dX0_result_109 rfl 0 rfl rfl ?_
                  refine k_iload_n X dX0_result_110 rfl 1 rfl rfl ?_
                  refine k_lload_n X dX0_result_111 rfl 2 rfl rfl ?_
                  refine k_lload X dX0_result_112 3 rfl rfl ?_
                  refine k_lload X dX0_result_114 4 rfl rfl ?_
                  refine k_cV1 (st := []) (ws' := [(b_a, .inr (0, [.ref b_r, .int a_sew, .long a_greatest, .long a_greatestSigned, .long a_leastSigned])), (b_r, .inr (7, [.ref r_scalars, .ref r_vectors, .ref r_type, .int r_length, .int r_start, .int r_rounding, .int r_saturated, .long r_choices]))]) (wr := []) (ci := 0) (q9 := 0) X [.int u1, .long u2, .long u4, .long u6] 0 [0, 1] [] [0, 1] (kX0_wideProduct l D kI kZ b_a b_r a_sew a_greatest a_greatestSigned a_leastSigned r_scalars r_vectors r_type r_length r_start r_rounding r_saturated r_choices u1 u2 u4 u6) vX0_wideProduct q26_7 dX0_result_116 rfl rfl rfl rfl rfl rfl rfl rfl rfl rfl rfl rfl rfl rfl rfl ?_
                  have e9 : (pX0_result_119_S1 a_sew u1 u2 u4 u6) = (fX0_wideProduct a_sew u1 u2 u4 u6) := by rw [pX0_result_119_S1, if_pos c7]
                  rw [e9] at hJ8
                  exact k_sub [0, 1, 2, 3, 4] rfl hJ8
                refine k_aload_n X dX0_result_98 rfl 0 rfl rfl ?_
                refine k_iload_n X dX0_result_99 rfl 1 rfl rfl ?_
                refine k_lload_n X dX0_result_100 rfl 2 rfl rfl ?_
                refine k_lload X dX0_result_101 3 rfl rfl ?_
                refine k_cV1 (st := []) (ws' := [(b_a, .inr (0, [.ref b_r, .int a_sew, .long a_greatest, .long a_greatestSigned, .long a_leastSigned])), (b_r, .inr (7, [.ref r_scalars, .ref r_vectors, .ref r_type, .int r_length, .int r_start, .int r_rounding, .int r_saturated, .long r_choices]))]) (wr := []) (ci := 0) (q9 := 0) X [.int u1, .long u2, .long u4] 0 [0, 1] [] [0, 1] (kX0_wideSum l D kI kZ b_a b_r a_sew a_greatest a_greatestSigned a_leastSigned r_scalars r_vectors r_type r_length r_start r_rounding r_saturated r_choices u1 u2 u4) vX0_wideSum q26_3 dX0_result_103 rfl rfl rfl rfl rfl rfl rfl rfl rfl rfl rfl rfl rfl rfl rfl ?_
                refine k_goto (tgt := 119) X dX0_result_106 (by decide) ?_
                have e10 : (pX0_result_119_S1 a_sew u1 u2 u4 u6) = (fX0_wideSum a_sew u1 u2 u4) := by rw [pX0_result_119_S1, if_neg c7]
                rw [e10] at hJ8
                exact k_sub [0, 1, 2, 3, 4] rfl hJ8
              have e11 : (fX0_result a_sew a_greatest a_greatestSigned a_leastSigned r_rounding u1 u2 u4 u6) = (pX0_result_119_S1 a_sew u1 u2 u4 u6) := by rw [fX0_result, if_pos c1, if_pos c2, if_pos c3, if_pos c4, if_pos c5, if_pos c6]
              have e12 : (fX0_result__r_saturated a_sew a_greatest a_greatestSigned a_leastSigned r_rounding r_saturated u1 u2 u4) = r_saturated := by rw [fX0_result__r_saturated, if_pos c1, if_pos c2, if_pos c3]
              exact k_lret9 X hRt hLk e11.symm (by rw [e12]) dX0_result_119
            refine k_aload_n X dX0_result_81 rfl 0 rfl rfl ?_
            refine k_iload_n X dX0_result_82 rfl 1 rfl rfl ?_
            refine k_lload_n X dX0_result_83 rfl 2 rfl rfl ?_
            refine k_lload X dX0_result_84 3 rfl rfl ?_
            refine k_lload X dX0_result_86 4 rfl rfl ?_
            refine k_cV1 (st := []) (ws' := [(b_a, .inr (0, [.ref b_r, .int a_sew, .long a_greatest, .long a_greatestSigned, .long a_leastSigned])), (b_r, .inr (7, [.ref r_scalars, .ref r_vectors, .ref r_type, .int r_length, .int r_start, .int r_rounding, .int r_saturated, .long r_choices]))]) (wr := []) (ci := 0) (q9 := 0) X [.int u1, .long u2, .long u4, .long u6] 0 [0, 1] [] [0, 1] (kX0_product l D kI kZ b_a b_r a_sew a_greatest a_greatestSigned a_leastSigned r_scalars r_vectors r_type r_length r_start r_rounding r_saturated r_choices u1 u2 u4 u6) vX0_product q25_23 dX0_result_88 rfl rfl rfl rfl rfl rfl rfl rfl rfl rfl rfl rfl rfl rfl rfl ?_
            have e13 : (fX0_result a_sew a_greatest a_greatestSigned a_leastSigned r_rounding u1 u2 u4 u6) = (fX0_product a_sew u1 u2 u4 u6) := by rw [fX0_result, if_pos c1, if_pos c2, if_pos c3, if_pos c4, if_pos c5, if_neg c6]
            have e14 : (fX0_result__r_saturated a_sew a_greatest a_greatestSigned a_leastSigned r_rounding r_saturated u1 u2 u4) = r_saturated := by rw [fX0_result__r_saturated, if_pos c1, if_pos c2, if_pos c3]
            exact k_lret9 X hRt hLk e13.symm (by rw [e14]) dX0_result_91
          refine k_aload_n X dX0_result_66 rfl 0 rfl rfl ?_
          refine k_iload_n X dX0_result_67 rfl 1 rfl rfl ?_
          refine k_lload_n X dX0_result_68 rfl 2 rfl rfl ?_
          refine k_lload X dX0_result_69 3 rfl rfl ?_
          refine k_cV1 (st := []) (ws' := [(b_a, .inr (0, [.ref b_r, .int a_sew, .long a_greatest, .long a_greatestSigned, .long a_leastSigned])), (b_r, .inr (7, [.ref r_scalars, .ref r_vectors, .ref r_type, .int r_length, .int r_start, .int r_rounding, .int r_saturated, .long r_choices]))]) (wr := []) (ci := 0) (q9 := 0) X [.int u1, .long u2, .long u4] 0 [0, 1] [] [0, 1] (kX0_quotient l D kI kZ b_a b_r a_sew a_greatest a_greatestSigned a_leastSigned r_scalars r_vectors r_type r_length r_start r_rounding r_saturated r_choices u1 u2 u4 (hok c1 c2 c3 c4 c5)) vX0_quotient q25_19 dX0_result_71 rfl rfl rfl rfl rfl rfl rfl rfl rfl rfl rfl rfl rfl rfl rfl ?_
          have e15 : (fX0_result a_sew a_greatest a_greatestSigned a_leastSigned r_rounding u1 u2 u4 u6) = (fX0_quotient a_sew u1 u2 u4) := by rw [fX0_result, if_pos c1, if_pos c2, if_pos c3, if_pos c4, if_neg c5]
          have e16 : (fX0_result__r_saturated a_sew a_greatest a_greatestSigned a_leastSigned r_rounding r_saturated u1 u2 u4) = r_saturated := by rw [fX0_result__r_saturated, if_pos c1, if_pos c2, if_pos c3]
          exact k_lret9 X hRt hLk e15.symm (by rw [e16]) dX0_result_74
        refine k_aload_n X dX0_result_51 rfl 0 rfl rfl ?_
        refine k_iload_n X dX0_result_52 rfl 1 rfl rfl ?_
        refine k_lload_n X dX0_result_53 rfl 2 rfl rfl ?_
        refine k_lload X dX0_result_54 3 rfl rfl ?_
        refine k_cV1 (st := []) (ws' := [(b_a, .inr (0, [.ref b_r, .int a_sew, .long a_greatest, .long a_greatestSigned, .long a_leastSigned])), (b_r, .inr (7, [.ref r_scalars, .ref r_vectors, .ref r_type, .int r_length, .int r_start, .int r_rounding, .int r_saturated, .long r_choices]))]) (wr := []) (ci := 0) (q9 := 0) X [.int u1, .long u2, .long u4] 0 [0, 1] [] [0, 1] (kX0_average l D kI kZ b_a b_r a_sew a_greatest a_greatestSigned a_leastSigned r_scalars r_vectors r_type r_length r_start r_rounding r_saturated r_choices u1 u2 u4) vX0_average q25_15 dX0_result_56 rfl rfl rfl rfl rfl rfl rfl rfl rfl rfl rfl rfl rfl rfl rfl ?_
        have e17 : (fX0_result a_sew a_greatest a_greatestSigned a_leastSigned r_rounding u1 u2 u4 u6) = (fX0_average a_sew r_rounding u1 u2 u4) := by rw [fX0_result, if_pos c1, if_pos c2, if_pos c3, if_neg c4]
        have e18 : (fX0_result__r_saturated a_sew a_greatest a_greatestSigned a_leastSigned r_rounding r_saturated u1 u2 u4) = r_saturated := by rw [fX0_result__r_saturated, if_pos c1, if_pos c2, if_pos c3]
        exact k_lret9 X hRt hLk e17.symm (by rw [e18]) dX0_result_59
      refine k_aload_n X dX0_result_36 rfl 0 rfl rfl ?_
      refine k_iload_n X dX0_result_37 rfl 1 rfl rfl ?_
      refine k_lload_n X dX0_result_38 rfl 2 rfl rfl ?_
      refine k_lload X dX0_result_39 3 rfl rfl ?_
      refine k_cV1 (st := []) (ws' := [(b_a, .inr (0, [.ref b_r, .int a_sew, .long a_greatest, .long a_greatestSigned, .long a_leastSigned])), (b_r, .inr (7, [.ref r_scalars, .ref r_vectors, .ref r_type, .int r_length, .int r_start, .int r_rounding, .int (fX0_narrow__r_saturated a_sew a_greatest a_greatestSigned a_leastSigned r_rounding r_saturated u1 u2 u4), .long r_choices]))]) (wr := []) (ci := 0) (q9 := 0) X [.int u1, .long u2, .long u4] 0 [0, 1] [] [0, 1] (kX0_narrow l D kI kZ b_a b_r a_sew a_greatest a_greatestSigned a_leastSigned r_scalars r_vectors r_type r_length r_start r_rounding r_saturated r_choices u1 u2 u4) vX0_narrow q25_11 dX0_result_41 rfl rfl rfl rfl rfl rfl rfl rfl rfl rfl rfl rfl rfl rfl rfl ?_
      have e19 : (fX0_result a_sew a_greatest a_greatestSigned a_leastSigned r_rounding u1 u2 u4 u6) = (fX0_narrow a_sew a_greatest a_greatestSigned a_leastSigned r_rounding u1 u2 u4) := by rw [fX0_result, if_pos c1, if_pos c2, if_neg c3]
      have e20 : (fX0_result__r_saturated a_sew a_greatest a_greatestSigned a_leastSigned r_rounding r_saturated u1 u2 u4) = (fX0_narrow__r_saturated a_sew a_greatest a_greatestSigned a_leastSigned r_rounding r_saturated u1 u2 u4) := by rw [fX0_result__r_saturated, if_pos c1, if_pos c2, if_neg c3]
      exact k_lret9 X hRt hLk e19.symm (by rw [e20]) dX0_result_44
    refine k_aload_n X dX0_result_21 rfl 0 rfl rfl ?_
    refine k_iload_n X dX0_result_22 rfl 1 rfl rfl ?_
    refine k_lload_n X dX0_result_23 rfl 2 rfl rfl ?_
    refine k_lload X dX0_result_24 3 rfl rfl ?_
    refine k_cV1 (st := []) (ws' := [(b_a, .inr (0, [.ref b_r, .int a_sew, .long a_greatest, .long a_greatestSigned, .long a_leastSigned])), (b_r, .inr (7, [.ref r_scalars, .ref r_vectors, .ref r_type, .int r_length, .int r_start, .int r_rounding, .int (fX0_saturatingOrShift__r_saturated a_sew a_greatest a_greatestSigned a_leastSigned r_rounding r_saturated u1 u2 u4), .long r_choices]))]) (wr := []) (ci := 0) (q9 := 0) X [.int u1, .long u2, .long u4] 0 [0, 1] [] [0, 1] (kX0_saturatingOrShift l D kI kZ b_a b_r a_sew a_greatest a_greatestSigned a_leastSigned r_scalars r_vectors r_type r_length r_start r_rounding r_saturated r_choices u1 u2 u4) vX0_saturatingOrShift q24_20 dX0_result_26 rfl rfl rfl rfl rfl rfl rfl rfl rfl rfl rfl rfl rfl rfl rfl ?_
    have e21 : (fX0_result a_sew a_greatest a_greatestSigned a_leastSigned r_rounding u1 u2 u4 u6) = (fX0_saturatingOrShift a_sew a_greatest a_greatestSigned a_leastSigned r_rounding u1 u2 u4) := by rw [fX0_result, if_pos c1, if_neg c2]
    have e22 : (fX0_result__r_saturated a_sew a_greatest a_greatestSigned a_leastSigned r_rounding r_saturated u1 u2 u4) = (fX0_saturatingOrShift__r_saturated a_sew a_greatest a_greatestSigned a_leastSigned r_rounding r_saturated u1 u2 u4) := by rw [fX0_result__r_saturated, if_pos c1, if_neg c2]
    exact k_lret9 X hRt hLk e21.symm (by rw [e22]) dX0_result_29
  refine k_aload_n X dX0_result_6 rfl 0 rfl rfl ?_
  refine k_iload_n X dX0_result_7 rfl 1 rfl rfl ?_
  refine k_lload_n X dX0_result_8 rfl 2 rfl rfl ?_
  refine k_lload X dX0_result_9 3 rfl rfl ?_
  refine k_cV1 (st := []) (ws' := [(b_a, .inr (0, [.ref b_r, .int a_sew, .long a_greatest, .long a_greatestSigned, .long a_leastSigned])), (b_r, .inr (7, [.ref r_scalars, .ref r_vectors, .ref r_type, .int r_length, .int r_start, .int r_rounding, .int r_saturated, .long r_choices]))]) (wr := []) (ci := 0) (q9 := 0) X [.int u1, .long u2, .long u4] 0 [0, 1] [] [0, 1] (kX0_simple l D kI kZ b_a b_r a_sew a_greatest a_greatestSigned a_leastSigned r_scalars r_vectors r_type r_length r_start r_rounding r_saturated r_choices u1 u2 u4) vX0_simple q24_16 dX0_result_11 rfl rfl rfl rfl rfl rfl rfl rfl rfl rfl rfl rfl rfl rfl rfl ?_
  have e23 : (fX0_result a_sew a_greatest a_greatestSigned a_leastSigned r_rounding u1 u2 u4 u6) = (fX0_simple a_sew u1 u2 u4) := by rw [fX0_result, if_neg c1]
  have e24 : (fX0_result__r_saturated a_sew a_greatest a_greatestSigned a_leastSigned r_rounding r_saturated u1 u2 u4) = r_saturated := by rw [fX0_result__r_saturated, if_neg c1]
  exact k_lret9 X hRt hLk e23.symm (by rw [e24]) dX0_result_14
theorem vX0_result : kVi yX0_result cX0_result 8 (some .long) 4 := ⟨q24_15, q4_3, q24_13, q24_14, by decide, by decide +kernel⟩
noncomputable def pX0_compare_80_S1 (u2 : Int64) (u4 : Int64) : Int32 := (if u2 = u4 then (1 : Int32) else (0 : Int32))
theorem zpX0_compare_80_S1 (u2 : Int64) (u4 : Int64) : narrow .boolean (.int (pX0_compare_80_S1 u2 u4)) = .int (pX0_compare_80_S1 u2 u4) := by unfold pX0_compare_80_S1; exact (kzi rfl rfl)
noncomputable def pX0_compare_96_S1 (u2 : Int64) (u4 : Int64) : Int32 := (if u2 = u4 then (0 : Int32) else (1 : Int32))
theorem zpX0_compare_96_S1 (u2 : Int64) (u4 : Int64) : narrow .boolean (.int (pX0_compare_96_S1 u2 u4)) = .int (pX0_compare_96_S1 u2 u4) := by unfold pX0_compare_96_S1; exact (kzi rfl rfl)
noncomputable def pX0_compare_112_S1 (u2 : Int64) (u4 : Int64) : Int32 := (if u4 ≤ u2 then (0 : Int32) else (1 : Int32))
theorem zpX0_compare_112_S1 (u2 : Int64) (u4 : Int64) : narrow .boolean (.int (pX0_compare_112_S1 u2 u4)) = .int (pX0_compare_112_S1 u2 u4) := by unfold pX0_compare_112_S1; exact (kzi rfl rfl)
noncomputable def pX0_compare_129_S1 (a_sew : Int32) (u2 : Int64) (u4 : Int64) : Int32 := (if (fX10_signed u4 a_sew) ≤ (fX10_signed u2 a_sew) then (0 : Int32) else (1 : Int32))
theorem zpX0_compare_129_S1 (a_sew : Int32) (u2 : Int64) (u4 : Int64) : narrow .boolean (.int (pX0_compare_129_S1 a_sew u2 u4)) = .int (pX0_compare_129_S1 a_sew u2 u4) := by unfold pX0_compare_129_S1; exact (kzi rfl rfl)
noncomputable def pX0_compare_145_S1 (u2 : Int64) (u4 : Int64) : Int32 := (if u4 < u2 then (0 : Int32) else (1 : Int32))
theorem zpX0_compare_145_S1 (u2 : Int64) (u4 : Int64) : narrow .boolean (.int (pX0_compare_145_S1 u2 u4)) = .int (pX0_compare_145_S1 u2 u4) := by unfold pX0_compare_145_S1; exact (kzi rfl rfl)
noncomputable def pX0_compare_162_S1 (a_sew : Int32) (u2 : Int64) (u4 : Int64) : Int32 := (if (fX10_signed u4 a_sew) < (fX10_signed u2 a_sew) then (0 : Int32) else (1 : Int32))
theorem zpX0_compare_162_S1 (a_sew : Int32) (u2 : Int64) (u4 : Int64) : narrow .boolean (.int (pX0_compare_162_S1 a_sew u2 u4)) = .int (pX0_compare_162_S1 a_sew u2 u4) := by unfold pX0_compare_162_S1; exact (kzi rfl rfl)
noncomputable def pX0_compare_178_S1 (u2 : Int64) (u4 : Int64) : Int32 := (if u2 ≤ u4 then (0 : Int32) else (1 : Int32))
theorem zpX0_compare_178_S1 (u2 : Int64) (u4 : Int64) : narrow .boolean (.int (pX0_compare_178_S1 u2 u4)) = .int (pX0_compare_178_S1 u2 u4) := by unfold pX0_compare_178_S1; exact (kzi rfl rfl)
noncomputable def pX0_compare_195_S1 (a_sew : Int32) (u2 : Int64) (u4 : Int64) : Int32 := (if (fX10_signed u2 a_sew) ≤ (fX10_signed u4 a_sew) then (0 : Int32) else (1 : Int32))
theorem zpX0_compare_195_S1 (a_sew : Int32) (u2 : Int64) (u4 : Int64) : narrow .boolean (.int (pX0_compare_195_S1 a_sew u2 u4)) = .int (pX0_compare_195_S1 a_sew u2 u4) := by unfold pX0_compare_195_S1; exact (kzi rfl rfl)
noncomputable def fX0_compare (a_sew : Int32) (u1 : Int32) (u2 : Int64) (u4 : Int64) : Int64 := (if u1 = (24 : Int32) then (fX0_bit (pX0_compare_80_S1 u2 u4)) else (if u1 = (25 : Int32) then (fX0_bit (pX0_compare_96_S1 u2 u4)) else (if u1 = (26 : Int32) then (fX0_bit (pX0_compare_112_S1 u2 u4)) else (if u1 = (27 : Int32) then (fX0_bit (pX0_compare_129_S1 a_sew u2 u4)) else (if u1 = (28 : Int32) then (fX0_bit (pX0_compare_145_S1 u2 u4)) else (if u1 = (29 : Int32) then (fX0_bit (pX0_compare_162_S1 a_sew u2 u4)) else (if u1 = (30 : Int32) then (fX0_bit (pX0_compare_178_S1 u2 u4)) else (if u1 = (31 : Int32) then (fX0_bit (pX0_compare_195_S1 a_sew u2 u4)) else (0 : Int64)))))))))
set_option maxRecDepth 100000 in
set_option maxHeartbeats 4000000 in
theorem kX0_compare (l : Launch) (D : va_G) (kI kZ : ClassId) (b_a : Nat) (b_r : Nat) (a_sew : Int32) (a_greatest : Int64) (a_greatestSigned : Int64) (a_leastSigned : Int64) (r_scalars : Nat) (r_vectors : Nat) (r_type : Nat) (r_length : Int32) (r_start : Int32) (r_rounding : Int32) (r_saturated : Int32) (r_choices : Int64) (u1 : Int32) (u2 : Int64) (u4 : Int64) : kM l yX0_compare cX0_compare 10 (some .long) 1 14 0 0 D [(kI, .int), (kZ, .boolean)] [.ref b_a, .int u1, .long u2, .long u4] [(b_a, .inr (0, [.ref b_r, .int a_sew, .long a_greatest, .long a_greatestSigned, .long a_leastSigned])), (b_r, .inr (7, [.ref r_scalars, .ref r_vectors, .ref r_type, .int r_length, .int r_start, .int r_rounding, .int r_saturated, .long r_choices]))] (some (.long (fX0_compare a_sew u1 u2 u4))) [(b_a, .inr (0, [.ref b_r, .int a_sew, .long a_greatest, .long a_greatestSigned, .long a_leastSigned])), (b_r, .inr (7, [.ref r_scalars, .ref r_vectors, .ref r_type, .int r_length, .int r_start, .int r_rounding, .int r_saturated, .long r_choices]))] := by
  refine kM.of (by decide) rfl ?_
  intro p e R s m args below meth c A X _ _ hRt hLk
  refine k_sub [0, 1, 2, 3] (lv' := [(0, .ref b_a), (1, .int u1), (2, .long u2), (4, .long u4)]) rfl ?_
  refine k_lload_n X dX0_compare_0 rfl 2 rfl rfl ?_
  refine k_aload_n X dX0_compare_1 rfl 0 rfl rfl ?_
  refine k_get X i_wsX00 0 1 q19_1 rfl rfl rfl rfl rfl dX0_compare_2 rfl ?_
  refine k_cN1 (st := []) (ws' := [(b_a, .inr (0, [.ref b_r, .int a_sew, .long a_greatest, .long a_greatestSigned, .long a_leastSigned])), (b_r, .inr (7, [.ref r_scalars, .ref r_vectors, .ref r_type, .int r_length, .int r_start, .int r_rounding, .int r_saturated, .long r_choices]))]) (wr := [(b_a, .inr (0, [.ref b_r, .int a_sew, .long a_greatest, .long a_greatestSigned, .long a_leastSigned])), (b_r, .inr (7, [.ref r_scalars, .ref r_vectors, .ref r_type, .int r_length, .int r_start, .int r_rounding, .int r_saturated, .long r_choices]))]) X [.long u2, .int a_sew] 0 [] [0, 1] [0, 1] (kX10_signed l D kI kZ u2 a_sew) vX10_signed X.2.1.2.1.2.1 dX0_compare_5 rfl rfl rfl rfl rfl rfl rfl rfl rfl rfl rfl rfl rfl ?_
  refine k_lstore (lv' := [(6, .long (fX10_signed u2 a_sew)), (0, .ref b_a), (1, .int u1), (2, .long u2), (4, .long u4)]) X dX0_compare_8 rfl rfl rfl ?_
  refine k_lload X dX0_compare_10 4 rfl rfl ?_
  refine k_aload_n X dX0_compare_12 rfl 1 rfl rfl ?_
  refine k_get X i_wsX00 0 1 q19_1 rfl rfl rfl rfl rfl dX0_compare_13 rfl ?_
  refine k_cN1 (st := []) (ws' := [(b_a, .inr (0, [.ref b_r, .int a_sew, .long a_greatest, .long a_greatestSigned, .long a_leastSigned])), (b_r, .inr (7, [.ref r_scalars, .ref r_vectors, .ref r_type, .int r_length, .int r_start, .int r_rounding, .int r_saturated, .long r_choices]))]) (wr := [(b_a, .inr (0, [.ref b_r, .int a_sew, .long a_greatest, .long a_greatestSigned, .long a_leastSigned])), (b_r, .inr (7, [.ref r_scalars, .ref r_vectors, .ref r_type, .int r_length, .int r_start, .int r_rounding, .int r_saturated, .long r_choices]))]) X [.long u4, .int a_sew] 0 [] [0, 1] [0, 1] (kX10_signed l D kI kZ u4 a_sew) vX10_signed X.2.1.2.1.2.1 dX0_compare_16 rfl rfl rfl rfl rfl rfl rfl rfl rfl rfl rfl rfl rfl ?_
  refine k_lstore (lv' := [(8, .long (fX10_signed u4 a_sew)), (6, .long (fX10_signed u2 a_sew)), (0, .ref b_a), (1, .int u1), (2, .long u2), (4, .long u4)]) X dX0_compare_19 rfl rfl rfl ?_
  refine k_iload_n X dX0_compare_21 rfl 3 rfl rfl ?_
  by_cases c1 : u1 = (24 : Int32)
  · refine k_tblIn (tgt := 68) X dX0_compare_22 c1 (by decide) (by decide) rfl (by decide) ?_
    refine k_lload_n X dX0_compare_68 rfl 4 rfl rfl ?_
    refine k_lload X dX0_compare_69 5 rfl rfl ?_
    refine k_mid2 [(b_a, .inr (0, [.ref b_r, .int a_sew, .long a_greatest, .long a_greatestSigned, .long a_leastSigned])), (b_r, .inr (7, [.ref r_scalars, .ref r_vectors, .ref r_type, .int r_length, .int r_start, .int r_rounding, .int r_saturated, .long r_choices]))] [(0, .ref b_a), (1, .int u1), (2, .long u2), (4, .long u4), (6, .long (fX10_signed u2 a_sew)), (8, .long (fX10_signed u4 a_sew))] [.int (pX0_compare_80_S1 u2 u4)] 80 (fun hJ3 => ?_) ?_
    · skip
      refine k_lcmp_ne (tgt := 79) X dX0_compare_71 rfl dX0_compare_72 (by decide) rfl (fun c2 => ?_) (fun c2 => ?_)
      · skip
        refine k_iconst X dX0_compare_75 kc_i_1 rfl ?_
        refine k_goto (tgt := 80) X dX0_compare_76 (by decide) ?_
        have e25 : (pX0_compare_80_S1 u2 u4) = (1 : Int32) := by rw [pX0_compare_80_S1, if_pos c2]
        rw [e25] at hJ3
        exact k_sub [2, 3, 4, 5, 1, 0] rfl hJ3
      refine k_iconst X dX0_compare_79 kc_i_0 rfl ?_
      have e26 : (pX0_compare_80_S1 u2 u4) = (0 : Int32) := by rw [pX0_compare_80_S1, if_neg c2]
      rw [e26] at hJ3
      exact k_sub [2, 3, 4, 5, 1, 0] rfl hJ3
    refine k_cS1 (st := []) (ws' := [(b_a, .inr (0, [.ref b_r, .int a_sew, .long a_greatest, .long a_greatestSigned, .long a_leastSigned])), (b_r, .inr (7, [.ref r_scalars, .ref r_vectors, .ref r_type, .int r_length, .int r_start, .int r_rounding, .int r_saturated, .long r_choices]))]) (wr := [(b_a, .inr (0, [.ref b_r, .int a_sew, .long a_greatest, .long a_greatestSigned, .long a_leastSigned])), (b_r, .inr (7, [.ref r_scalars, .ref r_vectors, .ref r_type, .int r_length, .int r_start, .int r_rounding, .int r_saturated, .long r_choices]))]) X [.int (pX0_compare_80_S1 u2 u4)] 0 [] [0, 1] [0, 1] (kX0_bit l D kI kZ (pX0_compare_80_S1 u2 u4)) vX0_bit q23_11 dX0_compare_80 rfl rfl rfl rfl rfl rfl rfl rfl rfl rfl rfl rfl rfl ?_
    have e27 : (fX0_compare a_sew u1 u2 u4) = (fX0_bit (pX0_compare_80_S1 u2 u4)) := by rw [fX0_compare, if_pos c1]
    exact k_lret9 X hRt hLk e27.symm rfl dX0_compare_83
  by_cases c4 : u1 = (25 : Int32)
  · refine k_tblIn (tgt := 84) X dX0_compare_22 c4 (by decide) (by decide) rfl (by decide) ?_
    refine k_lload_n X dX0_compare_84 rfl 4 rfl rfl ?_
    refine k_lload X dX0_compare_85 5 rfl rfl ?_
    refine k_mid2 [(b_a, .inr (0, [.ref b_r, .int a_sew, .long a_greatest, .long a_greatestSigned, .long a_leastSigned])), (b_r, .inr (7, [.ref r_scalars, .ref r_vectors, .ref r_type, .int r_length, .int r_start, .int r_rounding, .int r_saturated, .long r_choices]))] [(0, .ref b_a), (1, .int u1), (2, .long u2), (4, .long u4), (6, .long (fX10_signed u2 a_sew)), (8, .long (fX10_signed u4 a_sew))] [.int (pX0_compare_96_S1 u2 u4)] 96 (fun hJ6 => ?_) ?_
    · skip
      refine k_lcmp_eq (tgt := 95) X dX0_compare_87 rfl dX0_compare_88 (by decide) rfl (fun c5 => ?_) (fun c5 => ?_)
      · skip
        refine k_iconst X dX0_compare_95 kc_i_0 rfl ?_
        have e28 : (pX0_compare_96_S1 u2 u4) = (0 : Int32) := by rw [pX0_compare_96_S1, if_pos c5]
        rw [e28] at hJ6
        exact k_sub [2, 3, 4, 5, 1, 0] rfl hJ6
      refine k_iconst X dX0_compare_91 kc_i_1 rfl ?_
      refine k_goto (tgt := 96) X dX0_compare_92 (by decide) ?_
      have e29 : (pX0_compare_96_S1 u2 u4) = (1 : Int32) := by rw [pX0_compare_96_S1, if_neg c5]
      rw [e29] at hJ6
      exact k_sub [2, 3, 4, 5, 1, 0] rfl hJ6
    refine k_cS1 (st := []) (ws' := [(b_a, .inr (0, [.ref b_r, .int a_sew, .long a_greatest, .long a_greatestSigned, .long a_leastSigned])), (b_r, .inr (7, [.ref r_scalars, .ref r_vectors, .ref r_type, .int r_length, .int r_start, .int r_rounding, .int r_saturated, .long r_choices]))]) (wr := [(b_a, .inr (0, [.ref b_r, .int a_sew, .long a_greatest, .long a_greatestSigned, .long a_leastSigned])), (b_r, .inr (7, [.ref r_scalars, .ref r_vectors, .ref r_type, .int r_length, .int r_start, .int r_rounding, .int r_saturated, .long r_choices]))]) X [.int (pX0_compare_96_S1 u2 u4)] 0 [] [0, 1] [0, 1] (kX0_bit l D kI kZ (pX0_compare_96_S1 u2 u4)) vX0_bit q23_11 dX0_compare_96 rfl rfl rfl rfl rfl rfl rfl rfl rfl rfl rfl rfl rfl ?_
    have e30 : (fX0_compare a_sew u1 u2 u4) = (fX0_bit (pX0_compare_96_S1 u2 u4)) := by rw [fX0_compare, if_neg c1, if_pos c4]
    exact k_lret9 X hRt hLk e30.symm rfl dX0_compare_99
  by_cases c7 : u1 = (26 : Int32)
  · refine k_tblIn (tgt := 100) X dX0_compare_22 c7 (by decide) (by decide) rfl (by decide) ?_
    refine k_lload_n X dX0_compare_100 rfl 4 rfl rfl ?_
    refine k_lload X dX0_compare_101 5 rfl rfl ?_
    refine k_mid2 [(b_a, .inr (0, [.ref b_r, .int a_sew, .long a_greatest, .long a_greatestSigned, .long a_leastSigned])), (b_r, .inr (7, [.ref r_scalars, .ref r_vectors, .ref r_type, .int r_length, .int r_start, .int r_rounding, .int r_saturated, .long r_choices]))] [(0, .ref b_a), (1, .int u1), (2, .long u2), (4, .long u4), (6, .long (fX10_signed u2 a_sew)), (8, .long (fX10_signed u4 a_sew))] [.int (pX0_compare_112_S1 u2 u4)] 112 (fun hJ9 => ?_) ?_
    · skip
      refine k_lcmp_ge (tgt := 111) X dX0_compare_103 rfl dX0_compare_104 (by decide) rfl (fun c8 => ?_) (fun c8 => ?_)
      · skip
        refine k_iconst X dX0_compare_111 kc_i_0 rfl ?_
        have e31 : (pX0_compare_112_S1 u2 u4) = (0 : Int32) := by rw [pX0_compare_112_S1, if_pos c8]
        rw [e31] at hJ9
        exact k_sub [2, 3, 4, 5, 1, 0] rfl hJ9
      refine k_iconst X dX0_compare_107 kc_i_1 rfl ?_
      refine k_goto (tgt := 112) X dX0_compare_108 (by decide) ?_
      have e32 : (pX0_compare_112_S1 u2 u4) = (1 : Int32) := by rw [pX0_compare_112_S1, if_neg c8]
      rw [e32] at hJ9
      exact k_sub [2, 3, 4, 5, 1, 0] rfl hJ9
    refine k_cS1 (st := []) (ws' := [(b_a, .inr (0, [.ref b_r, .int a_sew, .long a_greatest, .long a_greatestSigned, .long a_leastSigned])), (b_r, .inr (7, [.ref r_scalars, .ref r_vectors, .ref r_type, .int r_length, .int r_start, .int r_rounding, .int r_saturated, .long r_choices]))]) (wr := [(b_a, .inr (0, [.ref b_r, .int a_sew, .long a_greatest, .long a_greatestSigned, .long a_leastSigned])), (b_r, .inr (7, [.ref r_scalars, .ref r_vectors, .ref r_type, .int r_length, .int r_start, .int r_rounding, .int r_saturated, .long r_choices]))]) X [.int (pX0_compare_112_S1 u2 u4)] 0 [] [0, 1] [0, 1] (kX0_bit l D kI kZ (pX0_compare_112_S1 u2 u4)) vX0_bit q23_11 dX0_compare_112 rfl rfl rfl rfl rfl rfl rfl rfl rfl rfl rfl rfl rfl ?_
    have e33 : (fX0_compare a_sew u1 u2 u4) = (fX0_bit (pX0_compare_112_S1 u2 u4)) := by rw [fX0_compare, if_neg c1, if_neg c4, if_pos c7]
    exact k_lret9 X hRt hLk e33.symm rfl dX0_compare_115
  by_cases c10 : u1 = (27 : Int32)
  · refine k_tblIn (tgt := 116) X dX0_compare_22 c10 (by decide) (by decide) rfl (by decide) ?_
    refine k_lload X dX0_compare_116 1 rfl rfl ?_
    refine k_lload X dX0_compare_118 0 rfl rfl ?_
    refine k_mid2 [(b_a, .inr (0, [.ref b_r, .int a_sew, .long a_greatest, .long a_greatestSigned, .long a_leastSigned])), (b_r, .inr (7, [.ref r_scalars, .ref r_vectors, .ref r_type, .int r_length, .int r_start, .int r_rounding, .int r_saturated, .long r_choices]))] [(0, .ref b_a), (1, .int u1), (2, .long u2), (4, .long u4), (6, .long (fX10_signed u2 a_sew)), (8, .long (fX10_signed u4 a_sew))] [.int (pX0_compare_129_S1 a_sew u2 u4)] 129 (fun hJ12 => ?_) ?_
    · skip
      refine k_lcmp_ge (tgt := 128) X dX0_compare_120 rfl dX0_compare_121 (by decide) rfl (fun c11 => ?_) (fun c11 => ?_)
      · skip
        refine k_iconst X dX0_compare_128 kc_i_0 rfl ?_
        have e34 : (pX0_compare_129_S1 a_sew u2 u4) = (0 : Int32) := by rw [pX0_compare_129_S1, if_pos c11]
        rw [e34] at hJ12
        exact k_sub [2, 3, 4, 5, 1, 0] rfl hJ12
      refine k_iconst X dX0_compare_124 kc_i_1 rfl ?_
      refine k_goto (tgt := 129) X dX0_compare_125 (by decide) ?_
      have e35 : (pX0_compare_129_S1 a_sew u2 u4) = (1 : Int32) := by rw [pX0_compare_129_S1, if_neg c11]
      rw [e35] at hJ12
      exact k_sub [2, 3, 4, 5, 1, 0] rfl hJ12
    refine k_cS1 (st := []) (ws' := [(b_a, .inr (0, [.ref b_r, .int a_sew, .long a_greatest, .long a_greatestSigned, .long a_leastSigned])), (b_r, .inr (7, [.ref r_scalars, .ref r_vectors, .ref r_type, .int r_length, .int r_start, .int r_rounding, .int r_saturated, .long r_choices]))]) (wr := [(b_a, .inr (0, [.ref b_r, .int a_sew, .long a_greatest, .long a_greatestSigned, .long a_leastSigned])), (b_r, .inr (7, [.ref r_scalars, .ref r_vectors, .ref r_type, .int r_length, .int r_start, .int r_rounding, .int r_saturated, .long r_choices]))]) X [.int (pX0_compare_129_S1 a_sew u2 u4)] 0 [] [0, 1] [0, 1] (kX0_bit l D kI kZ (pX0_compare_129_S1 a_sew u2 u4)) vX0_bit q23_11 dX0_compare_129 rfl rfl rfl rfl rfl rfl rfl rfl rfl rfl rfl rfl rfl ?_
    have e36 : (fX0_compare a_sew u1 u2 u4) = (fX0_bit (pX0_compare_129_S1 a_sew u2 u4)) := by rw [fX0_compare, if_neg c1, if_neg c4, if_neg c7, if_pos c10]
    exact k_lret9 X hRt hLk e36.symm rfl dX0_compare_132
  by_cases c13 : u1 = (28 : Int32)
  · refine k_tblIn (tgt := 133) X dX0_compare_22 c13 (by decide) (by decide) rfl (by decide) ?_
    refine k_lload_n X dX0_compare_133 rfl 4 rfl rfl ?_
    refine k_lload X dX0_compare_134 5 rfl rfl ?_
    refine k_mid2 [(b_a, .inr (0, [.ref b_r, .int a_sew, .long a_greatest, .long a_greatestSigned, .long a_leastSigned])), (b_r, .inr (7, [.ref r_scalars, .ref r_vectors, .ref r_type, .int r_length, .int r_start, .int r_rounding, .int r_saturated, .long r_choices]))] [(0, .ref b_a), (1, .int u1), (2, .long u2), (4, .long u4), (6, .long (fX10_signed u2 a_sew)), (8, .long (fX10_signed u4 a_sew))] [.int (pX0_compare_145_S1 u2 u4)] 145 (fun hJ15 => ?_) ?_
    · skip
      refine k_lcmp_gt (tgt := 144) X dX0_compare_136 rfl dX0_compare_137 (by decide) rfl (fun c14 => ?_) (fun c14 => ?_)
      · skip
        refine k_iconst X dX0_compare_144 kc_i_0 rfl ?_
        have e37 : (pX0_compare_145_S1 u2 u4) = (0 : Int32) := by rw [pX0_compare_145_S1, if_pos c14]
        rw [e37] at hJ15
        exact k_sub [2, 3, 4, 5, 1, 0] rfl hJ15
      refine k_iconst X dX0_compare_140 kc_i_1 rfl ?_
      refine k_goto (tgt := 145) X dX0_compare_141 (by decide) ?_
      have e38 : (pX0_compare_145_S1 u2 u4) = (1 : Int32) := by rw [pX0_compare_145_S1, if_neg c14]
      rw [e38] at hJ15
      exact k_sub [2, 3, 4, 5, 1, 0] rfl hJ15
    refine k_cS1 (st := []) (ws' := [(b_a, .inr (0, [.ref b_r, .int a_sew, .long a_greatest, .long a_greatestSigned, .long a_leastSigned])), (b_r, .inr (7, [.ref r_scalars, .ref r_vectors, .ref r_type, .int r_length, .int r_start, .int r_rounding, .int r_saturated, .long r_choices]))]) (wr := [(b_a, .inr (0, [.ref b_r, .int a_sew, .long a_greatest, .long a_greatestSigned, .long a_leastSigned])), (b_r, .inr (7, [.ref r_scalars, .ref r_vectors, .ref r_type, .int r_length, .int r_start, .int r_rounding, .int r_saturated, .long r_choices]))]) X [.int (pX0_compare_145_S1 u2 u4)] 0 [] [0, 1] [0, 1] (kX0_bit l D kI kZ (pX0_compare_145_S1 u2 u4)) vX0_bit q23_11 dX0_compare_145 rfl rfl rfl rfl rfl rfl rfl rfl rfl rfl rfl rfl rfl ?_
    have e39 : (fX0_compare a_sew u1 u2 u4) = (fX0_bit (pX0_compare_145_S1 u2 u4)) := by rw [fX0_compare, if_neg c1, if_neg c4, if_neg c7, if_neg c10, if_pos c13]
    exact k_lret9 X hRt hLk e39.symm rfl dX0_compare_148
  by_cases c16 : u1 = (29 : Int32)
  · refine k_tblIn (tgt := 149) X dX0_compare_22 c16 (by decide) (by decide) rfl (by decide) ?_
    refine k_lload X dX0_compare_149 1 rfl rfl ?_
    refine k_lload X dX0_compare_151 0 rfl rfl ?_
    refine k_mid2 [(b_a, .inr (0, [.ref b_r, .int a_sew, .long a_greatest, .long a_greatestSigned, .long a_leastSigned])), (b_r, .inr (7, [.ref r_scalars, .ref r_vectors, .ref r_type, .int r_length, .int r_start, .int r_rounding, .int r_saturated, .long r_choices]))] [(0, .ref b_a), (1, .int u1), (2, .long u2), (4, .long u4), (6, .long (fX10_signed u2 a_sew)), (8, .long (fX10_signed u4 a_sew))] [.int (pX0_compare_162_S1 a_sew u2 u4)] 162 (fun hJ18 => ?_) ?_
    · skip
      refine k_lcmp_gt (tgt := 161) X dX0_compare_153 rfl dX0_compare_154 (by decide) rfl (fun c17 => ?_) (fun c17 => ?_)
      · skip
        refine k_iconst X dX0_compare_161 kc_i_0 rfl ?_
        have e40 : (pX0_compare_162_S1 a_sew u2 u4) = (0 : Int32) := by rw [pX0_compare_162_S1, if_pos c17]
        rw [e40] at hJ18
        exact k_sub [2, 3, 4, 5, 1, 0] rfl hJ18
      refine k_iconst X dX0_compare_157 kc_i_1 rfl ?_
      refine k_goto (tgt := 162) X dX0_compare_158 (by decide) ?_
      have e41 : (pX0_compare_162_S1 a_sew u2 u4) = (1 : Int32) := by rw [pX0_compare_162_S1, if_neg c17]
      rw [e41] at hJ18
      exact k_sub [2, 3, 4, 5, 1, 0] rfl hJ18
    refine k_cS1 (st := []) (ws' := [(b_a, .inr (0, [.ref b_r, .int a_sew, .long a_greatest, .long a_greatestSigned, .long a_leastSigned])), (b_r, .inr (7, [.ref r_scalars, .ref r_vectors, .ref r_type, .int r_length, .int r_start, .int r_rounding, .int r_saturated, .long r_choices]))]) (wr := [(b_a, .inr (0, [.ref b_r, .int a_sew, .long a_greatest, .long a_greatestSigned, .long a_leastSigned])), (b_r, .inr (7, [.ref r_scalars, .ref r_vectors, .ref r_type, .int r_length, .int r_start, .int r_rounding, .int r_saturated, .long r_choices]))]) X [.int (pX0_compare_162_S1 a_sew u2 u4)] 0 [] [0, 1] [0, 1] (kX0_bit l D kI kZ (pX0_compare_162_S1 a_sew u2 u4)) vX0_bit q23_11 dX0_compare_162 rfl rfl rfl rfl rfl rfl rfl rfl rfl rfl rfl rfl rfl ?_
    have e42 : (fX0_compare a_sew u1 u2 u4) = (fX0_bit (pX0_compare_162_S1 a_sew u2 u4)) := by rw [fX0_compare, if_neg c1, if_neg c4, if_neg c7, if_neg c10, if_neg c13, if_pos c16]
    exact k_lret9 X hRt hLk e42.symm rfl dX0_compare_165
  by_cases c19 : u1 = (30 : Int32)
  · refine k_tblIn (tgt := 166) X dX0_compare_22 c19 (by decide) (by decide) rfl (by decide) ?_
    refine k_lload_n X dX0_compare_166 rfl 4 rfl rfl ?_
    refine k_lload X dX0_compare_167 5 rfl rfl ?_
    refine k_mid2 [(b_a, .inr (0, [.ref b_r, .int a_sew, .long a_greatest, .long a_greatestSigned, .long a_leastSigned])), (b_r, .inr (7, [.ref r_scalars, .ref r_vectors, .ref r_type, .int r_length, .int r_start, .int r_rounding, .int r_saturated, .long r_choices]))] [(0, .ref b_a), (1, .int u1), (2, .long u2), (4, .long u4), (6, .long (fX10_signed u2 a_sew)), (8, .long (fX10_signed u4 a_sew))] [.int (pX0_compare_178_S1 u2 u4)] 178 (fun hJ21 => ?_) ?_
    · skip
      refine k_lcmp_le (tgt := 177) X dX0_compare_169 rfl dX0_compare_170 (by decide) rfl (fun c20 => ?_) (fun c20 => ?_)
      · skip
        refine k_iconst X dX0_compare_177 kc_i_0 rfl ?_
        have e43 : (pX0_compare_178_S1 u2 u4) = (0 : Int32) := by rw [pX0_compare_178_S1, if_pos c20]
        rw [e43] at hJ21
        exact k_sub [2, 3, 4, 5, 1, 0] rfl hJ21
      refine k_iconst X dX0_compare_173 kc_i_1 rfl ?_
      refine k_goto (tgt := 178) X dX0_compare_174 (by decide) ?_
      have e44 : (pX0_compare_178_S1 u2 u4) = (1 : Int32) := by rw [pX0_compare_178_S1, if_neg c20]
      rw [e44] at hJ21
      exact k_sub [2, 3, 4, 5, 1, 0] rfl hJ21
    refine k_cS1 (st := []) (ws' := [(b_a, .inr (0, [.ref b_r, .int a_sew, .long a_greatest, .long a_greatestSigned, .long a_leastSigned])), (b_r, .inr (7, [.ref r_scalars, .ref r_vectors, .ref r_type, .int r_length, .int r_start, .int r_rounding, .int r_saturated, .long r_choices]))]) (wr := [(b_a, .inr (0, [.ref b_r, .int a_sew, .long a_greatest, .long a_greatestSigned, .long a_leastSigned])), (b_r, .inr (7, [.ref r_scalars, .ref r_vectors, .ref r_type, .int r_length, .int r_start, .int r_rounding, .int r_saturated, .long r_choices]))]) X [.int (pX0_compare_178_S1 u2 u4)] 0 [] [0, 1] [0, 1] (kX0_bit l D kI kZ (pX0_compare_178_S1 u2 u4)) vX0_bit q23_11 dX0_compare_178 rfl rfl rfl rfl rfl rfl rfl rfl rfl rfl rfl rfl rfl ?_
    have e45 : (fX0_compare a_sew u1 u2 u4) = (fX0_bit (pX0_compare_178_S1 u2 u4)) := by rw [fX0_compare, if_neg c1, if_neg c4, if_neg c7, if_neg c10, if_neg c13, if_neg c16, if_pos c19]
    exact k_lret9 X hRt hLk e45.symm rfl dX0_compare_181
  by_cases c22 : u1 = (31 : Int32)
  · refine k_tblIn (tgt := 182) X dX0_compare_22 c22 (by decide) (by decide) rfl (by decide) ?_
    refine k_lload X dX0_compare_182 1 rfl rfl ?_
    refine k_lload X dX0_compare_184 0 rfl rfl ?_
    refine k_mid2 [(b_a, .inr (0, [.ref b_r, .int a_sew, .long a_greatest, .long a_greatestSigned, .long a_leastSigned])), (b_r, .inr (7, [.ref r_scalars, .ref r_vectors, .ref r_type, .int r_length, .int r_start, .int r_rounding, .int r_saturated, .long r_choices]))] [(0, .ref b_a), (1, .int u1), (2, .long u2), (4, .long u4), (6, .long (fX10_signed u2 a_sew)), (8, .long (fX10_signed u4 a_sew))] [.int (pX0_compare_195_S1 a_sew u2 u4)] 195 (fun hJ24 => ?_) ?_
    · skip
      refine k_lcmp_le (tgt := 194) X dX0_compare_186 rfl dX0_compare_187 (by decide) rfl (fun c23 => ?_) (fun c23 => ?_)
      · skip
        refine k_iconst X dX0_compare_194 kc_i_0 rfl ?_
        have e46 : (pX0_compare_195_S1 a_sew u2 u4) = (0 : Int32) := by rw [pX0_compare_195_S1, if_pos c23]
        rw [e46] at hJ24
        exact k_sub [2, 3, 4, 5, 1, 0] rfl hJ24
      refine k_iconst X dX0_compare_190 kc_i_1 rfl ?_
      refine k_goto (tgt := 195) X dX0_compare_191 (by decide) ?_
      have e47 : (pX0_compare_195_S1 a_sew u2 u4) = (1 : Int32) := by rw [pX0_compare_195_S1, if_neg c23]
      rw [e47] at hJ24
      exact k_sub [2, 3, 4, 5, 1, 0] rfl hJ24
    refine k_cS1 (st := []) (ws' := [(b_a, .inr (0, [.ref b_r, .int a_sew, .long a_greatest, .long a_greatestSigned, .long a_leastSigned])), (b_r, .inr (7, [.ref r_scalars, .ref r_vectors, .ref r_type, .int r_length, .int r_start, .int r_rounding, .int r_saturated, .long r_choices]))]) (wr := [(b_a, .inr (0, [.ref b_r, .int a_sew, .long a_greatest, .long a_greatestSigned, .long a_leastSigned])), (b_r, .inr (7, [.ref r_scalars, .ref r_vectors, .ref r_type, .int r_length, .int r_start, .int r_rounding, .int r_saturated, .long r_choices]))]) X [.int (pX0_compare_195_S1 a_sew u2 u4)] 0 [] [0, 1] [0, 1] (kX0_bit l D kI kZ (pX0_compare_195_S1 a_sew u2 u4)) vX0_bit q23_11 dX0_compare_195 rfl rfl rfl rfl rfl rfl rfl rfl rfl rfl rfl rfl rfl ?_
    have e48 : (fX0_compare a_sew u1 u2 u4) = (fX0_bit (pX0_compare_195_S1 a_sew u2 u4)) := by rw [fX0_compare, if_neg c1, if_neg c4, if_neg c7, if_neg c10, if_neg c13, if_neg c16, if_neg c19, if_pos c22]
    exact k_lret9 X hRt hLk e48.symm rfl dX0_compare_198
  refine k_tblD (tgt := 199) X dX0_compare_22 [(24 : Int32), (25 : Int32), (26 : Int32), (27 : Int32), (28 : Int32), (29 : Int32), (30 : Int32), (31 : Int32)] (List.forall_mem_cons.mpr ⟨c1, (List.forall_mem_cons.mpr ⟨c4, (List.forall_mem_cons.mpr ⟨c7, (List.forall_mem_cons.mpr ⟨c10, (List.forall_mem_cons.mpr ⟨c13, (List.forall_mem_cons.mpr ⟨c16, (List.forall_mem_cons.mpr ⟨c19, (List.forall_mem_cons.mpr ⟨c22, (fun _ h => absurd h List.not_mem_nil)⟩)⟩)⟩)⟩)⟩)⟩)⟩)⟩) (by decide +kernel) (by decide) ?_
  refine k_lconst (v := (0 : Int64)) X dX0_compare_199 rfl rfl ?_
  have e49 : (fX0_compare a_sew u1 u2 u4) = (0 : Int64) := by rw [fX0_compare, if_neg c1, if_neg c4, if_neg c7, if_neg c10, if_neg c13, if_neg c16, if_neg c19, if_neg c22]
  exact k_lret9 X hRt hLk e49.symm rfl dX0_compare_200
theorem vX0_compare : kVi yX0_compare cX0_compare 10 (some .long) 3 := ⟨q23_10, q4_3, q23_8, q23_9, by decide, by decide +kernel⟩
noncomputable def pX0_withCarry_29_S1 (u1 : Int32) (u2 : Int64) (u4 : Int64) (u6 : Int64) : Int64 := (if u1 = (16 : Int32) then ((u2 + u4) + u6) else (if u1 = (17 : Int32) then ((u2 + u4) + u6) else ((u2 - u4) - u6)))
noncomputable def fX0_withCarry (u1 : Int32) (u2 : Int64) (u4 : Int64) (u6 : Int64) : Int64 := (pX0_withCarry_29_S1 u1 u2 u4 u6)
set_option maxRecDepth 100000 in
set_option maxHeartbeats 4000000 in
theorem kX0_withCarry (l : Launch) (D : va_G) (kI kZ : ClassId) (b_a : Nat) (b_r : Nat) (a_sew : Int32) (a_greatest : Int64) (a_greatestSigned : Int64) (a_leastSigned : Int64) (r_scalars : Nat) (r_vectors : Nat) (r_type : Nat) (r_length : Int32) (r_start : Int32) (r_rounding : Int32) (r_saturated : Int32) (r_choices : Int64) (u1 : Int32) (u2 : Int64) (u4 : Int64) (u6 : Int64) : kM l yX0_withCarry cX0_withCarry 8 (some .long) 0 0 0 0 D [(kI, .int), (kZ, .boolean)] [.ref b_a, .int u1, .long u2, .long u4, .long u6] [(b_a, .inr (0, [.ref b_r, .int a_sew, .long a_greatest, .long a_greatestSigned, .long a_leastSigned])), (b_r, .inr (7, [.ref r_scalars, .ref r_vectors, .ref r_type, .int r_length, .int r_start, .int r_rounding, .int r_saturated, .long r_choices]))] (some (.long (fX0_withCarry u1 u2 u4 u6))) [(b_a, .inr (0, [.ref b_r, .int a_sew, .long a_greatest, .long a_greatestSigned, .long a_leastSigned])), (b_r, .inr (7, [.ref r_scalars, .ref r_vectors, .ref r_type, .int r_length, .int r_start, .int r_rounding, .int r_saturated, .long r_choices]))] := by
  refine kM.of (by decide) rfl ?_
  intro p e R s m args below meth c A X _ _ hRt hLk
  refine k_sub [0, 1, 2, 3, 4] (lv' := [(0, .ref b_a), (1, .int u1), (2, .long u2), (4, .long u4), (6, .long u6)]) rfl ?_
  refine k_iload_n X dX0_withCarry_0 rfl 1 rfl rfl ?_
  refine k_bipush X dX0_withCarry_1 kc_b_16 rfl ?_
  refine k_mid2 [(b_a, .inr (0, [.ref b_r, .int a_sew, .long a_greatest, .long a_greatestSigned, .long a_leastSigned])), (b_r, .inr (7, [.ref r_scalars, .ref r_vectors, .ref r_type, .int r_length, .int r_start, .int r_rounding, .int r_saturated, .long r_choices]))] [(0, .ref b_a), (1, .int u1), (2, .long u2), (4, .long u4), (6, .long u6)] [.long (pX0_withCarry_29_S1 u1 u2 u4 u6)] 29 (fun hJ3 => ?_) ?_
  · skip
    refine k_icmp_eq (tgt := 12) X dX0_withCarry_3 (by decide) rfl (fun c1 => ?_) (fun c1 => ?_)
    · skip
      refine k_lload_n X dX0_withCarry_12 rfl 2 rfl rfl ?_
      refine k_lload X dX0_withCarry_13 3 rfl rfl ?_
      refine k_ladd X dX0_withCarry_15 rfl ?_
      refine k_lload X dX0_withCarry_16 4 rfl rfl ?_
      refine k_ladd X dX0_withCarry_18 rfl ?_
      refine k_goto (tgt := 29) X dX0_withCarry_19 (by decide) ?_
      have e4 : (pX0_withCarry_29_S1 u1 u2 u4 u6) = ((u2 + u4) + u6) := by rw [pX0_withCarry_29_S1, if_pos c1]
      rw [e4] at hJ3
      exact k_sub [0, 1, 2, 3, 4] rfl hJ3
    refine k_iload_n X dX0_withCarry_6 rfl 1 rfl rfl ?_
    refine k_bipush X dX0_withCarry_7 kc_b_17 rfl ?_
    refine k_icmp_ne (tgt := 22) X dX0_withCarry_9 (by decide) rfl (fun c2 => ?_) (fun c2 => ?_)
    · skip
      refine k_lload_n X dX0_withCarry_12 rfl 2 rfl rfl ?_
      refine k_lload X dX0_withCarry_13 3 rfl rfl ?_
      refine k_ladd X dX0_withCarry_15 rfl ?_
      refine k_lload X dX0_withCarry_16 4 rfl rfl ?_
      refine k_ladd X dX0_withCarry_18 rfl ?_
      refine k_goto (tgt := 29) X dX0_withCarry_19 (by decide) ?_
      have e5 : (pX0_withCarry_29_S1 u1 u2 u4 u6) = ((u2 + u4) + u6) := by rw [pX0_withCarry_29_S1, if_neg c1, if_pos c2]
      rw [e5] at hJ3
      exact k_sub [0, 1, 2, 3, 4] rfl hJ3
    refine k_lload_n X dX0_withCarry_22 rfl 2 rfl rfl ?_
    refine k_lload X dX0_withCarry_23 3 rfl rfl ?_
    refine k_lsub X dX0_withCarry_25 rfl ?_
    refine k_lload X dX0_withCarry_26 4 rfl rfl ?_
    refine k_lsub X dX0_withCarry_28 rfl ?_
    have e6 : (pX0_withCarry_29_S1 u1 u2 u4 u6) = ((u2 - u4) - u6) := by rw [pX0_withCarry_29_S1, if_neg c1, if_neg c2]
    rw [e6] at hJ3
    exact k_sub [0, 1, 2, 3, 4] rfl hJ3
  have e7 : (fX0_withCarry u1 u2 u4 u6) = (pX0_withCarry_29_S1 u1 u2 u4 u6) := by rw [fX0_withCarry]
  exact k_lret9 X hRt hLk e7.symm rfl dX0_withCarry_29
theorem vX0_withCarry : kVi yX0_withCarry cX0_withCarry 8 (some .long) 4 := ⟨q23_17, q4_3, q23_15, q23_16, by decide, by decide +kernel⟩
noncomputable def fX0_carryOut (a_sew : Int32) (u1 : Int32) (u2 : Int64) (u4 : Int64) (u6 : Int64) : Int64 := ((lsru (fX0_withCarry u1 u2 u4 u6) a_sew) &&& (1 : Int64))
set_option maxRecDepth 100000 in
set_option maxHeartbeats 4000000 in
theorem kX0_carryOut (l : Launch) (D : va_G) (kI kZ : ClassId) (b_a : Nat) (b_r : Nat) (a_sew : Int32) (a_greatest : Int64) (a_greatestSigned : Int64) (a_leastSigned : Int64) (r_scalars : Nat) (r_vectors : Nat) (r_type : Nat) (r_length : Int32) (r_start : Int32) (r_rounding : Int32) (r_saturated : Int32) (r_choices : Int64) (u1 : Int32) (u2 : Int64) (u4 : Int64) (u6 : Int64) : kM l yX0_carryOut cX0_carryOut 8 (some .long) 1 19 0 0 D [(kI, .int), (kZ, .boolean)] [.ref b_a, .int u1, .long u2, .long u4, .long u6] [(b_a, .inr (0, [.ref b_r, .int a_sew, .long a_greatest, .long a_greatestSigned, .long a_leastSigned])), (b_r, .inr (7, [.ref r_scalars, .ref r_vectors, .ref r_type, .int r_length, .int r_start, .int r_rounding, .int r_saturated, .long r_choices]))] (some (.long (fX0_carryOut a_sew u1 u2 u4 u6))) [(b_a, .inr (0, [.ref b_r, .int a_sew, .long a_greatest, .long a_greatestSigned, .long a_leastSigned])), (b_r, .inr (7, [.ref r_scalars, .ref r_vectors, .ref r_type, .int r_length, .int r_start, .int r_rounding, .int r_saturated, .long r_choices]))] := by
  refine kM.of (by decide) rfl ?_
  intro p e R s m args below meth c A X _ _ hRt hLk
  refine k_sub [0, 1, 2, 3, 4] (lv' := [(0, .ref b_a), (1, .int u1), (2, .long u2), (4, .long u4), (6, .long u6)]) rfl ?_
  refine k_aload_n X dX0_carryOut_0 rfl 0 rfl rfl ?_
  refine k_iload_n X dX0_carryOut_1 rfl 1 rfl rfl ?_
  refine k_lload_n X dX0_carryOut_2 rfl 2 rfl rfl ?_
  refine k_lload X dX0_carryOut_3 3 rfl rfl ?_
  refine k_lload X dX0_carryOut_5 4 rfl rfl ?_
  refine k_cV1 (st := []) (ws' := [(b_a, .inr (0, [.ref b_r, .int a_sew, .long a_greatest, .long a_greatestSigned, .long a_leastSigned])), (b_r, .inr (7, [.ref r_scalars, .ref r_vectors, .ref r_type, .int r_length, .int r_start, .int r_rounding, .int r_saturated, .long r_choices]))]) (wr := []) (ci := 0) (q9 := 0) X [.int u1, .long u2, .long u4, .long u6] 0 [0, 1] [] [0, 1] (kX0_withCarry l D kI kZ b_a b_r a_sew a_greatest a_greatestSigned a_leastSigned r_scalars r_vectors r_type r_length r_start r_rounding r_saturated r_choices u1 u2 u4 u6) vX0_withCarry q23_22 dX0_carryOut_7 rfl rfl rfl rfl rfl rfl rfl rfl rfl rfl rfl rfl rfl rfl rfl ?_
  refine k_aload_n X dX0_carryOut_10 rfl 0 rfl rfl ?_
  refine k_get X i_wsX00 0 1 q19_1 rfl rfl rfl rfl rfl dX0_carryOut_11 rfl ?_
  refine k_lushr X dX0_carryOut_14 rfl ?_
  refine k_lconst (v := (1 : Int64)) X dX0_carryOut_15 rfl rfl ?_
  refine k_land X dX0_carryOut_16 rfl ?_
  have e1 : (fX0_carryOut a_sew u1 u2 u4 u6) = ((lsru (fX0_withCarry u1 u2 u4 u6) a_sew) &&& (1 : Int64)) := by rw [fX0_carryOut]
  exact k_lret9 X hRt hLk e1.symm rfl dX0_carryOut_17
theorem vX0_carryOut : kVi yX0_carryOut cX0_carryOut 8 (some .long) 4 := ⟨q23_21, q4_3, q23_19, q23_20, by decide, by decide +kernel⟩
noncomputable def fX0_logic (u1 : Int32) (u2 : Int64) (u4 : Int64) : Int64 := (if u1 = (88 : Int32) then (u2 &&& (u4 ^^^ (-1 : Int64))) else (if u1 = (89 : Int32) then (u2 &&& u4) else (if u1 = (90 : Int32) then (u2 ||| u4) else (if u1 = (91 : Int32) then (u2 ^^^ u4) else (if u1 = (92 : Int32) then (u2 ||| (u4 ^^^ (-1 : Int64))) else (if u1 = (93 : Int32) then ((u2 &&& u4) ^^^ (-1 : Int64)) else (if u1 = (94 : Int32) then ((u2 ||| u4) ^^^ (-1 : Int64)) else (if u1 = (95 : Int32) then ((u2 ^^^ u4) ^^^ (-1 : Int64)) else (0 : Int64)))))))))
set_option maxRecDepth 100000 in
set_option maxHeartbeats 4000000 in
theorem kX0_logic (l : Launch) (D : va_G) (kI kZ : ClassId) (b_a : Nat) (b_r : Nat) (a_sew : Int32) (a_greatest : Int64) (a_greatestSigned : Int64) (a_leastSigned : Int64) (r_scalars : Nat) (r_vectors : Nat) (r_type : Nat) (r_length : Int32) (r_start : Int32) (r_rounding : Int32) (r_saturated : Int32) (r_choices : Int64) (u1 : Int32) (u2 : Int64) (u4 : Int64) : kM l yX0_logic cX0_logic 6 (some .long) 0 0 0 0 D [(kI, .int), (kZ, .boolean)] [.ref b_a, .int u1, .long u2, .long u4] [(b_a, .inr (0, [.ref b_r, .int a_sew, .long a_greatest, .long a_greatestSigned, .long a_leastSigned])), (b_r, .inr (7, [.ref r_scalars, .ref r_vectors, .ref r_type, .int r_length, .int r_start, .int r_rounding, .int r_saturated, .long r_choices]))] (some (.long (fX0_logic u1 u2 u4))) [(b_a, .inr (0, [.ref b_r, .int a_sew, .long a_greatest, .long a_greatestSigned, .long a_leastSigned])), (b_r, .inr (7, [.ref r_scalars, .ref r_vectors, .ref r_type, .int r_length, .int r_start, .int r_rounding, .int r_saturated, .long r_choices]))] := by
  refine kM.of (by decide) rfl ?_
  intro p e R s m args below meth c A X _ _ hRt hLk
  refine k_sub [0, 1, 2, 3] (lv' := [(0, .ref b_a), (1, .int u1), (2, .long u2), (4, .long u4)]) rfl ?_
  refine k_iload_n X dX0_logic_0 rfl 1 rfl rfl ?_
  by_cases c1 : u1 = (88 : Int32)
  · refine k_tblIn (tgt := 48) X dX0_logic_1 c1 (by decide) (by decide) rfl (by decide) ?_
    refine k_lload_n X dX0_logic_48 rfl 2 rfl rfl ?_
    refine k_lload X dX0_logic_49 3 rfl rfl ?_
    refine k_ldc2 X q24_3 dX0_logic_51 rfl ?_
    refine k_lxor X dX0_logic_54 rfl ?_
    refine k_land X dX0_logic_55 rfl ?_
    have e9 : (fX0_logic u1 u2 u4) = (u2 &&& (u4 ^^^ (-1 : Int64))) := by rw [fX0_logic, if_pos c1]
    exact k_lret9 X hRt hLk e9.symm rfl dX0_logic_56
  by_cases c2 : u1 = (89 : Int32)
  · refine k_tblIn (tgt := 57) X dX0_logic_1 c2 (by decide) (by decide) rfl (by decide) ?_
    refine k_lload_n X dX0_logic_57 rfl 2 rfl rfl ?_
    refine k_lload X dX0_logic_58 3 rfl rfl ?_
    refine k_land X dX0_logic_60 rfl ?_
    have e10 : (fX0_logic u1 u2 u4) = (u2 &&& u4) := by rw [fX0_logic, if_neg c1, if_pos c2]
    exact k_lret9 X hRt hLk e10.symm rfl dX0_logic_61
  by_cases c3 : u1 = (90 : Int32)
  · refine k_tblIn (tgt := 62) X dX0_logic_1 c3 (by decide) (by decide) rfl (by decide) ?_
    refine k_lload_n X dX0_logic_62 rfl 2 rfl rfl ?_
    refine k_lload X dX0_logic_63 3 rfl rfl ?_
    refine k_lor X dX0_logic_65 rfl ?_
    have e11 : (fX0_logic u1 u2 u4) = (u2 ||| u4) := by rw [fX0_logic, if_neg c1, if_neg c2, if_pos c3]
    exact k_lret9 X hRt hLk e11.symm rfl dX0_logic_66
  by_cases c4 : u1 = (91 : Int32)
  · refine k_tblIn (tgt := 67) X dX0_logic_1 c4 (by decide) (by decide) rfl (by decide) ?_
    refine k_lload_n X dX0_logic_67 rfl 2 rfl rfl ?_
    refine k_lload X dX0_logic_68 3 rfl rfl ?_
    refine k_lxor X dX0_logic_70 rfl ?_
    have e12 : (fX0_logic u1 u2 u4) = (u2 ^^^ u4) := by rw [fX0_logic, if_neg c1, if_neg c2, if_neg c3, if_pos c4]
    exact k_lret9 X hRt hLk e12.symm rfl dX0_logic_71
  by_cases c5 : u1 = (92 : Int32)
  · refine k_tblIn (tgt := 72) X dX0_logic_1 c5 (by decide) (by decide) rfl (by decide) ?_
    refine k_lload_n X dX0_logic_72 rfl 2 rfl rfl ?_
    refine k_lload X dX0_logic_73 3 rfl rfl ?_
    refine k_ldc2 X q24_3 dX0_logic_75 rfl ?_
    refine k_lxor X dX0_logic_78 rfl ?_
    refine k_lor X dX0_logic_79 rfl ?_
    have e13 : (fX0_logic u1 u2 u4) = (u2 ||| (u4 ^^^ (-1 : Int64))) := by rw [fX0_logic, if_neg c1, if_neg c2, if_neg c3, if_neg c4, if_pos c5]
    exact k_lret9 X hRt hLk e13.symm rfl dX0_logic_80
  by_cases c6 : u1 = (93 : Int32)
  · refine k_tblIn (tgt := 81) X dX0_logic_1 c6 (by decide) (by decide) rfl (by decide) ?_
    refine k_lload_n X dX0_logic_81 rfl 2 rfl rfl ?_
    refine k_lload X dX0_logic_82 3 rfl rfl ?_
    refine k_land X dX0_logic_84 rfl ?_
    refine k_ldc2 X q24_3 dX0_logic_85 rfl ?_
    refine k_lxor X dX0_logic_88 rfl ?_
    have e14 : (fX0_logic u1 u2 u4) = ((u2 &&& u4) ^^^ (-1 : Int64)) := by rw [fX0_logic, if_neg c1, if_neg c2, if_neg c3, if_neg c4, if_neg c5, if_pos c6]
    exact k_lret9 X hRt hLk e14.symm rfl dX0_logic_89
  by_cases c7 : u1 = (94 : Int32)
  · refine k_tblIn (tgt := 90) X dX0_logic_1 c7 (by decide) (by decide) rfl (by decide) ?_
    refine k_lload_n X dX0_logic_90 rfl 2 rfl rfl ?_
    refine k_lload X dX0_logic_91 3 rfl rfl ?_
    refine k_lor X dX0_logic_93 rfl ?_
    refine k_ldc2 X q24_3 dX0_logic_94 rfl ?_
    refine k_lxor X dX0_logic_97 rfl ?_
    have e15 : (fX0_logic u1 u2 u4) = ((u2 ||| u4) ^^^ (-1 : Int64)) := by rw [fX0_logic, if_neg c1, if_neg c2, if_neg c3, if_neg c4, if_neg c5, if_neg c6, if_pos c7]
    exact k_lret9 X hRt hLk e15.symm rfl dX0_logic_98
  by_cases c8 : u1 = (95 : Int32)
  · refine k_tblIn (tgt := 99) X dX0_logic_1 c8 (by decide) (by decide) rfl (by decide) ?_
    refine k_lload_n X dX0_logic_99 rfl 2 rfl rfl ?_
    refine k_lload X dX0_logic_100 3 rfl rfl ?_
    refine k_lxor X dX0_logic_102 rfl ?_
    refine k_ldc2 X q24_3 dX0_logic_103 rfl ?_
    refine k_lxor X dX0_logic_106 rfl ?_
    have e16 : (fX0_logic u1 u2 u4) = ((u2 ^^^ u4) ^^^ (-1 : Int64)) := by rw [fX0_logic, if_neg c1, if_neg c2, if_neg c3, if_neg c4, if_neg c5, if_neg c6, if_neg c7, if_pos c8]
    exact k_lret9 X hRt hLk e16.symm rfl dX0_logic_107
  refine k_tblD (tgt := 108) X dX0_logic_1 [(88 : Int32), (89 : Int32), (90 : Int32), (91 : Int32), (92 : Int32), (93 : Int32), (94 : Int32), (95 : Int32)] (List.forall_mem_cons.mpr ⟨c1, (List.forall_mem_cons.mpr ⟨c2, (List.forall_mem_cons.mpr ⟨c3, (List.forall_mem_cons.mpr ⟨c4, (List.forall_mem_cons.mpr ⟨c5, (List.forall_mem_cons.mpr ⟨c6, (List.forall_mem_cons.mpr ⟨c7, (List.forall_mem_cons.mpr ⟨c8, (fun _ h => absurd h List.not_mem_nil)⟩)⟩)⟩)⟩)⟩)⟩)⟩)⟩) (by decide +kernel) (by decide) ?_
  refine k_lconst (v := (0 : Int64)) X dX0_logic_108 rfl rfl ?_
  have e17 : (fX0_logic u1 u2 u4) = (0 : Int64) := by rw [fX0_logic, if_neg c1, if_neg c2, if_neg c3, if_neg c4, if_neg c5, if_neg c6, if_neg c7, if_neg c8]
  exact k_lret9 X hRt hLk e17.symm rfl dX0_logic_109
theorem vX0_logic : kVi yX0_logic cX0_logic 6 (some .long) 3 := ⟨q24_2, q4_3, q24_0, q24_1, by decide, by decide +kernel⟩
noncomputable def fX0_reduced (a_sew : Int32) (u1 : Int32) (u2 : Int64) (u4 : Int64) : Int64 := (if u1 = (48 : Int32) then (u2 + u4) else (if u1 = (49 : Int32) then (u2 + (fX10_signed u4 a_sew)) else (if u1 = (64 : Int32) then (u2 + u4) else (if u1 = (65 : Int32) then (u2 &&& u4) else (if u1 = (66 : Int32) then (u2 ||| u4) else (if u1 = (67 : Int32) then (u2 ^^^ u4) else (if u1 = (68 : Int32) then (kmin u2 u4) else (if u1 = (69 : Int32) then (kmin (fX10_signed u2 a_sew) (fX10_signed u4 a_sew)) else (if u1 = (70 : Int32) then (kmax u2 u4) else (if u1 = (71 : Int32) then (kmax (fX10_signed u2 a_sew) (fX10_signed u4 a_sew)) else u2))))))))))
set_option maxRecDepth 100000 in
set_option maxHeartbeats 4000000 in
theorem kX0_reduced (l : Launch) (D : va_G) (kI kZ : ClassId) (b_a : Nat) (b_r : Nat) (a_sew : Int32) (a_greatest : Int64) (a_greatestSigned : Int64) (a_leastSigned : Int64) (r_scalars : Nat) (r_vectors : Nat) (r_type : Nat) (r_length : Int32) (r_start : Int32) (r_rounding : Int32) (r_saturated : Int32) (r_choices : Int64) (u1 : Int32) (u2 : Int64) (u4 : Int64) : kM l yX0_reduced cX0_reduced 6 (some .long) 1 40 0 0 D [(kI, .int), (kZ, .boolean)] [.ref b_a, .int u1, .long u2, .long u4] [(b_a, .inr (0, [.ref b_r, .int a_sew, .long a_greatest, .long a_greatestSigned, .long a_leastSigned])), (b_r, .inr (7, [.ref r_scalars, .ref r_vectors, .ref r_type, .int r_length, .int r_start, .int r_rounding, .int r_saturated, .long r_choices]))] (some (.long (fX0_reduced a_sew u1 u2 u4))) [(b_a, .inr (0, [.ref b_r, .int a_sew, .long a_greatest, .long a_greatestSigned, .long a_leastSigned])), (b_r, .inr (7, [.ref r_scalars, .ref r_vectors, .ref r_type, .int r_length, .int r_start, .int r_rounding, .int r_saturated, .long r_choices]))] := by
  refine kM.of (by decide) rfl ?_
  intro p e R s m args below meth c A X _ _ hRt hLk
  refine k_sub [0, 1, 2, 3] (lv' := [(0, .ref b_a), (1, .int u1), (2, .long u2), (4, .long u4)]) rfl ?_
  refine k_iload_n X dX0_reduced_0 rfl 1 rfl rfl ?_
  by_cases c1 : u1 = (48 : Int32)
  · refine k_tblIn (tgt := 112) X dX0_reduced_1 c1 (by decide) (by decide) rfl (by decide) ?_
    refine k_lload_n X dX0_reduced_112 rfl 2 rfl rfl ?_
    refine k_lload X dX0_reduced_113 3 rfl rfl ?_
    refine k_ladd X dX0_reduced_115 rfl ?_
    have e11 : (fX0_reduced a_sew u1 u2 u4) = (u2 + u4) := by rw [fX0_reduced, if_pos c1]
    exact k_lret9 X hRt hLk e11.symm rfl dX0_reduced_116
  by_cases c2 : u1 = (49 : Int32)
  · refine k_tblIn (tgt := 117) X dX0_reduced_1 c2 (by decide) (by decide) rfl (by decide) ?_
    refine k_lload_n X dX0_reduced_117 rfl 2 rfl rfl ?_
    refine k_lload X dX0_reduced_118 3 rfl rfl ?_
    refine k_aload_n X dX0_reduced_120 rfl 0 rfl rfl ?_
    refine k_get X i_wsX00 0 1 q19_1 rfl rfl rfl rfl rfl dX0_reduced_121 rfl ?_
    refine k_cN1 (st := [.long u2]) (ws' := [(b_a, .inr (0, [.ref b_r, .int a_sew, .long a_greatest, .long a_greatestSigned, .long a_leastSigned])), (b_r, .inr (7, [.ref r_scalars, .ref r_vectors, .ref r_type, .int r_length, .int r_start, .int r_rounding, .int r_saturated, .long r_choices]))]) (wr := [(b_a, .inr (0, [.ref b_r, .int a_sew, .long a_greatest, .long a_greatestSigned, .long a_leastSigned])), (b_r, .inr (7, [.ref r_scalars, .ref r_vectors, .ref r_type, .int r_length, .int r_start, .int r_rounding, .int r_saturated, .long r_choices]))]) X [.long u4, .int a_sew] 2 [] [0, 1] [0, 1] (kX10_signed l D kI kZ u4 a_sew) vX10_signed X.2.1.2.1.2.1 dX0_reduced_124 rfl rfl rfl rfl rfl rfl rfl rfl rfl rfl rfl rfl rfl ?_
    refine k_ladd X dX0_reduced_127 rfl ?_
    have e12 : (fX0_reduced a_sew u1 u2 u4) = (u2 + (fX10_signed u4 a_sew)) := by rw [fX0_reduced, if_neg c1, if_pos c2]
    exact k_lret9 X hRt hLk e12.symm rfl dX0_reduced_128
  by_cases c3 : u1 = (64 : Int32)
  · refine k_tblIn (tgt := 129) X dX0_reduced_1 c3 (by decide) (by decide) rfl (by decide) ?_
    refine k_lload_n X dX0_reduced_129 rfl 2 rfl rfl ?_
    refine k_lload X dX0_reduced_130 3 rfl rfl ?_
    refine k_ladd X dX0_reduced_132 rfl ?_
    have e13 : (fX0_reduced a_sew u1 u2 u4) = (u2 + u4) := by rw [fX0_reduced, if_neg c1, if_neg c2, if_pos c3]
    exact k_lret9 X hRt hLk e13.symm rfl dX0_reduced_133
  by_cases c4 : u1 = (65 : Int32)
  · refine k_tblIn (tgt := 134) X dX0_reduced_1 c4 (by decide) (by decide) rfl (by decide) ?_
    refine k_lload_n X dX0_reduced_134 rfl 2 rfl rfl ?_
    refine k_lload X dX0_reduced_135 3 rfl rfl ?_
    refine k_land X dX0_reduced_137 rfl ?_
    have e14 : (fX0_reduced a_sew u1 u2 u4) = (u2 &&& u4) := by rw [fX0_reduced, if_neg c1, if_neg c2, if_neg c3, if_pos c4]
    exact k_lret9 X hRt hLk e14.symm rfl dX0_reduced_138
  by_cases c5 : u1 = (66 : Int32)
  · refine k_tblIn (tgt := 139) X dX0_reduced_1 c5 (by decide) (by decide) rfl (by decide) ?_
    refine k_lload_n X dX0_reduced_139 rfl 2 rfl rfl ?_
    refine k_lload X dX0_reduced_140 3 rfl rfl ?_
    refine k_lor X dX0_reduced_142 rfl ?_
    have e15 : (fX0_reduced a_sew u1 u2 u4) = (u2 ||| u4) := by rw [fX0_reduced, if_neg c1, if_neg c2, if_neg c3, if_neg c4, if_pos c5]
    exact k_lret9 X hRt hLk e15.symm rfl dX0_reduced_143
  by_cases c6 : u1 = (67 : Int32)
  · refine k_tblIn (tgt := 144) X dX0_reduced_1 c6 (by decide) (by decide) rfl (by decide) ?_
    refine k_lload_n X dX0_reduced_144 rfl 2 rfl rfl ?_
    refine k_lload X dX0_reduced_145 3 rfl rfl ?_
    refine k_lxor X dX0_reduced_147 rfl ?_
    have e16 : (fX0_reduced a_sew u1 u2 u4) = (u2 ^^^ u4) := by rw [fX0_reduced, if_neg c1, if_neg c2, if_neg c3, if_neg c4, if_neg c5, if_pos c6]
    exact k_lret9 X hRt hLk e16.symm rfl dX0_reduced_148
  by_cases c7 : u1 = (68 : Int32)
  · refine k_tblIn (tgt := 149) X dX0_reduced_1 c7 (by decide) (by decide) rfl (by decide) ?_
    refine k_lload_n X dX0_reduced_149 rfl 2 rfl rfl ?_
    refine k_lload X dX0_reduced_150 3 rfl rfl ?_
    refine k_mmin (st := []) X q20_3 q20_4 q20_5 q20_6 dX0_reduced_152 rfl rfl rfl ?_
    have e17 : (fX0_reduced a_sew u1 u2 u4) = (kmin u2 u4) := by rw [fX0_reduced, if_neg c1, if_neg c2, if_neg c3, if_neg c4, if_neg c5, if_neg c6, if_pos c7]
    exact k_lret9 X hRt hLk e17.symm rfl dX0_reduced_155
  by_cases c8 : u1 = (69 : Int32)
  · refine k_tblIn (tgt := 156) X dX0_reduced_1 c8 (by decide) (by decide) rfl (by decide) ?_
    refine k_lload_n X dX0_reduced_156 rfl 2 rfl rfl ?_
    refine k_aload_n X dX0_reduced_157 rfl 0 rfl rfl ?_
    refine k_get X i_wsX00 0 1 q19_1 rfl rfl rfl rfl rfl dX0_reduced_158 rfl ?_
    refine k_cN1 (st := []) (ws' := [(b_a, .inr (0, [.ref b_r, .int a_sew, .long a_greatest, .long a_greatestSigned, .long a_leastSigned])), (b_r, .inr (7, [.ref r_scalars, .ref r_vectors, .ref r_type, .int r_length, .int r_start, .int r_rounding, .int r_saturated, .long r_choices]))]) (wr := [(b_a, .inr (0, [.ref b_r, .int a_sew, .long a_greatest, .long a_greatestSigned, .long a_leastSigned])), (b_r, .inr (7, [.ref r_scalars, .ref r_vectors, .ref r_type, .int r_length, .int r_start, .int r_rounding, .int r_saturated, .long r_choices]))]) X [.long u2, .int a_sew] 0 [] [0, 1] [0, 1] (kX10_signed l D kI kZ u2 a_sew) vX10_signed X.2.1.2.1.2.1 dX0_reduced_161 rfl rfl rfl rfl rfl rfl rfl rfl rfl rfl rfl rfl rfl ?_
    refine k_lload X dX0_reduced_164 3 rfl rfl ?_
    refine k_aload_n X dX0_reduced_166 rfl 0 rfl rfl ?_
    refine k_get X i_wsX00 0 1 q19_1 rfl rfl rfl rfl rfl dX0_reduced_167 rfl ?_
    refine k_cN1 (st := [.long (fX10_signed u2 a_sew)]) (ws' := [(b_a, .inr (0, [.ref b_r, .int a_sew, .long a_greatest, .long a_greatestSigned, .long a_leastSigned])), (b_r, .inr (7, [.ref r_scalars, .ref r_vectors, .ref r_type, .int r_length, .int r_start, .int r_rounding, .int r_saturated, .long r_choices]))]) (wr := [(b_a, .inr (0, [.ref b_r, .int a_sew, .long a_greatest, .long a_greatestSigned, .long a_leastSigned])), (b_r, .inr (7, [.ref r_scalars, .ref r_vectors, .ref r_type, .int r_length, .int r_start, .int r_rounding, .int r_saturated, .long r_choices]))]) X [.long u4, .int a_sew] 2 [] [0, 1] [0, 1] (kX10_signed l D kI kZ u4 a_sew) vX10_signed X.2.1.2.1.2.1 dX0_reduced_170 rfl rfl rfl rfl rfl rfl rfl rfl rfl rfl rfl rfl rfl ?_
    refine k_mmin (st := []) X q20_3 q20_4 q20_5 q20_6 dX0_reduced_173 rfl rfl rfl ?_
    have e18 : (fX0_reduced a_sew u1 u2 u4) = (kmin (fX10_signed u2 a_sew) (fX10_signed u4 a_sew)) := by rw [fX0_reduced, if_neg c1, if_neg c2, if_neg c3, if_neg c4, if_neg c5, if_neg c6, if_neg c7, if_pos c8]
    exact k_lret9 X hRt hLk e18.symm rfl dX0_reduced_176
  by_cases c9 : u1 = (70 : Int32)
  · refine k_tblIn (tgt := 177) X dX0_reduced_1 c9 (by decide) (by decide) rfl (by decide) ?_
    refine k_lload_n X dX0_reduced_177 rfl 2 rfl rfl ?_
    refine k_lload X dX0_reduced_178 3 rfl rfl ?_
    refine k_mmax (st := []) X q20_7 q20_8 q20_5 q20_9 dX0_reduced_180 rfl rfl rfl ?_
    have e19 : (fX0_reduced a_sew u1 u2 u4) = (kmax u2 u4) := by rw [fX0_reduced, if_neg c1, if_neg c2, if_neg c3, if_neg c4, if_neg c5, if_neg c6, if_neg c7, if_neg c8, if_pos c9]
    exact k_lret9 X hRt hLk e19.symm rfl dX0_reduced_183
  by_cases c10 : u1 = (71 : Int32)
  · refine k_tblIn (tgt := 184) X dX0_reduced_1 c10 (by decide) (by decide) rfl (by decide) ?_
    refine k_lload_n X dX0_reduced_184 rfl 2 rfl rfl ?_
    refine k_aload_n X dX0_reduced_185 rfl 0 rfl rfl ?_
    refine k_get X i_wsX00 0 1 q19_1 rfl rfl rfl rfl rfl dX0_reduced_186 rfl ?_
    refine k_cN1 (st := []) (ws' := [(b_a, .inr (0, [.ref b_r, .int a_sew, .long a_greatest, .long a_greatestSigned, .long a_leastSigned])), (b_r, .inr (7, [.ref r_scalars, .ref r_vectors, .ref r_type, .int r_length, .int r_start, .int r_rounding, .int r_saturated, .long r_choices]))]) (wr := [(b_a, .inr (0, [.ref b_r, .int a_sew, .long a_greatest, .long a_greatestSigned, .long a_leastSigned])), (b_r, .inr (7, [.ref r_scalars, .ref r_vectors, .ref r_type, .int r_length, .int r_start, .int r_rounding, .int r_saturated, .long r_choices]))]) X [.long u2, .int a_sew] 0 [] [0, 1] [0, 1] (kX10_signed l D kI kZ u2 a_sew) vX10_signed X.2.1.2.1.2.1 dX0_reduced_189 rfl rfl rfl rfl rfl rfl rfl rfl rfl rfl rfl rfl rfl ?_
    refine k_lload X dX0_reduced_192 3 rfl rfl ?_
    refine k_aload_n X dX0_reduced_194 rfl 0 rfl rfl ?_
    refine k_get X i_wsX00 0 1 q19_1 rfl rfl rfl rfl rfl dX0_reduced_195 rfl ?_
    refine k_cN1 (st := [.long (fX10_signed u2 a_sew)]) (ws' := [(b_a, .inr (0, [.ref b_r, .int a_sew, .long a_greatest, .long a_greatestSigned, .long a_leastSigned])), (b_r, .inr (7, [.ref r_scalars, .ref r_vectors, .ref r_type, .int r_length, .int r_start, .int r_rounding, .int r_saturated, .long r_choices]))]) (wr := [(b_a, .inr (0, [.ref b_r, .int a_sew, .long a_greatest, .long a_greatestSigned, .long a_leastSigned])), (b_r, .inr (7, [.ref r_scalars, .ref r_vectors, .ref r_type, .int r_length, .int r_start, .int r_rounding, .int r_saturated, .long r_choices]))]) X [.long u4, .int a_sew] 2 [] [0, 1] [0, 1] (kX10_signed l D kI kZ u4 a_sew) vX10_signed X.2.1.2.1.2.1 dX0_reduced_198 rfl rfl rfl rfl rfl rfl rfl rfl rfl rfl rfl rfl rfl ?_
    refine k_mmax (st := []) X q20_7 q20_8 q20_5 q20_9 dX0_reduced_201 rfl rfl rfl ?_
    have e20 : (fX0_reduced a_sew u1 u2 u4) = (kmax (fX10_signed u2 a_sew) (fX10_signed u4 a_sew)) := by rw [fX0_reduced, if_neg c1, if_neg c2, if_neg c3, if_neg c4, if_neg c5, if_neg c6, if_neg c7, if_neg c8, if_neg c9, if_pos c10]
    exact k_lret9 X hRt hLk e20.symm rfl dX0_reduced_204
  refine k_tblD (tgt := 205) X dX0_reduced_1 [(48 : Int32), (49 : Int32), (64 : Int32), (65 : Int32), (66 : Int32), (67 : Int32), (68 : Int32), (69 : Int32), (70 : Int32), (71 : Int32)] (List.forall_mem_cons.mpr ⟨c1, (List.forall_mem_cons.mpr ⟨c2, (List.forall_mem_cons.mpr ⟨c3, (List.forall_mem_cons.mpr ⟨c4, (List.forall_mem_cons.mpr ⟨c5, (List.forall_mem_cons.mpr ⟨c6, (List.forall_mem_cons.mpr ⟨c7, (List.forall_mem_cons.mpr ⟨c8, (List.forall_mem_cons.mpr ⟨c9, (List.forall_mem_cons.mpr ⟨c10, (fun _ h => absurd h List.not_mem_nil)⟩)⟩)⟩)⟩)⟩)⟩)⟩)⟩)⟩)⟩) (by decide +kernel) (by decide) ?_
  refine k_lload_n X dX0_reduced_205 rfl 2 rfl rfl ?_
  have e21 : (fX0_reduced a_sew u1 u2 u4) = u2 := by rw [fX0_reduced, if_neg c1, if_neg c2, if_neg c3, if_neg c4, if_neg c5, if_neg c6, if_neg c7, if_neg c8, if_neg c9, if_neg c10]
  exact k_lret9 X hRt hLk e21.symm rfl dX0_reduced_206
theorem vX0_reduced : kVi yX0_reduced cX0_reduced 6 (some .long) 3 := ⟨q20_2, q4_3, q20_0, q20_1, by decide, by decide +kernel⟩
