/-! ===== constructors ===== -/
set_option maxRecDepth 100000 in
theorem kX0_init (l : Launch) (D : va_G) (kI kZ : ClassId) (b : Nat) (r : Nat) : kMe l yX0_init cX0_init 2 none 1 12 0 0 D [(kI, .int), (kZ, .boolean)] [.ref b, .ref r] [(b, .inr (0, [.null, .int 0, .long 0, .long 0, .long 0]))] none (fun w => w = [(b, .inr (0, [.ref r, .int 0, .long 0, .long 0, .long 0]))]) := by
  refine kMe.of (by decide) rfl ?_
  intro p e R s m args below meth c A X hRc hRs hRt hLk hin
  refine k_sub [0, 1] (lv' := [(0, .ref b), (1, .ref r)]) rfl ?_
  refine k_aload_n X dX0_init_0 rfl 0 rfl rfl ?_
  refine k_objInit X q4_15 rfl rfl dX0_init_1 rfl ?_
  refine k_aload_n X dX0_init_4 rfl 0 rfl rfl ?_
  refine k_aload_n X dX0_init_5 rfl 1 rfl rfl ?_
  refine k_putF (ws' := [(b, .inr (0, [.ref r, .int 0, .long 0, .long 0, .long 0]))]) X i_wsX00 tyX0 tyX0_ok nmX0 0 0 q4_16 rfl rfl rfl rfl rfl hin rfl rfl rfl rfl rfl dX0_init_6 rfl ?_
  exact k_vretE X hRt hLk rfl rfl rfl dX0_init_9
theorem vX0_init : kIi yX0_init cX0_init 2 1 := ⟨q4_14, q4_3, q4_13, by decide, rfl, by decide +kernel⟩
set_option maxRecDepth 100000 in
theorem kX2_init (l : Launch) (D : va_G) (kI kZ : ClassId) (b : Nat) (r : Nat) : kMe l yX2_init cX2_init 2 none 1 12 0 0 D [(kI, .int), (kZ, .boolean)] [.ref b, .ref r] [(b, .inr (1, [.null, .int 0, .int 0, .int 0, .int 0, .long 0]))] none (fun w => w = [(b, .inr (1, [.ref r, .int 0, .int 1, .int 8, .int 1, .long 1]))]) := by
  refine kMe.of (by decide) rfl ?_
  intro p e R s m args below meth c A X hRc hRs hRt hLk hin
  refine k_sub [0, 1] (lv' := [(0, .ref b), (1, .ref r)]) rfl ?_
  refine k_aload_n X dX2_init_0 rfl 0 rfl rfl ?_
  refine k_objInit X q4_20 rfl rfl dX2_init_1 rfl ?_
  refine k_aload_n X dX2_init_4 rfl 0 rfl rfl ?_
  refine k_aload_n X dX2_init_5 rfl 1 rfl rfl ?_
  refine k_putF (ws' := [(b, .inr (1, [.ref r, .int 0, .int 0, .int 0, .int 0, .long 0]))]) X i_wsX20 tyX2 tyX2_ok nmX2 0 0 q4_21 rfl rfl rfl rfl rfl hin rfl rfl rfl rfl rfl dX2_init_6 rfl ?_
  refine k_aload_n X dX2_init_9 rfl 0 rfl rfl ?_
  refine k_iconst (v := 1) X dX2_init_10 (by decide) rfl ?_
  refine k_put (ws' := [(b, .inr (1, [.ref r, .int 0, .int 1, .int 0, .int 0, .long 0]))]) X i_wsX20 tyX2 tyX2_ok nmX2 0 2 q4_22 rfl rfl rfl rfl rfl rfl rfl rfl rfl dX2_init_11 rfl ?_
  refine k_aload_n X dX2_init_14 rfl 0 rfl rfl ?_
  refine k_bipush (v := 8) X dX2_init_15 (by decide) rfl ?_
  refine k_put (ws' := [(b, .inr (1, [.ref r, .int 0, .int 1, .int 8, .int 0, .long 0]))]) X i_wsX20 tyX2 tyX2_ok nmX2 0 3 q4_23 rfl rfl rfl rfl rfl rfl rfl rfl rfl dX2_init_17 rfl ?_
  refine k_aload_n X dX2_init_20 rfl 0 rfl rfl ?_
  refine k_iconst (v := 1) X dX2_init_21 (by decide) rfl ?_
  refine k_put (ws' := [(b, .inr (1, [.ref r, .int 0, .int 1, .int 8, .int 1, .long 0]))]) X i_wsX20 tyX2 tyX2_ok nmX2 0 4 q5_0 rfl rfl rfl rfl rfl rfl rfl rfl rfl dX2_init_22 rfl ?_
  refine k_aload_n X dX2_init_25 rfl 0 rfl rfl ?_
  refine k_lconst (v := 1) X dX2_init_26 (by decide) rfl ?_
  refine k_put (ws' := [(b, .inr (1, [.ref r, .int 0, .int 1, .int 8, .int 1, .long 1]))]) X i_wsX20 tyX2 tyX2_ok nmX2 0 5 q5_1 rfl rfl rfl rfl rfl rfl rfl rfl rfl dX2_init_27 rfl ?_
  exact k_vretE X hRt hLk rfl rfl rfl dX2_init_30
theorem vX2_init : kIi yX2_init cX2_init 2 1 := ⟨q4_19, q4_7, q4_18, by decide, rfl, by decide +kernel⟩
set_option maxRecDepth 100000 in
theorem kX3_init (l : Launch) (D : va_G) (kI kZ : ClassId) (b : Nat) : kMe l yX3_init cX3_init 1 none 1 12 0 0 D [(kI, .int), (kZ, .boolean)] [.ref b] [(b, .inr (2, [.int 0, .int 0, .int 0, .int 0, .int 0, .int 0, .int 0, .int 0]))] none (fun w => w = [(b, .inr (2, [.int 0, .int 0, .int 0, .int 0, .int 0, .int 0, .int 0, .int 0]))]) := by
  refine kMe.of (by decide) rfl ?_
  intro p e R s m args below meth c A X hRc hRs hRt hLk hin
  refine k_sub [0] (lv' := [(0, .ref b)]) rfl ?_
  refine k_aload_n X dX3_init_0 rfl 0 rfl rfl ?_
  refine k_objInit X q3_14 rfl rfl dX3_init_1 rfl ?_
  exact k_vretE X hRt hLk rfl rfl rfl dX3_init_4
theorem vX3_init : kIi yX3_init cX3_init 1 0 := ⟨q3_13, q2_0, q3_12, by decide, rfl, by decide +kernel⟩
set_option maxRecDepth 100000 in
theorem kX5_init (l : Launch) (D : va_G) (kI kZ : ClassId) (b : Nat) (r : Nat) : kMe l yX5_init cX5_init 2 none 1 12 0 0 D [(kI, .int), (kZ, .boolean)] [.ref b, .ref r] [(b, .inr (4, [.null]))] none (fun w => w = [(b, .inr (4, [.ref r]))]) := by
  refine kMe.of (by decide) rfl ?_
  intro p e R s m args below meth c A X hRc hRs hRt hLk hin
  refine k_sub [0, 1] (lv' := [(0, .ref b), (1, .ref r)]) rfl ?_
  refine k_aload_n X dX5_init_0 rfl 0 rfl rfl ?_
  refine k_objInit X q3_18 rfl rfl dX5_init_1 rfl ?_
  refine k_aload_n X dX5_init_4 rfl 0 rfl rfl ?_
  refine k_aload_n X dX5_init_5 rfl 1 rfl rfl ?_
  refine k_putF (ws' := [(b, .inr (4, [.ref r]))]) X i_wsX50 tyX5 tyX5_ok nmX5 0 0 q3_19 rfl rfl rfl rfl rfl hin rfl rfl rfl rfl rfl dX5_init_6 rfl ?_
  exact k_vretE X hRt hLk rfl rfl rfl dX5_init_9
theorem vX5_init : kIi yX5_init cX5_init 2 1 := ⟨q3_17, q2_4, q3_16, by decide, rfl, by decide +kernel⟩
set_option maxRecDepth 100000 in
theorem kX9_init (l : Launch) (D : va_G) (kI kZ : ClassId) (b : Nat) : kMe l yX9_init cX9_init 1 none 1 12 0 0 D [(kI, .int), (kZ, .boolean)] [.ref b] [(b, .inr (8, [.int 0, .int 0, .int 0, .int 0, .int 0, .int 0]))] none (fun w => w = [(b, .inr (8, [.int (-2147483648), .int 0, .int 0, .int 0, .int 0, .int 0]))]) := by
  refine kMe.of (by decide) rfl ?_
  intro p e R s m args below meth c A X hRc hRs hRt hLk hin
  refine k_sub [0] (lv' := [(0, .ref b)]) rfl ?_
  refine k_aload_n X dX9_init_0 rfl 0 rfl rfl ?_
  refine k_objInit X q3_4 rfl rfl dX9_init_1 rfl ?_
  refine k_aload_n X dX9_init_4 rfl 0 rfl rfl ?_
  refine k_ldc (v := (-2147483648)) X q3_5 dX9_init_5 rfl ?_
  refine k_put (ws' := [(b, .inr (8, [.int (-2147483648), .int 0, .int 0, .int 0, .int 0, .int 0]))]) X i_wsX90 tyX9 tyX9_ok nmX9 0 0 q3_6 rfl rfl rfl rfl rfl rfl rfl rfl rfl dX9_init_7 rfl ?_
  exact k_vretE X hRt hLk rfl rfl rfl dX9_init_10
theorem vX9_init : kIi yX9_init cX9_init 1 0 := ⟨q3_3, q2_23, q3_2, by decide, rfl, by decide +kernel⟩
set_option maxRecDepth 100000 in
theorem kX6_init (l : Launch) (D : va_G) (kI kZ : ClassId) (b : Nat) : kMe l yX6_init cX6_init 1 none 1 12 1 256 D [(kI, .int), (kZ, .boolean)] [.ref b] [(b, .inr (5, [.null, .int 0]))] none (fun w => ∃ (q8 : Nat), w = [(b, .inr (5, [.ref q8, .int 0])), (q8, .inl (kI, 256, .inl (fun _ => 0)))]) := by
  refine kMe.of (by decide) rfl ?_
  intro p e R s m args below meth c A X hRc hRs hRt hLk hin
  refine k_sub [0] (lv' := [(0, .ref b)]) rfl ?_
  refine k_aload_n X dX6_init_0 rfl 0 rfl rfl ?_
  refine k_objInit X q3_10 rfl rfl dX6_init_1 rfl ?_
  refine k_aload_n X dX6_init_4 rfl 0 rfl rfl ?_
  refine k_sipush (v := 256) X dX6_init_5 (by decide) rfl ?_
  refine k_newi (N := 256) X 0 rfl (by decide) rfl (by rw [hRc]; decide) (by rw [hRs]; decide) dX6_init_8 rfl (fun q8 => ?_)
  refine k_putF (ws' := [(b, .inr (5, [.ref q8, .int 0])), (q8, .inl (kI, 256, .inl (fun _ => 0)))]) X i_wsX60 tyX6 tyX6_ok nmX6 0 0 q3_11 rfl rfl rfl rfl rfl hin rfl rfl rfl rfl rfl dX6_init_10 rfl ?_
  exact k_vretE X hRt hLk ⟨q8, rfl⟩ rfl rfl dX6_init_13
theorem vX6_init : kIi yX6_init cX6_init 1 0 := ⟨q3_9, q1_20, q3_8, by decide, rfl, by decide +kernel⟩
set_option maxRecDepth 100000 in
theorem kX8_init (l : Launch) (D : va_G) (kI kZ : ClassId) (b : Nat) : kMe l yX8_init cX8_init 1 none 2 26 3 166 D [(kI, .int), (kZ, .boolean)] [.ref b] [(b, .inr (7, [.null, .null, .null, .int 0, .int 0, .int 0, .int 0, .long 0]))] none (fun w => ∃ (q7 : Nat) (q16 : Nat) (q22 : Nat), w = [(b, .inr (7, [.ref q7, .ref q16, .ref q22, .int 0, .int 0, .int 0, .int 0, .long 0])), (q7, .inl (kI, 32, .inl (fun _ => 0))), (q16, .inl (kI, 128, .inl (fun _ => 0))), (q22, .inr (8, [.int (-2147483648), .int 0, .int 0, .int 0, .int 0, .int 0]))]) := by
  refine kMe.of (by decide) rfl ?_
  intro p e R s m args below meth c A X hRc hRs hRt hLk hin
  refine k_sub [0] (lv' := [(0, .ref b)]) rfl ?_
  refine k_aload_n X dX8_init_0 rfl 0 rfl rfl ?_
  refine k_objInit X q2_17 rfl rfl dX8_init_1 rfl ?_
  refine k_aload_n X dX8_init_4 rfl 0 rfl rfl ?_
  refine k_bipush (v := 32) X dX8_init_5 (by decide) rfl ?_
  refine k_newi (N := 32) X 0 rfl (by decide) rfl (by rw [hRc]; decide) (by rw [hRs]; decide) dX8_init_7 rfl (fun q7 => ?_)
  refine k_putF (ws' := [(b, .inr (7, [.ref q7, .null, .null, .int 0, .int 0, .int 0, .int 0, .long 0])), (q7, .inl (kI, 32, .inl (fun _ => 0)))]) X i_wsX80 tyX8 tyX8_ok nmX8 0 0 q2_19 rfl rfl rfl rfl rfl hin rfl rfl rfl rfl rfl dX8_init_9 rfl ?_
  refine k_aload_n X dX8_init_12 rfl 0 rfl rfl ?_
  refine k_sipush (v := 128) X dX8_init_13 (by decide) rfl ?_
  refine k_newi (N := 128) X 0 rfl (by decide) rfl (by rw [hRc]; decide) (by rw [hRs]; decide) dX8_init_16 rfl (fun q16 => ?_)
  refine k_putF (ws' := [(b, .inr (7, [.ref q7, .ref q16, .null, .int 0, .int 0, .int 0, .int 0, .long 0])), (q7, .inl (kI, 32, .inl (fun _ => 0))), (q16, .inl (kI, 128, .inl (fun _ => 0)))]) X i_wsX80 tyX8 tyX8_ok nmX8 0 1 q2_20 rfl rfl rfl rfl rfl hin rfl rfl rfl rfl rfl dX8_init_18 rfl ?_
  refine k_aload_n X dX8_init_21 rfl 0 rfl rfl ?_
  refine k_new (ci := 8) X i_wsX90 tyX9 tyX9_ok q2_21 q2_22 q2_23 rfl [.int 0, .int 0, .int 0, .int 0, .int 0, .int 0] (fun j hj => by rcases (show j = 0 ∨ j = 1 ∨ j = 2 ∨ j = 3 ∨ j = 4 ∨ j = 5 by omega) with rfl | rfl | rfl | rfl | rfl | rfl <;> rfl) (by rw [hRc]; decide) (by rw [hRs]; decide) dX8_init_22 rfl (fun q22 => ?_)
  refine k_dup X dX8_init_25 rfl rfl ?_
  refine k_cI (wr := [(b, .inr (7, [.ref q7, .ref q16, .null, .int 0, .int 0, .int 0, .int 0, .long 0])), (q7, .inl (kI, 32, .inl (fun _ => 0))), (q16, .inl (kI, 128, .inl (fun _ => 0)))]) X [] 2 [3] [0, 1, 2] (kX9_init l D kI kZ q22) vX9_init q3_1 dX8_init_26 rfl rfl rfl rfl rfl rfl rfl rfl (by decide) rfl ⟨by rw [hRc]; decide, by rw [hRs]; decide⟩ (fun w1 hw1 => ?_)
  subst hw1
  refine ⟨[0, 1, 2, 3], [(b, .inr (7, [.ref q7, .ref q16, .null, .int 0, .int 0, .int 0, .int 0, .long 0])), (q7, .inl (kI, 32, .inl (fun _ => 0))), (q16, .inl (kI, 128, .inl (fun _ => 0))), (q22, .inr (8, [.int (-2147483648), .int 0, .int 0, .int 0, .int 0, .int 0]))], rfl, rfl, ?_⟩
  refine k_putF (ws' := [(b, .inr (7, [.ref q7, .ref q16, .ref q22, .int 0, .int 0, .int 0, .int 0, .long 0])), (q7, .inl (kI, 32, .inl (fun _ => 0))), (q16, .inl (kI, 128, .inl (fun _ => 0))), (q22, .inr (8, [.int (-2147483648), .int 0, .int 0, .int 0, .int 0, .int 0]))]) X i_wsX80 tyX8 tyX8_ok nmX8 0 2 q3_0 rfl rfl rfl rfl rfl hin rfl rfl rfl rfl rfl dX8_init_29 rfl ?_
  exact k_vretE X hRt hLk ⟨q7, q16, q22, rfl⟩ rfl rfl dX8_init_32
theorem vX8_init : kIi yX8_init cX8_init 1 0 := ⟨q2_16, q1_16, q2_15, by decide, rfl, by decide +kernel⟩
set_option maxRecDepth 100000 in
theorem kX4_init (l : Launch) (D : va_G) (kI kZ : ClassId) (b : Nat) (r : Nat) : kMe l yX4_init cX4_init 2 none 2 27 5 29 D [(kI, .int), (kZ, .boolean)] [.ref b, .ref r] [(b, .inr (3, [.null, .null, .null, .null, .null, .null, .int 0, .int 0, .int 0, .int 0, .int 0, .int 0, .int 0, .long 0, .long 0, .int 0]))] none (fun w => ∃ (q10 : Nat) (q22 : Nat) (q34 : Nat) (q46 : Nat) (q58 : Nat), w = [(b, .inr (3, [.ref r, .ref q10, .ref q22, .ref q34, .ref q46, .ref q58, .int 0, .int 0, .int 0, .int 0, .int 0, .int 0, .int 0, .long 0, .long 0, .int 0])), (q10, .inr (0, [.ref r, .int 0, .long 0, .long 0, .long 0])), (q22, .inr (1, [.ref r, .int 0, .int 1, .int 8, .int 1, .long 1])), (q34, .inr (1, [.ref r, .int 0, .int 1, .int 8, .int 1, .long 1])), (q46, .inr (1, [.ref r, .int 0, .int 1, .int 8, .int 1, .long 1])), (q58, .inr (1, [.ref r, .int 0, .int 1, .int 8, .int 1, .long 1]))]) := by
  refine kMe.of (by decide) rfl ?_
  intro p e R s m args below meth c A X hRc hRs hRt hLk hin
  refine k_sub [0, 1] (lv' := [(0, .ref b), (1, .ref r)]) rfl ?_
  refine k_aload_n X dX4_init_0 rfl 0 rfl rfl ?_
  refine k_objInit X q3_23 rfl rfl dX4_init_1 rfl ?_
  refine k_aload_n X dX4_init_4 rfl 0 rfl rfl ?_
  refine k_aload_n X dX4_init_5 rfl 1 rfl rfl ?_
  refine k_putF (ws' := [(b, .inr (3, [.ref r, .null, .null, .null, .null, .null, .int 0, .int 0, .int 0, .int 0, .int 0, .int 0, .int 0, .long 0, .long 0, .int 0]))]) X i_wsX40 tyX4 tyX4_ok nmX4 0 0 q4_0 rfl rfl rfl rfl rfl hin rfl rfl rfl rfl rfl dX4_init_6 rfl ?_
  refine k_aload_n X dX4_init_9 rfl 0 rfl rfl ?_
  refine k_new (ci := 0) X i_wsX00 tyX0 tyX0_ok q4_1 q4_2 q4_3 rfl [.null, .int 0, .long 0, .long 0, .long 0] (fun j hj => by rcases (show j = 0 ∨ j = 1 ∨ j = 2 ∨ j = 3 ∨ j = 4 by omega) with rfl | rfl | rfl | rfl | rfl <;> rfl) (by rw [hRc]; decide) (by rw [hRs]; decide) dX4_init_10 rfl (fun q10 => ?_)
  refine k_dup X dX4_init_13 rfl rfl ?_
  refine k_aload_n X dX4_init_14 rfl 1 rfl rfl ?_
  refine k_cI (wr := [(b, .inr (3, [.ref r, .null, .null, .null, .null, .null, .int 0, .int 0, .int 0, .int 0, .int 0, .int 0, .int 0, .long 0, .long 0, .int 0]))]) X [.ref r] 2 [1] [0] (kX0_init l D kI kZ q10 r) vX0_init q4_12 dX4_init_15 rfl rfl rfl rfl rfl rfl rfl rfl (by decide) rfl ⟨by rw [hRc]; decide, by rw [hRs]; decide⟩ (fun w1 hw1 => ?_)
  subst hw1
  refine ⟨[0, 1], [(b, .inr (3, [.ref r, .null, .null, .null, .null, .null, .int 0, .int 0, .int 0, .int 0, .int 0, .int 0, .int 0, .long 0, .long 0, .int 0])), (q10, .inr (0, [.ref r, .int 0, .long 0, .long 0, .long 0]))], rfl, rfl, ?_⟩
  refine k_putF (ws' := [(b, .inr (3, [.ref r, .ref q10, .null, .null, .null, .null, .int 0, .int 0, .int 0, .int 0, .int 0, .int 0, .int 0, .long 0, .long 0, .int 0])), (q10, .inr (0, [.ref r, .int 0, .long 0, .long 0, .long 0]))]) X i_wsX40 tyX4 tyX4_ok nmX4 0 1 q4_4 rfl rfl rfl rfl rfl hin rfl rfl rfl rfl rfl dX4_init_18 rfl ?_
  refine k_aload_n X dX4_init_21 rfl 0 rfl rfl ?_
  refine k_new (ci := 1) X i_wsX20 tyX2 tyX2_ok q4_5 q4_6 q4_7 rfl [.null, .int 0, .int 0, .int 0, .int 0, .long 0] (fun j hj => by rcases (show j = 0 ∨ j = 1 ∨ j = 2 ∨ j = 3 ∨ j = 4 ∨ j = 5 by omega) with rfl | rfl | rfl | rfl | rfl | rfl <;> rfl) (by rw [hRc]; decide) (by rw [hRs]; decide) dX4_init_22 rfl (fun q22 => ?_)
  refine k_dup X dX4_init_25 rfl rfl ?_
  refine k_aload_n X dX4_init_26 rfl 1 rfl rfl ?_
  refine k_cI (wr := [(b, .inr (3, [.ref r, .ref q10, .null, .null, .null, .null, .int 0, .int 0, .int 0, .int 0, .int 0, .int 0, .int 0, .long 0, .long 0, .int 0])), (q10, .inr (0, [.ref r, .int 0, .long 0, .long 0, .long 0]))]) X [.ref r] 2 [2] [0, 1] (kX2_init l D kI kZ q22 r) vX2_init q4_17 dX4_init_27 rfl rfl rfl rfl rfl rfl rfl rfl (by decide) rfl ⟨by rw [hRc]; decide, by rw [hRs]; decide⟩ (fun w1 hw1 => ?_)
  subst hw1
  refine ⟨[0, 1, 2], [(b, .inr (3, [.ref r, .ref q10, .null, .null, .null, .null, .int 0, .int 0, .int 0, .int 0, .int 0, .int 0, .int 0, .long 0, .long 0, .int 0])), (q10, .inr (0, [.ref r, .int 0, .long 0, .long 0, .long 0])), (q22, .inr (1, [.ref r, .int 0, .int 1, .int 8, .int 1, .long 1]))], rfl, rfl, ?_⟩
  refine k_putF (ws' := [(b, .inr (3, [.ref r, .ref q10, .ref q22, .null, .null, .null, .int 0, .int 0, .int 0, .int 0, .int 0, .int 0, .int 0, .long 0, .long 0, .int 0])), (q10, .inr (0, [.ref r, .int 0, .long 0, .long 0, .long 0])), (q22, .inr (1, [.ref r, .int 0, .int 1, .int 8, .int 1, .long 1]))]) X i_wsX40 tyX4 tyX4_ok nmX4 0 2 q4_8 rfl rfl rfl rfl rfl hin rfl rfl rfl rfl rfl dX4_init_30 rfl ?_
  refine k_aload_n X dX4_init_33 rfl 0 rfl rfl ?_
  refine k_new (ci := 1) X i_wsX20 tyX2 tyX2_ok q4_5 q4_6 q4_7 rfl [.null, .int 0, .int 0, .int 0, .int 0, .long 0] (fun j hj => by rcases (show j = 0 ∨ j = 1 ∨ j = 2 ∨ j = 3 ∨ j = 4 ∨ j = 5 by omega) with rfl | rfl | rfl | rfl | rfl | rfl <;> rfl) (by rw [hRc]; decide) (by rw [hRs]; decide) dX4_init_34 rfl (fun q34 => ?_)
  refine k_dup X dX4_init_37 rfl rfl ?_
  refine k_aload_n X dX4_init_38 rfl 1 rfl rfl ?_
  refine k_cI (wr := [(b, .inr (3, [.ref r, .ref q10, .ref q22, .null, .null, .null, .int 0, .int 0, .int 0, .int 0, .int 0, .int 0, .int 0, .long 0, .long 0, .int 0])), (q10, .inr (0, [.ref r, .int 0, .long 0, .long 0, .long 0])), (q22, .inr (1, [.ref r, .int 0, .int 1, .int 8, .int 1, .long 1]))]) X [.ref r] 2 [3] [0, 1, 2] (kX2_init l D kI kZ q34 r) vX2_init q4_17 dX4_init_39 rfl rfl rfl rfl rfl rfl rfl rfl (by decide) rfl ⟨by rw [hRc]; decide, by rw [hRs]; decide⟩ (fun w1 hw1 => ?_)
  subst hw1
  refine ⟨[0, 1, 2, 3], [(b, .inr (3, [.ref r, .ref q10, .ref q22, .null, .null, .null, .int 0, .int 0, .int 0, .int 0, .int 0, .int 0, .int 0, .long 0, .long 0, .int 0])), (q10, .inr (0, [.ref r, .int 0, .long 0, .long 0, .long 0])), (q22, .inr (1, [.ref r, .int 0, .int 1, .int 8, .int 1, .long 1])), (q34, .inr (1, [.ref r, .int 0, .int 1, .int 8, .int 1, .long 1]))], rfl, rfl, ?_⟩
  refine k_putF (ws' := [(b, .inr (3, [.ref r, .ref q10, .ref q22, .ref q34, .null, .null, .int 0, .int 0, .int 0, .int 0, .int 0, .int 0, .int 0, .long 0, .long 0, .int 0])), (q10, .inr (0, [.ref r, .int 0, .long 0, .long 0, .long 0])), (q22, .inr (1, [.ref r, .int 0, .int 1, .int 8, .int 1, .long 1])), (q34, .inr (1, [.ref r, .int 0, .int 1, .int 8, .int 1, .long 1]))]) X i_wsX40 tyX4 tyX4_ok nmX4 0 3 q4_9 rfl rfl rfl rfl rfl hin rfl rfl rfl rfl rfl dX4_init_42 rfl ?_
  refine k_aload_n X dX4_init_45 rfl 0 rfl rfl ?_
  refine k_new (ci := 1) X i_wsX20 tyX2 tyX2_ok q4_5 q4_6 q4_7 rfl [.null, .int 0, .int 0, .int 0, .int 0, .long 0] (fun j hj => by rcases (show j = 0 ∨ j = 1 ∨ j = 2 ∨ j = 3 ∨ j = 4 ∨ j = 5 by omega) with rfl | rfl | rfl | rfl | rfl | rfl <;> rfl) (by rw [hRc]; decide) (by rw [hRs]; decide) dX4_init_46 rfl (fun q46 => ?_)
  refine k_dup X dX4_init_49 rfl rfl ?_
  refine k_aload_n X dX4_init_50 rfl 1 rfl rfl ?_
  refine k_cI (wr := [(b, .inr (3, [.ref r, .ref q10, .ref q22, .ref q34, .null, .null, .int 0, .int 0, .int 0, .int 0, .int 0, .int 0, .int 0, .long 0, .long 0, .int 0])), (q10, .inr (0, [.ref r, .int 0, .long 0, .long 0, .long 0])), (q22, .inr (1, [.ref r, .int 0, .int 1, .int 8, .int 1, .long 1])), (q34, .inr (1, [.ref r, .int 0, .int 1, .int 8, .int 1, .long 1]))]) X [.ref r] 2 [4] [0, 1, 2, 3] (kX2_init l D kI kZ q46 r) vX2_init q4_17 dX4_init_51 rfl rfl rfl rfl rfl rfl rfl rfl (by decide) rfl ⟨by rw [hRc]; decide, by rw [hRs]; decide⟩ (fun w1 hw1 => ?_)
  subst hw1
  refine ⟨[0, 1, 2, 3, 4], [(b, .inr (3, [.ref r, .ref q10, .ref q22, .ref q34, .null, .null, .int 0, .int 0, .int 0, .int 0, .int 0, .int 0, .int 0, .long 0, .long 0, .int 0])), (q10, .inr (0, [.ref r, .int 0, .long 0, .long 0, .long 0])), (q22, .inr (1, [.ref r, .int 0, .int 1, .int 8, .int 1, .long 1])), (q34, .inr (1, [.ref r, .int 0, .int 1, .int 8, .int 1, .long 1])), (q46, .inr (1, [.ref r, .int 0, .int 1, .int 8, .int 1, .long 1]))], rfl, rfl, ?_⟩
  refine k_putF (ws' := [(b, .inr (3, [.ref r, .ref q10, .ref q22, .ref q34, .ref q46, .null, .int 0, .int 0, .int 0, .int 0, .int 0, .int 0, .int 0, .long 0, .long 0, .int 0])), (q10, .inr (0, [.ref r, .int 0, .long 0, .long 0, .long 0])), (q22, .inr (1, [.ref r, .int 0, .int 1, .int 8, .int 1, .long 1])), (q34, .inr (1, [.ref r, .int 0, .int 1, .int 8, .int 1, .long 1])), (q46, .inr (1, [.ref r, .int 0, .int 1, .int 8, .int 1, .long 1]))]) X i_wsX40 tyX4 tyX4_ok nmX4 0 4 q4_10 rfl rfl rfl rfl rfl hin rfl rfl rfl rfl rfl dX4_init_54 rfl ?_
  refine k_aload_n X dX4_init_57 rfl 0 rfl rfl ?_
  refine k_new (ci := 1) X i_wsX20 tyX2 tyX2_ok q4_5 q4_6 q4_7 rfl [.null, .int 0, .int 0, .int 0, .int 0, .long 0] (fun j hj => by rcases (show j = 0 ∨ j = 1 ∨ j = 2 ∨ j = 3 ∨ j = 4 ∨ j = 5 by omega) with rfl | rfl | rfl | rfl | rfl | rfl <;> rfl) (by rw [hRc]; decide) (by rw [hRs]; decide) dX4_init_58 rfl (fun q58 => ?_)
  refine k_dup X dX4_init_61 rfl rfl ?_
  refine k_aload_n X dX4_init_62 rfl 1 rfl rfl ?_
  refine k_cI (wr := [(b, .inr (3, [.ref r, .ref q10, .ref q22, .ref q34, .ref q46, .null, .int 0, .int 0, .int 0, .int 0, .int 0, .int 0, .int 0, .long 0, .long 0, .int 0])), (q10, .inr (0, [.ref r, .int 0, .long 0, .long 0, .long 0])), (q22, .inr (1, [.ref r, .int 0, .int 1, .int 8, .int 1, .long 1])), (q34, .inr (1, [.ref r, .int 0, .int 1, .int 8, .int 1, .long 1])), (q46, .inr (1, [.ref r, .int 0, .int 1, .int 8, .int 1, .long 1]))]) X [.ref r] 2 [5] [0, 1, 2, 3, 4] (kX2_init l D kI kZ q58 r) vX2_init q4_17 dX4_init_63 rfl rfl rfl rfl rfl rfl rfl rfl (by decide) rfl ⟨by rw [hRc]; decide, by rw [hRs]; decide⟩ (fun w1 hw1 => ?_)
  subst hw1
  refine ⟨[0, 1, 2, 3, 4, 5], [(b, .inr (3, [.ref r, .ref q10, .ref q22, .ref q34, .ref q46, .null, .int 0, .int 0, .int 0, .int 0, .int 0, .int 0, .int 0, .long 0, .long 0, .int 0])), (q10, .inr (0, [.ref r, .int 0, .long 0, .long 0, .long 0])), (q22, .inr (1, [.ref r, .int 0, .int 1, .int 8, .int 1, .long 1])), (q34, .inr (1, [.ref r, .int 0, .int 1, .int 8, .int 1, .long 1])), (q46, .inr (1, [.ref r, .int 0, .int 1, .int 8, .int 1, .long 1])), (q58, .inr (1, [.ref r, .int 0, .int 1, .int 8, .int 1, .long 1]))], rfl, rfl, ?_⟩
  refine k_putF (ws' := [(b, .inr (3, [.ref r, .ref q10, .ref q22, .ref q34, .ref q46, .ref q58, .int 0, .int 0, .int 0, .int 0, .int 0, .int 0, .int 0, .long 0, .long 0, .int 0])), (q10, .inr (0, [.ref r, .int 0, .long 0, .long 0, .long 0])), (q22, .inr (1, [.ref r, .int 0, .int 1, .int 8, .int 1, .long 1])), (q34, .inr (1, [.ref r, .int 0, .int 1, .int 8, .int 1, .long 1])), (q46, .inr (1, [.ref r, .int 0, .int 1, .int 8, .int 1, .long 1])), (q58, .inr (1, [.ref r, .int 0, .int 1, .int 8, .int 1, .long 1]))]) X i_wsX40 tyX4 tyX4_ok nmX4 0 5 q4_11 rfl rfl rfl rfl rfl hin rfl rfl rfl rfl rfl dX4_init_66 rfl ?_
  exact k_vretE X hRt hLk ⟨q10, q22, q34, q46, q58, rfl⟩ rfl rfl dX4_init_69
theorem vX4_init : kIi yX4_init cX4_init 2 1 := ⟨q3_22, q2_8, q3_21, by decide, rfl, by decide +kernel⟩
set_option maxRecDepth 100000 in
theorem kX7_init (l : Launch) (D : va_G) (kI kZ : ClassId) (b : Nat) (r : Nat) (y : Nat) : kMe l yX7_init cX7_init 3 none 2 27 3 18 D [(kI, .int), (kZ, .boolean)] [.ref b, .ref r, .ref y] [(b, .inr (6, [.null, .null, .null, .null, .null, .int 0, .int 0, .int 0, .int 0, .int 0, .int 0, .int 0, .int 0, .int 0]))] none (fun w => ∃ (q15 : Nat) (q27 : Nat) (q39 : Nat), w = [(b, .inr (6, [.ref r, .ref y, .ref q15, .ref q27, .ref q39, .int 0, .int 0, .int 0, .int 0, .int 0, .int 0, .int 0, .int 0, .int 0])), (q15, .inr (1, [.ref r, .int 0, .int 1, .int 8, .int 1, .long 1])), (q27, .inr (1, [.ref r, .int 0, .int 1, .int 8, .int 1, .long 1])), (q39, .inr (1, [.ref r, .int 0, .int 1, .int 8, .int 1, .long 1]))]) := by
  refine kMe.of (by decide) rfl ?_
  intro p e R s m args below meth c A X hRc hRs hRt hLk hin
  refine k_sub [0, 1, 2] (lv' := [(0, .ref b), (1, .ref r), (2, .ref y)]) rfl ?_
  refine k_aload_n X dX7_init_0 rfl 0 rfl rfl ?_
  refine k_objInit X q5_5 rfl rfl dX7_init_1 rfl ?_
  refine k_aload_n X dX7_init_4 rfl 0 rfl rfl ?_
  refine k_aload_n X dX7_init_5 rfl 1 rfl rfl ?_
  refine k_putF (ws' := [(b, .inr (6, [.ref r, .null, .null, .null, .null, .int 0, .int 0, .int 0, .int 0, .int 0, .int 0, .int 0, .int 0, .int 0]))]) X i_wsX70 tyX7 tyX7_ok nmX7 0 0 q5_6 rfl rfl rfl rfl rfl hin rfl rfl rfl rfl rfl dX7_init_6 rfl ?_
  refine k_aload_n X dX7_init_9 rfl 0 rfl rfl ?_
  refine k_aload_n X dX7_init_10 rfl 2 rfl rfl ?_
  refine k_putF (ws' := [(b, .inr (6, [.ref r, .ref y, .null, .null, .null, .int 0, .int 0, .int 0, .int 0, .int 0, .int 0, .int 0, .int 0, .int 0]))]) X i_wsX70 tyX7 tyX7_ok nmX7 0 1 q5_7 rfl rfl rfl rfl rfl hin rfl rfl rfl rfl rfl dX7_init_11 rfl ?_
  refine k_aload_n X dX7_init_14 rfl 0 rfl rfl ?_
  refine k_new (ci := 1) X i_wsX20 tyX2 tyX2_ok q5_8 q4_6 q4_7 rfl [.null, .int 0, .int 0, .int 0, .int 0, .long 0] (fun j hj => by rcases (show j = 0 ∨ j = 1 ∨ j = 2 ∨ j = 3 ∨ j = 4 ∨ j = 5 by omega) with rfl | rfl | rfl | rfl | rfl | rfl <;> rfl) (by rw [hRc]; decide) (by rw [hRs]; decide) dX7_init_15 rfl (fun q15 => ?_)
  refine k_dup X dX7_init_18 rfl rfl ?_
  refine k_aload_n X dX7_init_19 rfl 1 rfl rfl ?_
  refine k_cI (wr := [(b, .inr (6, [.ref r, .ref y, .null, .null, .null, .int 0, .int 0, .int 0, .int 0, .int 0, .int 0, .int 0, .int 0, .int 0]))]) X [.ref r] 2 [1] [0] (kX2_init l D kI kZ q15 r) vX2_init q5_12 dX7_init_20 rfl rfl rfl rfl rfl rfl rfl rfl (by decide) rfl ⟨by rw [hRc]; decide, by rw [hRs]; decide⟩ (fun w1 hw1 => ?_)
  subst hw1
  refine ⟨[0, 1], [(b, .inr (6, [.ref r, .ref y, .null, .null, .null, .int 0, .int 0, .int 0, .int 0, .int 0, .int 0, .int 0, .int 0, .int 0])), (q15, .inr (1, [.ref r, .int 0, .int 1, .int 8, .int 1, .long 1]))], rfl, rfl, ?_⟩
  refine k_putF (ws' := [(b, .inr (6, [.ref r, .ref y, .ref q15, .null, .null, .int 0, .int 0, .int 0, .int 0, .int 0, .int 0, .int 0, .int 0, .int 0])), (q15, .inr (1, [.ref r, .int 0, .int 1, .int 8, .int 1, .long 1]))]) X i_wsX70 tyX7 tyX7_ok nmX7 0 2 q5_9 rfl rfl rfl rfl rfl hin rfl rfl rfl rfl rfl dX7_init_23 rfl ?_
  refine k_aload_n X dX7_init_26 rfl 0 rfl rfl ?_
  refine k_new (ci := 1) X i_wsX20 tyX2 tyX2_ok q5_8 q4_6 q4_7 rfl [.null, .int 0, .int 0, .int 0, .int 0, .long 0] (fun j hj => by rcases (show j = 0 ∨ j = 1 ∨ j = 2 ∨ j = 3 ∨ j = 4 ∨ j = 5 by omega) with rfl | rfl | rfl | rfl | rfl | rfl <;> rfl) (by rw [hRc]; decide) (by rw [hRs]; decide) dX7_init_27 rfl (fun q27 => ?_)
  refine k_dup X dX7_init_30 rfl rfl ?_
  refine k_aload_n X dX7_init_31 rfl 1 rfl rfl ?_
  refine k_cI (wr := [(b, .inr (6, [.ref r, .ref y, .ref q15, .null, .null, .int 0, .int 0, .int 0, .int 0, .int 0, .int 0, .int 0, .int 0, .int 0])), (q15, .inr (1, [.ref r, .int 0, .int 1, .int 8, .int 1, .long 1]))]) X [.ref r] 2 [2] [0, 1] (kX2_init l D kI kZ q27 r) vX2_init q5_12 dX7_init_32 rfl rfl rfl rfl rfl rfl rfl rfl (by decide) rfl ⟨by rw [hRc]; decide, by rw [hRs]; decide⟩ (fun w1 hw1 => ?_)
  subst hw1
  refine ⟨[0, 1, 2], [(b, .inr (6, [.ref r, .ref y, .ref q15, .null, .null, .int 0, .int 0, .int 0, .int 0, .int 0, .int 0, .int 0, .int 0, .int 0])), (q15, .inr (1, [.ref r, .int 0, .int 1, .int 8, .int 1, .long 1])), (q27, .inr (1, [.ref r, .int 0, .int 1, .int 8, .int 1, .long 1]))], rfl, rfl, ?_⟩
  refine k_putF (ws' := [(b, .inr (6, [.ref r, .ref y, .ref q15, .ref q27, .null, .int 0, .int 0, .int 0, .int 0, .int 0, .int 0, .int 0, .int 0, .int 0])), (q15, .inr (1, [.ref r, .int 0, .int 1, .int 8, .int 1, .long 1])), (q27, .inr (1, [.ref r, .int 0, .int 1, .int 8, .int 1, .long 1]))]) X i_wsX70 tyX7 tyX7_ok nmX7 0 3 q5_10 rfl rfl rfl rfl rfl hin rfl rfl rfl rfl rfl dX7_init_35 rfl ?_
  refine k_aload_n X dX7_init_38 rfl 0 rfl rfl ?_
  refine k_new (ci := 1) X i_wsX20 tyX2 tyX2_ok q5_8 q4_6 q4_7 rfl [.null, .int 0, .int 0, .int 0, .int 0, .long 0] (fun j hj => by rcases (show j = 0 ∨ j = 1 ∨ j = 2 ∨ j = 3 ∨ j = 4 ∨ j = 5 by omega) with rfl | rfl | rfl | rfl | rfl | rfl <;> rfl) (by rw [hRc]; decide) (by rw [hRs]; decide) dX7_init_39 rfl (fun q39 => ?_)
  refine k_dup X dX7_init_42 rfl rfl ?_
  refine k_aload_n X dX7_init_43 rfl 1 rfl rfl ?_
  refine k_cI (wr := [(b, .inr (6, [.ref r, .ref y, .ref q15, .ref q27, .null, .int 0, .int 0, .int 0, .int 0, .int 0, .int 0, .int 0, .int 0, .int 0])), (q15, .inr (1, [.ref r, .int 0, .int 1, .int 8, .int 1, .long 1])), (q27, .inr (1, [.ref r, .int 0, .int 1, .int 8, .int 1, .long 1]))]) X [.ref r] 2 [3] [0, 1, 2] (kX2_init l D kI kZ q39 r) vX2_init q5_12 dX7_init_44 rfl rfl rfl rfl rfl rfl rfl rfl (by decide) rfl ⟨by rw [hRc]; decide, by rw [hRs]; decide⟩ (fun w1 hw1 => ?_)
  subst hw1
  refine ⟨[0, 1, 2, 3], [(b, .inr (6, [.ref r, .ref y, .ref q15, .ref q27, .null, .int 0, .int 0, .int 0, .int 0, .int 0, .int 0, .int 0, .int 0, .int 0])), (q15, .inr (1, [.ref r, .int 0, .int 1, .int 8, .int 1, .long 1])), (q27, .inr (1, [.ref r, .int 0, .int 1, .int 8, .int 1, .long 1])), (q39, .inr (1, [.ref r, .int 0, .int 1, .int 8, .int 1, .long 1]))], rfl, rfl, ?_⟩
  refine k_putF (ws' := [(b, .inr (6, [.ref r, .ref y, .ref q15, .ref q27, .ref q39, .int 0, .int 0, .int 0, .int 0, .int 0, .int 0, .int 0, .int 0, .int 0])), (q15, .inr (1, [.ref r, .int 0, .int 1, .int 8, .int 1, .long 1])), (q27, .inr (1, [.ref r, .int 0, .int 1, .int 8, .int 1, .long 1])), (q39, .inr (1, [.ref r, .int 0, .int 1, .int 8, .int 1, .long 1]))]) X i_wsX70 tyX7 tyX7_ok nmX7 0 4 q5_11 rfl rfl rfl rfl rfl hin rfl rfl rfl rfl rfl dX7_init_47 rfl ?_
  exact k_vretE X hRt hLk ⟨q15, q27, q39, rfl⟩ rfl rfl dX7_init_50
theorem vX7_init : kIi yX7_init cX7_init 3 2 := ⟨q5_4, q2_12, q5_3, by decide, rfl, by decide +kernel⟩
set_option maxRecDepth 100000 in
theorem kX10_init (l : Launch) (D : va_G) (kI kZ : ClassId) (b : Nat) : kMe l yX10_init cX10_init 1 none 3 43 18 518 D [(kI, .int), (kZ, .boolean)] [.ref b] [(b, .inr (9, [.null, .null, .null, .null, .null, .null, .int 0, .int 0, .int 0]))] none (fun w => ∃ (q5 : Nat) (q7_9 : Nat) (q16_9 : Nat) (q22_9 : Nat) (q16 : Nat) (q8_20 : Nat) (q27 : Nat) (q38 : Nat) (q53 : Nat) (q10_61 : Nat) (q22_61 : Nat) (q34_61 : Nat) (q46_61 : Nat) (q58_61 : Nat) (q68 : Nat) (q15_80 : Nat) (q27_80 : Nat) (q39_80 : Nat), w = [(b, .inr (9, [.ref q5, .ref q16, .ref q27, .ref q38, .ref q53, .ref q68, .int 0, .int 0, .int 0])), (q5, .inr (7, [.ref q7_9, .ref q16_9, .ref q22_9, .int 0, .int 0, .int 0, .int 0, .long 0])), (q7_9, .inl (kI, 32, .inl (fun _ => 0))), (q16_9, .inl (kI, 128, .inl (fun _ => 0))), (q22_9, .inr (8, [.int (-2147483648), .int 0, .int 0, .int 0, .int 0, .int 0])), (q16, .inr (5, [.ref q8_20, .int 0])), (q8_20, .inl (kI, 256, .inl (fun _ => 0))), (q27, .inr (2, [.int 0, .int 0, .int 0, .int 0, .int 0, .int 0, .int 0, .int 0])), (q38, .inr (4, [.ref q5])), (q53, .inr (3, [.ref q5, .ref q10_61, .ref q22_61, .ref q34_61, .ref q46_61, .ref q58_61, .int 0, .int 0, .int 0, .int 0, .int 0, .int 0, .int 0, .long 0, .long 0, .int 0])), (q10_61, .inr (0, [.ref q5, .int 0, .long 0, .long 0, .long 0])), (q22_61, .inr (1, [.ref q5, .int 0, .int 1, .int 8, .int 1, .long 1])), (q34_61, .inr (1, [.ref q5, .int 0, .int 1, .int 8, .int 1, .long 1])), (q46_61, .inr (1, [.ref q5, .int 0, .int 1, .int 8, .int 1, .long 1])), (q58_61, .inr (1, [.ref q5, .int 0, .int 1, .int 8, .int 1, .long 1])), (q68, .inr (6, [.ref q5, .ref q16, .ref q15_80, .ref q27_80, .ref q39_80, .int 0, .int 0, .int 0, .int 0, .int 0, .int 0, .int 0, .int 0, .int 0])), (q15_80, .inr (1, [.ref q5, .int 0, .int 1, .int 8, .int 1, .long 1])), (q27_80, .inr (1, [.ref q5, .int 0, .int 1, .int 8, .int 1, .long 1])), (q39_80, .inr (1, [.ref q5, .int 0, .int 1, .int 8, .int 1, .long 1]))]) := by
  refine kMe.of (by decide) rfl ?_
  intro p e R s m args below meth c A X hRc hRs hRt hLk hin
  refine k_sub [0] (lv' := [(0, .ref b)]) rfl ?_
  refine k_aload_n X dX10_init_0 rfl 0 rfl rfl ?_
  refine k_objInit X q1_11 rfl rfl dX10_init_1 rfl ?_
  refine k_aload_n X dX10_init_4 rfl 0 rfl rfl ?_
  refine k_new (ci := 7) X i_wsX80 tyX8 tyX8_ok q1_14 q1_15 q1_16 rfl [.null, .null, .null, .int 0, .int 0, .int 0, .int 0, .long 0] (fun j hj => by rcases (show j = 0 ∨ j = 1 ∨ j = 2 ∨ j = 3 ∨ j = 4 ∨ j = 5 ∨ j = 6 ∨ j = 7 by omega) with rfl | rfl | rfl | rfl | rfl | rfl | rfl | rfl <;> rfl) (by rw [hRc]; decide) (by rw [hRs]; decide) dX10_init_5 rfl (fun q5 => ?_)
  refine k_dup X dX10_init_8 rfl rfl ?_
  refine k_cI (wr := [(b, .inr (9, [.null, .null, .null, .null, .null, .null, .int 0, .int 0, .int 0]))]) X [] 2 [1] [0] (kX8_init l D kI kZ q5) vX8_init q2_14 dX10_init_9 rfl rfl rfl rfl rfl rfl rfl rfl (by decide) rfl ⟨by rw [hRc]; decide, by rw [hRs]; decide⟩ (fun w1 hw1 => ?_)
  obtain ⟨q7_9, q16_9, q22_9, rfl⟩ := hw1
  refine ⟨[0, 1, 2, 3, 4], [(b, .inr (9, [.null, .null, .null, .null, .null, .null, .int 0, .int 0, .int 0])), (q5, .inr (7, [.ref q7_9, .ref q16_9, .ref q22_9, .int 0, .int 0, .int 0, .int 0, .long 0])), (q7_9, .inl (kI, 32, .inl (fun _ => 0))), (q16_9, .inl (kI, 128, .inl (fun _ => 0))), (q22_9, .inr (8, [.int (-2147483648), .int 0, .int 0, .int 0, .int 0, .int 0]))], rfl, rfl, ?_⟩
  refine k_putF (ws' := [(b, .inr (9, [.ref q5, .null, .null, .null, .null, .null, .int 0, .int 0, .int 0])), (q5, .inr (7, [.ref q7_9, .ref q16_9, .ref q22_9, .int 0, .int 0, .int 0, .int 0, .long 0])), (q7_9, .inl (kI, 32, .inl (fun _ => 0))), (q16_9, .inl (kI, 128, .inl (fun _ => 0))), (q22_9, .inr (8, [.int (-2147483648), .int 0, .int 0, .int 0, .int 0, .int 0]))]) X i_wsX100 tyX10 tyX10_ok nmX10 0 0 q1_17 rfl rfl rfl rfl rfl hin rfl rfl rfl rfl rfl dX10_init_12 rfl ?_
  refine k_aload_n X dX10_init_15 rfl 0 rfl rfl ?_
  refine k_new (ci := 5) X i_wsX60 tyX6 tyX6_ok q1_18 q1_19 q1_20 rfl [.null, .int 0] (fun j hj => by rcases (show j = 0 ∨ j = 1 by omega) with rfl | rfl <;> rfl) (by rw [hRc]; decide) (by rw [hRs]; decide) dX10_init_16 rfl (fun q16 => ?_)
  refine k_dup X dX10_init_19 rfl rfl ?_
  refine k_cI (wr := [(b, .inr (9, [.ref q5, .null, .null, .null, .null, .null, .int 0, .int 0, .int 0])), (q5, .inr (7, [.ref q7_9, .ref q16_9, .ref q22_9, .int 0, .int 0, .int 0, .int 0, .long 0])), (q7_9, .inl (kI, 32, .inl (fun _ => 0))), (q16_9, .inl (kI, 128, .inl (fun _ => 0))), (q22_9, .inr (8, [.int (-2147483648), .int 0, .int 0, .int 0, .int 0, .int 0]))]) X [] 2 [5] [0, 1, 2, 3, 4] (kX6_init l D kI kZ q16) vX6_init q3_7 dX10_init_20 rfl rfl rfl rfl rfl rfl rfl rfl (by decide) rfl ⟨by rw [hRc]; decide, by rw [hRs]; decide⟩ (fun w1 hw1 => ?_)
  obtain ⟨q8_20, rfl⟩ := hw1
  refine ⟨[0, 1, 2, 3, 4, 5, 6], [(b, .inr (9, [.ref q5, .null, .null, .null, .null, .null, .int 0, .int 0, .int 0])), (q5, .inr (7, [.ref q7_9, .ref q16_9, .ref q22_9, .int 0, .int 0, .int 0, .int 0, .long 0])), (q7_9, .inl (kI, 32, .inl (fun _ => 0))), (q16_9, .inl (kI, 128, .inl (fun _ => 0))), (q22_9, .inr (8, [.int (-2147483648), .int 0, .int 0, .int 0, .int 0, .int 0])), (q16, .inr (5, [.ref q8_20, .int 0])), (q8_20, .inl (kI, 256, .inl (fun _ => 0)))], rfl, rfl, ?_⟩
  refine k_putF (ws' := [(b, .inr (9, [.ref q5, .ref q16, .null, .null, .null, .null, .int 0, .int 0, .int 0])), (q5, .inr (7, [.ref q7_9, .ref q16_9, .ref q22_9, .int 0, .int 0, .int 0, .int 0, .long 0])), (q7_9, .inl (kI, 32, .inl (fun _ => 0))), (q16_9, .inl (kI, 128, .inl (fun _ => 0))), (q22_9, .inr (8, [.int (-2147483648), .int 0, .int 0, .int 0, .int 0, .int 0])), (q16, .inr (5, [.ref q8_20, .int 0])), (q8_20, .inl (kI, 256, .inl (fun _ => 0)))]) X i_wsX100 tyX10 tyX10_ok nmX10 0 1 q1_21 rfl rfl rfl rfl rfl hin rfl rfl rfl rfl rfl dX10_init_23 rfl ?_
  refine k_aload_n X dX10_init_26 rfl 0 rfl rfl ?_
  refine k_new (ci := 2) X i_wsX30 tyX3 tyX3_ok q1_22 q1_23 q2_0 rfl [.int 0, .int 0, .int 0, .int 0, .int 0, .int 0, .int 0, .int 0] (fun j hj => by rcases (show j = 0 ∨ j = 1 ∨ j = 2 ∨ j = 3 ∨ j = 4 ∨ j = 5 ∨ j = 6 ∨ j = 7 by omega) with rfl | rfl | rfl | rfl | rfl | rfl | rfl | rfl <;> rfl) (by rw [hRc]; decide) (by rw [hRs]; decide) dX10_init_27 rfl (fun q27 => ?_)
  refine k_dup X dX10_init_30 rfl rfl ?_
  refine k_cIN (wr := [(b, .inr (9, [.ref q5, .ref q16, .null, .null, .null, .null, .int 0, .int 0, .int 0])), (q5, .inr (7, [.ref q7_9, .ref q16_9, .ref q22_9, .int 0, .int 0, .int 0, .int 0, .long 0])), (q7_9, .inl (kI, 32, .inl (fun _ => 0))), (q16_9, .inl (kI, 128, .inl (fun _ => 0))), (q22_9, .inr (8, [.int (-2147483648), .int 0, .int 0, .int 0, .int 0, .int 0])), (q16, .inr (5, [.ref q8_20, .int 0])), (q8_20, .inl (kI, 256, .inl (fun _ => 0)))]) X [] 2 [7] [0, 1, 2, 3, 4, 5, 6] (kX3_init l D kI kZ q27) vX3_init X.2.1.2.1.2.2.2.2.2.2 dX10_init_31 rfl rfl rfl rfl rfl rfl rfl rfl (by decide) rfl ⟨by rw [hRc]; decide, by rw [hRs]; decide⟩ (fun w1 hw1 => ?_)
  subst hw1
  refine ⟨[0, 1, 2, 3, 4, 5, 6, 7], [(b, .inr (9, [.ref q5, .ref q16, .null, .null, .null, .null, .int 0, .int 0, .int 0])), (q5, .inr (7, [.ref q7_9, .ref q16_9, .ref q22_9, .int 0, .int 0, .int 0, .int 0, .long 0])), (q7_9, .inl (kI, 32, .inl (fun _ => 0))), (q16_9, .inl (kI, 128, .inl (fun _ => 0))), (q22_9, .inr (8, [.int (-2147483648), .int 0, .int 0, .int 0, .int 0, .int 0])), (q16, .inr (5, [.ref q8_20, .int 0])), (q8_20, .inl (kI, 256, .inl (fun _ => 0))), (q27, .inr (2, [.int 0, .int 0, .int 0, .int 0, .int 0, .int 0, .int 0, .int 0]))], rfl, rfl, ?_⟩
  refine k_putF (ws' := [(b, .inr (9, [.ref q5, .ref q16, .ref q27, .null, .null, .null, .int 0, .int 0, .int 0])), (q5, .inr (7, [.ref q7_9, .ref q16_9, .ref q22_9, .int 0, .int 0, .int 0, .int 0, .long 0])), (q7_9, .inl (kI, 32, .inl (fun _ => 0))), (q16_9, .inl (kI, 128, .inl (fun _ => 0))), (q22_9, .inr (8, [.int (-2147483648), .int 0, .int 0, .int 0, .int 0, .int 0])), (q16, .inr (5, [.ref q8_20, .int 0])), (q8_20, .inl (kI, 256, .inl (fun _ => 0))), (q27, .inr (2, [.int 0, .int 0, .int 0, .int 0, .int 0, .int 0, .int 0, .int 0]))]) X i_wsX100 tyX10 tyX10_ok nmX10 0 2 q2_1 rfl rfl rfl rfl rfl hin rfl rfl rfl rfl rfl dX10_init_34 rfl ?_
  refine k_aload_n X dX10_init_37 rfl 0 rfl rfl ?_
  refine k_new (ci := 4) X i_wsX50 tyX5 tyX5_ok q2_2 q2_3 q2_4 rfl [.null] (fun j hj => by rcases (show j = 0 by omega) with rfl; rfl) (by rw [hRc]; decide) (by rw [hRs]; decide) dX10_init_38 rfl (fun q38 => ?_)
  refine k_dup X dX10_init_41 rfl rfl ?_
  refine k_aload_n X dX10_init_42 rfl 0 rfl rfl ?_
  refine k_get X i_wsX100 0 0 q1_17 rfl rfl rfl rfl rfl dX10_init_43 rfl ?_
  refine k_cI (wr := [(b, .inr (9, [.ref q5, .ref q16, .ref q27, .null, .null, .null, .int 0, .int 0, .int 0])), (q5, .inr (7, [.ref q7_9, .ref q16_9, .ref q22_9, .int 0, .int 0, .int 0, .int 0, .long 0])), (q7_9, .inl (kI, 32, .inl (fun _ => 0))), (q16_9, .inl (kI, 128, .inl (fun _ => 0))), (q22_9, .inr (8, [.int (-2147483648), .int 0, .int 0, .int 0, .int 0, .int 0])), (q16, .inr (5, [.ref q8_20, .int 0])), (q8_20, .inl (kI, 256, .inl (fun _ => 0))), (q27, .inr (2, [.int 0, .int 0, .int 0, .int 0, .int 0, .int 0, .int 0, .int 0]))]) X [.ref q5] 2 [8] [0, 1, 2, 3, 4, 5, 6, 7] (kX5_init l D kI kZ q38 q5) vX5_init q3_15 dX10_init_46 rfl rfl rfl rfl rfl rfl rfl rfl (by decide) rfl ⟨by rw [hRc]; decide, by rw [hRs]; decide⟩ (fun w1 hw1 => ?_)
  subst hw1
  refine ⟨[0, 1, 2, 3, 4, 5, 6, 7, 8], [(b, .inr (9, [.ref q5, .ref q16, .ref q27, .null, .null, .null, .int 0, .int 0, .int 0])), (q5, .inr (7, [.ref q7_9, .ref q16_9, .ref q22_9, .int 0, .int 0, .int 0, .int 0, .long 0])), (q7_9, .inl (kI, 32, .inl (fun _ => 0))), (q16_9, .inl (kI, 128, .inl (fun _ => 0))), (q22_9, .inr (8, [.int (-2147483648), .int 0, .int 0, .int 0, .int 0, .int 0])), (q16, .inr (5, [.ref q8_20, .int 0])), (q8_20, .inl (kI, 256, .inl (fun _ => 0))), (q27, .inr (2, [.int 0, .int 0, .int 0, .int 0, .int 0, .int 0, .int 0, .int 0])), (q38, .inr (4, [.ref q5]))], rfl, rfl, ?_⟩
  refine k_putF (ws' := [(b, .inr (9, [.ref q5, .ref q16, .ref q27, .ref q38, .null, .null, .int 0, .int 0, .int 0])), (q5, .inr (7, [.ref q7_9, .ref q16_9, .ref q22_9, .int 0, .int 0, .int 0, .int 0, .long 0])), (q7_9, .inl (kI, 32, .inl (fun _ => 0))), (q16_9, .inl (kI, 128, .inl (fun _ => 0))), (q22_9, .inr (8, [.int (-2147483648), .int 0, .int 0, .int 0, .int 0, .int 0])), (q16, .inr (5, [.ref q8_20, .int 0])), (q8_20, .inl (kI, 256, .inl (fun _ => 0))), (q27, .inr (2, [.int 0, .int 0, .int 0, .int 0, .int 0, .int 0, .int 0, .int 0])), (q38, .inr (4, [.ref q5]))]) X i_wsX100 tyX10 tyX10_ok nmX10 0 3 q2_5 rfl rfl rfl rfl rfl hin rfl rfl rfl rfl rfl dX10_init_49 rfl ?_
  refine k_aload_n X dX10_init_52 rfl 0 rfl rfl ?_
  refine k_new (ci := 3) X i_wsX40 tyX4 tyX4_ok q2_6 q2_7 q2_8 rfl [.null, .null, .null, .null, .null, .null, .int 0, .int 0, .int 0, .int 0, .int 0, .int 0, .int 0, .long 0, .long 0, .int 0] (fun j hj => by rcases (show j = 0 ∨ j = 1 ∨ j = 2 ∨ j = 3 ∨ j = 4 ∨ j = 5 ∨ j = 6 ∨ j = 7 ∨ j = 8 ∨ j = 9 ∨ j = 10 ∨ j = 11 ∨ j = 12 ∨ j = 13 ∨ j = 14 ∨ j = 15 by omega) with rfl | rfl | rfl | rfl | rfl | rfl | rfl | rfl | rfl | rfl | rfl | rfl | rfl | rfl | rfl | rfl <;> rfl) (by rw [hRc]; decide) (by rw [hRs]; decide) dX10_init_53 rfl (fun q53 => ?_)
  refine k_dup X dX10_init_56 rfl rfl ?_
  refine k_aload_n X dX10_init_57 rfl 0 rfl rfl ?_
  refine k_get X i_wsX100 0 0 q1_17 rfl rfl rfl rfl rfl dX10_init_58 rfl ?_
  refine k_cI (wr := [(b, .inr (9, [.ref q5, .ref q16, .ref q27, .ref q38, .null, .null, .int 0, .int 0, .int 0])), (q5, .inr (7, [.ref q7_9, .ref q16_9, .ref q22_9, .int 0, .int 0, .int 0, .int 0, .long 0])), (q7_9, .inl (kI, 32, .inl (fun _ => 0))), (q16_9, .inl (kI, 128, .inl (fun _ => 0))), (q22_9, .inr (8, [.int (-2147483648), .int 0, .int 0, .int 0, .int 0, .int 0])), (q16, .inr (5, [.ref q8_20, .int 0])), (q8_20, .inl (kI, 256, .inl (fun _ => 0))), (q27, .inr (2, [.int 0, .int 0, .int 0, .int 0, .int 0, .int 0, .int 0, .int 0])), (q38, .inr (4, [.ref q5]))]) X [.ref q5] 2 [9] [0, 1, 2, 3, 4, 5, 6, 7, 8] (kX4_init l D kI kZ q53 q5) vX4_init q3_20 dX10_init_61 rfl rfl rfl rfl rfl rfl rfl rfl (by decide) rfl ⟨by rw [hRc]; decide, by rw [hRs]; decide⟩ (fun w1 hw1 => ?_)
  obtain ⟨q10_61, q22_61, q34_61, q46_61, q58_61, rfl⟩ := hw1
  refine ⟨[0, 1, 2, 3, 4, 5, 6, 7, 8, 9, 10, 11, 12, 13, 14], [(b, .inr (9, [.ref q5, .ref q16, .ref q27, .ref q38, .null, .null, .int 0, .int 0, .int 0])), (q5, .inr (7, [.ref q7_9, .ref q16_9, .ref q22_9, .int 0, .int 0, .int 0, .int 0, .long 0])), (q7_9, .inl (kI, 32, .inl (fun _ => 0))), (q16_9, .inl (kI, 128, .inl (fun _ => 0))), (q22_9, .inr (8, [.int (-2147483648), .int 0, .int 0, .int 0, .int 0, .int 0])), (q16, .inr (5, [.ref q8_20, .int 0])), (q8_20, .inl (kI, 256, .inl (fun _ => 0))), (q27, .inr (2, [.int 0, .int 0, .int 0, .int 0, .int 0, .int 0, .int 0, .int 0])), (q38, .inr (4, [.ref q5])), (q53, .inr (3, [.ref q5, .ref q10_61, .ref q22_61, .ref q34_61, .ref q46_61, .ref q58_61, .int 0, .int 0, .int 0, .int 0, .int 0, .int 0, .int 0, .long 0, .long 0, .int 0])), (q10_61, .inr (0, [.ref q5, .int 0, .long 0, .long 0, .long 0])), (q22_61, .inr (1, [.ref q5, .int 0, .int 1, .int 8, .int 1, .long 1])), (q34_61, .inr (1, [.ref q5, .int 0, .int 1, .int 8, .int 1, .long 1])), (q46_61, .inr (1, [.ref q5, .int 0, .int 1, .int 8, .int 1, .long 1])), (q58_61, .inr (1, [.ref q5, .int 0, .int 1, .int 8, .int 1, .long 1]))], rfl, rfl, ?_⟩
  refine k_putF (ws' := [(b, .inr (9, [.ref q5, .ref q16, .ref q27, .ref q38, .ref q53, .null, .int 0, .int 0, .int 0])), (q5, .inr (7, [.ref q7_9, .ref q16_9, .ref q22_9, .int 0, .int 0, .int 0, .int 0, .long 0])), (q7_9, .inl (kI, 32, .inl (fun _ => 0))), (q16_9, .inl (kI, 128, .inl (fun _ => 0))), (q22_9, .inr (8, [.int (-2147483648), .int 0, .int 0, .int 0, .int 0, .int 0])), (q16, .inr (5, [.ref q8_20, .int 0])), (q8_20, .inl (kI, 256, .inl (fun _ => 0))), (q27, .inr (2, [.int 0, .int 0, .int 0, .int 0, .int 0, .int 0, .int 0, .int 0])), (q38, .inr (4, [.ref q5])), (q53, .inr (3, [.ref q5, .ref q10_61, .ref q22_61, .ref q34_61, .ref q46_61, .ref q58_61, .int 0, .int 0, .int 0, .int 0, .int 0, .int 0, .int 0, .long 0, .long 0, .int 0])), (q10_61, .inr (0, [.ref q5, .int 0, .long 0, .long 0, .long 0])), (q22_61, .inr (1, [.ref q5, .int 0, .int 1, .int 8, .int 1, .long 1])), (q34_61, .inr (1, [.ref q5, .int 0, .int 1, .int 8, .int 1, .long 1])), (q46_61, .inr (1, [.ref q5, .int 0, .int 1, .int 8, .int 1, .long 1])), (q58_61, .inr (1, [.ref q5, .int 0, .int 1, .int 8, .int 1, .long 1]))]) X i_wsX100 tyX10 tyX10_ok nmX10 0 4 q2_9 rfl rfl rfl rfl rfl hin rfl rfl rfl rfl rfl dX10_init_64 rfl ?_
  refine k_aload_n X dX10_init_67 rfl 0 rfl rfl ?_
  refine k_new (ci := 6) X i_wsX70 tyX7 tyX7_ok q2_10 q2_11 q2_12 rfl [.null, .null, .null, .null, .null, .int 0, .int 0, .int 0, .int 0, .int 0, .int 0, .int 0, .int 0, .int 0] (fun j hj => by rcases (show j = 0 ∨ j = 1 ∨ j = 2 ∨ j = 3 ∨ j = 4 ∨ j = 5 ∨ j = 6 ∨ j = 7 ∨ j = 8 ∨ j = 9 ∨ j = 10 ∨ j = 11 ∨ j = 12 ∨ j = 13 by omega) with rfl | rfl | rfl | rfl | rfl | rfl | rfl | rfl | rfl | rfl | rfl | rfl | rfl | rfl <;> rfl) (by rw [hRc]; decide) (by rw [hRs]; decide) dX10_init_68 rfl (fun q68 => ?_)
  refine k_dup X dX10_init_71 rfl rfl ?_
  refine k_aload_n X dX10_init_72 rfl 0 rfl rfl ?_
  refine k_get X i_wsX100 0 0 q1_17 rfl rfl rfl rfl rfl dX10_init_73 rfl ?_
  refine k_aload_n X dX10_init_76 rfl 0 rfl rfl ?_
  refine k_get X i_wsX100 0 1 q1_21 rfl rfl rfl rfl rfl dX10_init_77 rfl ?_
  refine k_cI (wr := [(b, .inr (9, [.ref q5, .ref q16, .ref q27, .ref q38, .ref q53, .null, .int 0, .int 0, .int 0])), (q5, .inr (7, [.ref q7_9, .ref q16_9, .ref q22_9, .int 0, .int 0, .int 0, .int 0, .long 0])), (q7_9, .inl (kI, 32, .inl (fun _ => 0))), (q16_9, .inl (kI, 128, .inl (fun _ => 0))), (q22_9, .inr (8, [.int (-2147483648), .int 0, .int 0, .int 0, .int 0, .int 0])), (q16, .inr (5, [.ref q8_20, .int 0])), (q8_20, .inl (kI, 256, .inl (fun _ => 0))), (q27, .inr (2, [.int 0, .int 0, .int 0, .int 0, .int 0, .int 0, .int 0, .int 0])), (q38, .inr (4, [.ref q5])), (q53, .inr (3, [.ref q5, .ref q10_61, .ref q22_61, .ref q34_61, .ref q46_61, .ref q58_61, .int 0, .int 0, .int 0, .int 0, .int 0, .int 0, .int 0, .long 0, .long 0, .int 0])), (q10_61, .inr (0, [.ref q5, .int 0, .long 0, .long 0, .long 0])), (q22_61, .inr (1, [.ref q5, .int 0, .int 1, .int 8, .int 1, .long 1])), (q34_61, .inr (1, [.ref q5, .int 0, .int 1, .int 8, .int 1, .long 1])), (q46_61, .inr (1, [.ref q5, .int 0, .int 1, .int 8, .int 1, .long 1])), (q58_61, .inr (1, [.ref q5, .int 0, .int 1, .int 8, .int 1, .long 1]))]) X [.ref q5, .ref q16] 2 [15] [0, 1, 2, 3, 4, 5, 6, 7, 8, 9, 10, 11, 12, 13, 14] (kX7_init l D kI kZ q68 q5 q16) vX7_init q5_2 dX10_init_80 rfl rfl rfl rfl rfl rfl rfl rfl (by decide) rfl ⟨by rw [hRc]; decide, by rw [hRs]; decide⟩ (fun w1 hw1 => ?_)
  obtain ⟨q15_80, q27_80, q39_80, rfl⟩ := hw1
  refine ⟨[0, 1, 2, 3, 4, 5, 6, 7, 8, 9, 10, 11, 12, 13, 14, 15, 16, 17, 18], [(b, .inr (9, [.ref q5, .ref q16, .ref q27, .ref q38, .ref q53, .null, .int 0, .int 0, .int 0])), (q5, .inr (7, [.ref q7_9, .ref q16_9, .ref q22_9, .int 0, .int 0, .int 0, .int 0, .long 0])), (q7_9, .inl (kI, 32, .inl (fun _ => 0))), (q16_9, .inl (kI, 128, .inl (fun _ => 0))), (q22_9, .inr (8, [.int (-2147483648), .int 0, .int 0, .int 0, .int 0, .int 0])), (q16, .inr (5, [.ref q8_20, .int 0])), (q8_20, .inl (kI, 256, .inl (fun _ => 0))), (q27, .inr (2, [.int 0, .int 0, .int 0, .int 0, .int 0, .int 0, .int 0, .int 0])), (q38, .inr (4, [.ref q5])), (q53, .inr (3, [.ref q5, .ref q10_61, .ref q22_61, .ref q34_61, .ref q46_61, .ref q58_61, .int 0, .int 0, .int 0, .int 0, .int 0, .int 0, .int 0, .long 0, .long 0, .int 0])), (q10_61, .inr (0, [.ref q5, .int 0, .long 0, .long 0, .long 0])), (q22_61, .inr (1, [.ref q5, .int 0, .int 1, .int 8, .int 1, .long 1])), (q34_61, .inr (1, [.ref q5, .int 0, .int 1, .int 8, .int 1, .long 1])), (q46_61, .inr (1, [.ref q5, .int 0, .int 1, .int 8, .int 1, .long 1])), (q58_61, .inr (1, [.ref q5, .int 0, .int 1, .int 8, .int 1, .long 1])), (q68, .inr (6, [.ref q5, .ref q16, .ref q15_80, .ref q27_80, .ref q39_80, .int 0, .int 0, .int 0, .int 0, .int 0, .int 0, .int 0, .int 0, .int 0])), (q15_80, .inr (1, [.ref q5, .int 0, .int 1, .int 8, .int 1, .long 1])), (q27_80, .inr (1, [.ref q5, .int 0, .int 1, .int 8, .int 1, .long 1])), (q39_80, .inr (1, [.ref q5, .int 0, .int 1, .int 8, .int 1, .long 1]))], rfl, rfl, ?_⟩
  refine k_putF (ws' := [(b, .inr (9, [.ref q5, .ref q16, .ref q27, .ref q38, .ref q53, .ref q68, .int 0, .int 0, .int 0])), (q5, .inr (7, [.ref q7_9, .ref q16_9, .ref q22_9, .int 0, .int 0, .int 0, .int 0, .long 0])), (q7_9, .inl (kI, 32, .inl (fun _ => 0))), (q16_9, .inl (kI, 128, .inl (fun _ => 0))), (q22_9, .inr (8, [.int (-2147483648), .int 0, .int 0, .int 0, .int 0, .int 0])), (q16, .inr (5, [.ref q8_20, .int 0])), (q8_20, .inl (kI, 256, .inl (fun _ => 0))), (q27, .inr (2, [.int 0, .int 0, .int 0, .int 0, .int 0, .int 0, .int 0, .int 0])), (q38, .inr (4, [.ref q5])), (q53, .inr (3, [.ref q5, .ref q10_61, .ref q22_61, .ref q34_61, .ref q46_61, .ref q58_61, .int 0, .int 0, .int 0, .int 0, .int 0, .int 0, .int 0, .long 0, .long 0, .int 0])), (q10_61, .inr (0, [.ref q5, .int 0, .long 0, .long 0, .long 0])), (q22_61, .inr (1, [.ref q5, .int 0, .int 1, .int 8, .int 1, .long 1])), (q34_61, .inr (1, [.ref q5, .int 0, .int 1, .int 8, .int 1, .long 1])), (q46_61, .inr (1, [.ref q5, .int 0, .int 1, .int 8, .int 1, .long 1])), (q58_61, .inr (1, [.ref q5, .int 0, .int 1, .int 8, .int 1, .long 1])), (q68, .inr (6, [.ref q5, .ref q16, .ref q15_80, .ref q27_80, .ref q39_80, .int 0, .int 0, .int 0, .int 0, .int 0, .int 0, .int 0, .int 0, .int 0])), (q15_80, .inr (1, [.ref q5, .int 0, .int 1, .int 8, .int 1, .long 1])), (q27_80, .inr (1, [.ref q5, .int 0, .int 1, .int 8, .int 1, .long 1])), (q39_80, .inr (1, [.ref q5, .int 0, .int 1, .int 8, .int 1, .long 1]))]) X i_wsX100 tyX10 tyX10_ok nmX10 0 5 q2_13 rfl rfl rfl rfl rfl hin rfl rfl rfl rfl rfl dX10_init_83 rfl ?_
  exact k_vretE X hRt hLk ⟨q5, q7_9, q16_9, q22_9, q16, q8_20, q27, q38, q53, q10_61, q22_61, q34_61, q46_61, q58_61, q68, q15_80, q27_80, q39_80, rfl⟩ rfl rfl dX10_init_86
theorem vX10_init : kIi yX10_init cX10_init 1 0 := ⟨q1_10, q1_2, q1_9, by decide, rfl, by decide +kernel⟩
set_option maxRecDepth 100000 in
theorem kX11_init (l : Launch) (D : va_G) (kI kZ : ClassId) (b : Nat) : kMe l yX11_init cX11_init 1 none 1 12 5 2096 D [(kI, .int), (kZ, .boolean)] [.ref b] [(b, .inr (10, [.int 0, .null, .null, .null, .null, .null, .long 0, .int 0, .int 0, .int 0, .int 0, .int 0, .int 0, .int 0, .int 0, .int 0, .int 0, .int 0, .int 0, .int 0, .int 0, .int 0, .int 0, .int 0, .int 0]))] none (fun w => ∃ (q7 : Nat) (q16 : Nat) (q25 : Nat) (q34 : Nat) (q42 : Nat), w = [(b, .inr (10, [.int 0, .ref q7, .ref q16, .ref q25, .ref q34, .ref q42, .long 0, .int 0, .int (-2147483648), .int 0, .int 0, .int 0, .int 0, .int 0, .int 0, .int 0, .int 0, .int 0, .int 0, .int 0, .int 0, .int 0, .int 0, .int 0, .int 0])), (q7, .inl (kI, 32, .inl (fun _ => 0))), (q16, .inl (kI, 512, .inl (fun _ => 0))), (q25, .inl (kI, 512, .inl (fun _ => 0))), (q34, .inl (kI, 1024, .inl (fun _ => 0))), (q42, .inl (kZ, 16, .inl (fun _ => 0)))]) := by
  refine kMe.of (by decide) rfl ?_
  intro p e R s m args below meth c A X hRc hRs hRt hLk hin
  refine k_sub [0] (lv' := [(0, .ref b)]) rfl ?_
  refine k_aload_n X dX11_init_0 rfl 0 rfl rfl ?_
  refine k_objInit X q5_16 rfl rfl dX11_init_1 rfl ?_
  refine k_aload_n X dX11_init_4 rfl 0 rfl rfl ?_
  refine k_bipush (v := 32) X dX11_init_5 (by decide) rfl ?_
  refine k_newi (N := 32) X 0 rfl (by decide) rfl (by rw [hRc]; decide) (by rw [hRs]; decide) dX11_init_7 rfl (fun q7 => ?_)
  refine k_putF (ws' := [(b, .inr (10, [.int 0, .ref q7, .null, .null, .null, .null, .long 0, .int 0, .int 0, .int 0, .int 0, .int 0, .int 0, .int 0, .int 0, .int 0, .int 0, .int 0, .int 0, .int 0, .int 0, .int 0, .int 0, .int 0, .int 0])), (q7, .inl (kI, 32, .inl (fun _ => 0)))]) X i_wsX110 tyX11 tyX11_ok nmX11 0 1 q5_17 rfl rfl rfl rfl rfl hin rfl rfl rfl rfl rfl dX11_init_9 rfl ?_
  refine k_aload_n X dX11_init_12 rfl 0 rfl rfl ?_
  refine k_sipush (v := 512) X dX11_init_13 (by decide) rfl ?_
  refine k_newi (N := 512) X 0 rfl (by decide) rfl (by rw [hRc]; decide) (by rw [hRs]; decide) dX11_init_16 rfl (fun q16 => ?_)
  refine k_putF (ws' := [(b, .inr (10, [.int 0, .ref q7, .ref q16, .null, .null, .null, .long 0, .int 0, .int 0, .int 0, .int 0, .int 0, .int 0, .int 0, .int 0, .int 0, .int 0, .int 0, .int 0, .int 0, .int 0, .int 0, .int 0, .int 0, .int 0])), (q7, .inl (kI, 32, .inl (fun _ => 0))), (q16, .inl (kI, 512, .inl (fun _ => 0)))]) X i_wsX110 tyX11 tyX11_ok nmX11 0 2 q5_18 rfl rfl rfl rfl rfl hin rfl rfl rfl rfl rfl dX11_init_18 rfl ?_
  refine k_aload_n X dX11_init_21 rfl 0 rfl rfl ?_
  refine k_sipush (v := 512) X dX11_init_22 (by decide) rfl ?_
  refine k_newi (N := 512) X 0 rfl (by decide) rfl (by rw [hRc]; decide) (by rw [hRs]; decide) dX11_init_25 rfl (fun q25 => ?_)
  refine k_putF (ws' := [(b, .inr (10, [.int 0, .ref q7, .ref q16, .ref q25, .null, .null, .long 0, .int 0, .int 0, .int 0, .int 0, .int 0, .int 0, .int 0, .int 0, .int 0, .int 0, .int 0, .int 0, .int 0, .int 0, .int 0, .int 0, .int 0, .int 0])), (q7, .inl (kI, 32, .inl (fun _ => 0))), (q16, .inl (kI, 512, .inl (fun _ => 0))), (q25, .inl (kI, 512, .inl (fun _ => 0)))]) X i_wsX110 tyX11 tyX11_ok nmX11 0 3 q5_19 rfl rfl rfl rfl rfl hin rfl rfl rfl rfl rfl dX11_init_27 rfl ?_
  refine k_aload_n X dX11_init_30 rfl 0 rfl rfl ?_
  refine k_sipush (v := 1024) X dX11_init_31 (by decide) rfl ?_
  refine k_newi (N := 1024) X 0 rfl (by decide) rfl (by rw [hRc]; decide) (by rw [hRs]; decide) dX11_init_34 rfl (fun q34 => ?_)
  refine k_putF (ws' := [(b, .inr (10, [.int 0, .ref q7, .ref q16, .ref q25, .ref q34, .null, .long 0, .int 0, .int 0, .int 0, .int 0, .int 0, .int 0, .int 0, .int 0, .int 0, .int 0, .int 0, .int 0, .int 0, .int 0, .int 0, .int 0, .int 0, .int 0])), (q7, .inl (kI, 32, .inl (fun _ => 0))), (q16, .inl (kI, 512, .inl (fun _ => 0))), (q25, .inl (kI, 512, .inl (fun _ => 0))), (q34, .inl (kI, 1024, .inl (fun _ => 0)))]) X i_wsX110 tyX11 tyX11_ok nmX11 0 4 q5_20 rfl rfl rfl rfl rfl hin rfl rfl rfl rfl rfl dX11_init_36 rfl ?_
  refine k_aload_n X dX11_init_39 rfl 0 rfl rfl ?_
  refine k_bipush (v := 16) X dX11_init_40 (by decide) rfl ?_
  refine k_newz (N := 16) X 1 rfl (by decide) rfl (by rw [hRc]; decide) (by rw [hRs]; decide) dX11_init_42 rfl (fun q42 => ?_)
  refine k_putF (ws' := [(b, .inr (10, [.int 0, .ref q7, .ref q16, .ref q25, .ref q34, .ref q42, .long 0, .int 0, .int 0, .int 0, .int 0, .int 0, .int 0, .int 0, .int 0, .int 0, .int 0, .int 0, .int 0, .int 0, .int 0, .int 0, .int 0, .int 0, .int 0])), (q7, .inl (kI, 32, .inl (fun _ => 0))), (q16, .inl (kI, 512, .inl (fun _ => 0))), (q25, .inl (kI, 512, .inl (fun _ => 0))), (q34, .inl (kI, 1024, .inl (fun _ => 0))), (q42, .inl (kZ, 16, .inl (fun _ => 0)))]) X i_wsX110 tyX11 tyX11_ok nmX11 0 5 q5_22 rfl rfl rfl rfl rfl hin rfl rfl rfl rfl rfl dX11_init_44 rfl ?_
  refine k_aload_n X dX11_init_47 rfl 0 rfl rfl ?_
  refine k_ldc (v := (-2147483648)) X q5_23 dX11_init_48 rfl ?_
  refine k_put (ws' := [(b, .inr (10, [.int 0, .ref q7, .ref q16, .ref q25, .ref q34, .ref q42, .long 0, .int 0, .int (-2147483648), .int 0, .int 0, .int 0, .int 0, .int 0, .int 0, .int 0, .int 0, .int 0, .int 0, .int 0, .int 0, .int 0, .int 0, .int 0, .int 0])), (q7, .inl (kI, 32, .inl (fun _ => 0))), (q16, .inl (kI, 512, .inl (fun _ => 0))), (q25, .inl (kI, 512, .inl (fun _ => 0))), (q34, .inl (kI, 1024, .inl (fun _ => 0))), (q42, .inl (kZ, 16, .inl (fun _ => 0)))]) X i_wsX110 tyX11 tyX11_ok nmX11 0 8 q6_0 rfl rfl rfl rfl rfl rfl rfl rfl rfl dX11_init_50 rfl ?_
  exact k_vretE X hRt hLk ⟨q7, q16, q25, q34, q42, rfl⟩ rfl rfl dX11_init_53
theorem vX11_init : kIi yX11_init cX11_init 1 0 := ⟨q5_15, q1_5, q5_14, by decide, rfl, by decide +kernel⟩
