noncomputable def pX2_cover_30_S2 (u3 : Int32) : Int32 := (if u3 ≤ (8 : Int32) then (1 : Int32) else (u3 / (8 : Int32)))
noncomputable def fX2_cover__g_first (u1 : Int32) : Int32 := u1
noncomputable def fX2_cover__g_eew (u2 : Int32) : Int32 := u2
noncomputable def fX2_cover__g_eighths (u3 : Int32) : Int32 := u3
noncomputable def fX2_cover__g_registers (u3 : Int32) : Int32 := (pX2_cover_30_S2 u3)
noncomputable def fX2_cover__g_full (u2 : Int32) : Int64 := (fX10_ones u2)
set_option maxRecDepth 100000 in
set_option maxHeartbeats 4000000 in
theorem kX2_cover (l : Launch) (D : va_G) (kI kZ : ClassId) (b_g : Nat) (g_owner : Nat) (g_first : Int32) (g_eew : Int32) (g_eighths : Int32) (g_registers : Int32) (g_full : Int64) (u1 : Int32) (u2 : Int32) (u3 : Int32) : kM l yX2_cover cX2_cover 4 none 1 13 0 0 D [(kI, .int), (kZ, .boolean)] [.ref b_g, .int u1, .int u2, .int u3] [(b_g, .inr (1, [.ref g_owner, .int g_first, .int g_eew, .int g_eighths, .int g_registers, .long g_full]))] none [(b_g, .inr (1, [.ref g_owner, .int (fX2_cover__g_first u1), .int (fX2_cover__g_eew u2), .int (fX2_cover__g_eighths u3), .int (fX2_cover__g_registers u3), .long (fX2_cover__g_full u2)]))] := by
  refine kM.of (by decide) rfl ?_
  intro p e R s m args below meth c A X _ _ hRt hLk
  refine k_sub [0, 1, 2, 3] (lv' := [(0, .ref b_g), (1, .int u1), (2, .int u2), (3, .int u3)]) rfl ?_
  refine k_aload_n X dX2_cover_0 rfl 0 rfl rfl ?_
  refine k_iload_n X dX2_cover_1 rfl 1 rfl rfl ?_
  refine k_put (ws' := [(b_g, .inr (1, [.ref g_owner, .int u1, .int g_eew, .int g_eighths, .int g_registers, .long g_full]))]) X i_wsX20 tyX2 tyX2_ok nmX2 0 1 q8_19 rfl rfl rfl rfl rfl rfl rfl rfl rfl dX2_cover_2 rfl ?_
  refine k_aload_n X dX2_cover_5 rfl 0 rfl rfl ?_
  refine k_iload_n X dX2_cover_6 rfl 2 rfl rfl ?_
  refine k_put (ws' := [(b_g, .inr (1, [.ref g_owner, .int u1, .int u2, .int g_eighths, .int g_registers, .long g_full]))]) X i_wsX20 tyX2 tyX2_ok nmX2 0 2 q4_22 rfl rfl rfl rfl rfl rfl rfl rfl rfl dX2_cover_7 rfl ?_
  refine k_aload_n X dX2_cover_10 rfl 0 rfl rfl ?_
  refine k_iload_n X dX2_cover_11 rfl 3 rfl rfl ?_
  refine k_put (ws' := [(b_g, .inr (1, [.ref g_owner, .int u1, .int u2, .int u3, .int g_registers, .long g_full]))]) X i_wsX20 tyX2 tyX2_ok nmX2 0 3 q4_23 rfl rfl rfl rfl rfl rfl rfl rfl rfl dX2_cover_12 rfl ?_
  refine k_aload_n X dX2_cover_15 rfl 0 rfl rfl ?_
  refine k_iload_n X dX2_cover_16 rfl 3 rfl rfl ?_
  refine k_bipush X dX2_cover_17 kc_b_8 rfl ?_
  refine k_mid2 [(b_g, .inr (1, [.ref g_owner, .int u1, .int u2, .int u3, .int g_registers, .long g_full]))] [(0, .ref b_g), (1, .int u1), (2, .int u2), (3, .int u3)] [.int (pX2_cover_30_S2 u3), .ref b_g] 30 (fun hJ2 => ?_) ?_
  · skip
    refine k_icmp_le (tgt := 29) X dX2_cover_19 (by decide) rfl (fun c1 => ?_) (fun c1 => ?_)
    · skip
      refine k_iconst X dX2_cover_29 kc_i_1 rfl ?_
      have e3 : (pX2_cover_30_S2 u3) = (1 : Int32) := by rw [pX2_cover_30_S2, if_pos c1]
      rw [e3] at hJ2
      exact k_sub [0, 1, 2, 3] rfl hJ2
    refine k_iload_n X dX2_cover_22 rfl 3 rfl rfl ?_
    refine k_bipush X dX2_cover_23 kc_b_8 rfl ?_
    refine k_idiv X dX2_cover_25 (by decide) rfl ?_
    refine k_goto (tgt := 30) X dX2_cover_26 (by decide) ?_
    have e4 : (pX2_cover_30_S2 u3) = (u3 / (8 : Int32)) := by rw [pX2_cover_30_S2, if_neg c1]
    rw [e4] at hJ2
    exact k_sub [0, 1, 2, 3] rfl hJ2
  refine k_put (ws' := [(b_g, .inr (1, [.ref g_owner, .int u1, .int u2, .int u3, .int (pX2_cover_30_S2 u3), .long g_full]))]) X i_wsX20 tyX2 tyX2_ok nmX2 0 4 q5_0 rfl rfl rfl rfl rfl rfl rfl rfl rfl dX2_cover_30 rfl ?_
  refine k_aload_n X dX2_cover_33 rfl 0 rfl rfl ?_
  refine k_iload_n X dX2_cover_34 rfl 2 rfl rfl ?_
  refine k_cN1 (st := [.ref b_g]) (ws' := [(b_g, .inr (1, [.ref g_owner, .int u1, .int u2, .int u3, .int (pX2_cover_30_S2 u3), .long g_full]))]) (wr := [(b_g, .inr (1, [.ref g_owner, .int u1, .int u2, .int u3, .int (pX2_cover_30_S2 u3), .long g_full]))]) X [.int u2] 1 [] [0] [0] (kX10_ones l D kI kZ u2) vX10_ones X.2.1.2.1.2.2.1 dX2_cover_35 rfl rfl rfl rfl rfl rfl rfl rfl rfl rfl rfl rfl rfl ?_
  refine k_put (ws' := [(b_g, .inr (1, [.ref g_owner, .int u1, .int u2, .int u3, .int (pX2_cover_30_S2 u3), .long (fX10_ones u2)]))]) X i_wsX20 tyX2 tyX2_ok nmX2 0 5 q5_1 rfl rfl rfl rfl rfl rfl rfl rfl rfl dX2_cover_38 rfl ?_
  have e5 : (fX2_cover__g_first u1) = u1 := by rw [fX2_cover__g_first]
  have e6 : (fX2_cover__g_eew u2) = u2 := by rw [fX2_cover__g_eew]
  have e7 : (fX2_cover__g_eighths u3) = u3 := by rw [fX2_cover__g_eighths]
  have e8 : (fX2_cover__g_registers u3) = (pX2_cover_30_S2 u3) := by rw [fX2_cover__g_registers]
  have e9 : (fX2_cover__g_full u2) = (fX10_ones u2) := by rw [fX2_cover__g_full]
  exact k_vret X hRt hLk (by rw [e5, e6, e7, e8, e9]) dX2_cover_41
theorem vX2_cover : kVi yX2_cover cX2_cover 4 none 3 := ⟨q8_18, q4_7, q8_16, q8_17, by decide, by decide +kernel⟩
noncomputable def pX2_isLegal_40_S1 (g_eew : Int32) : Int32 := (if g_eew = (1 : Int32) then (1 : Int32) else (if g_eew = (8 : Int32) then (1 : Int32) else (if g_eew = (16 : Int32) then (1 : Int32) else (if g_eew = (32 : Int32) then (1 : Int32) else (0 : Int32)))))
theorem zpX2_isLegal_40_S1 (g_eew : Int32) : narrow .boolean (.int (pX2_isLegal_40_S1 g_eew)) = .int (pX2_isLegal_40_S1 g_eew) := by unfold pX2_isLegal_40_S1; exact (kzi rfl (kzi rfl (kzi rfl (kzi rfl rfl))))
noncomputable def pX2_isLegal_81_S1 (g_first : Int32) (g_eew : Int32) (g_eighths : Int32) (g_registers : Int32) : Int32 := (if (pX2_isLegal_40_S1 g_eew) = (0 : Int32) then (0 : Int32) else (if g_eighths < (1 : Int32) then (0 : Int32) else (if (64 : Int32) < g_eighths then (0 : Int32) else (if (g_first &&& (g_registers - (1 : Int32))) = (0 : Int32) then (1 : Int32) else (0 : Int32)))))
theorem zpX2_isLegal_81_S1 (g_first : Int32) (g_eew : Int32) (g_eighths : Int32) (g_registers : Int32) : narrow .boolean (.int (pX2_isLegal_81_S1 g_first g_eew g_eighths g_registers)) = .int (pX2_isLegal_81_S1 g_first g_eew g_eighths g_registers) := by unfold pX2_isLegal_81_S1; exact (kzi rfl (kzi rfl (kzi rfl (kzi rfl rfl))))
noncomputable def fX2_isLegal (g_first : Int32) (g_eew : Int32) (g_eighths : Int32) (g_registers : Int32) : Int32 := (pX2_isLegal_81_S1 g_first g_eew g_eighths g_registers)
theorem zX2_isLegal (g_first : Int32) (g_eew : Int32) (g_eighths : Int32) (g_registers : Int32) : narrow .boolean (.int (fX2_isLegal g_first g_eew g_eighths g_registers)) = .int (fX2_isLegal g_first g_eew g_eighths g_registers) := by unfold fX2_isLegal; exact (zpX2_isLegal_81_S1 g_first g_eew g_eighths g_registers)
set_option maxRecDepth 100000 in
set_option maxHeartbeats 4000000 in
theorem kX2_isLegal (l : Launch) (D : va_G) (kI kZ : ClassId) (b_g : Nat) (g_owner : Nat) (g_first : Int32) (g_eew : Int32) (g_eighths : Int32) (g_registers : Int32) (g_full : Int64) : kM l yX2_isLegal cX2_isLegal 2 (some .boolean) 0 0 0 0 D [(kI, .int), (kZ, .boolean)] [.ref b_g] [(b_g, .inr (1, [.ref g_owner, .int g_first, .int g_eew, .int g_eighths, .int g_registers, .long g_full]))] (some (.int (fX2_isLegal g_first g_eew g_eighths g_registers))) [(b_g, .inr (1, [.ref g_owner, .int g_first, .int g_eew, .int g_eighths, .int g_registers, .long g_full]))] := by
  refine kM.of (by decide) rfl ?_
  intro p e R s m args below meth c A X _ _ hRt hLk
  refine k_sub [0] (lv' := [(0, .ref b_g)]) rfl ?_
  refine k_aload_n X dX2_isLegal_0 rfl 0 rfl rfl ?_
  refine k_get X i_wsX20 0 2 q4_22 rfl rfl rfl rfl rfl dX2_isLegal_1 rfl ?_
  refine k_iconst X dX2_isLegal_4 kc_i_1 rfl ?_
  refine k_mid2 [(b_g, .inr (1, [.ref g_owner, .int g_first, .int g_eew, .int g_eighths, .int g_registers, .long g_full]))] [(0, .ref b_g)] [.int (pX2_isLegal_40_S1 g_eew)] 40 (fun hJ5 => ?_) ?_
  · skip
    refine k_icmp_eq (tgt := 35) X dX2_isLegal_5 (by decide) rfl (fun c1 => ?_) (fun c1 => ?_)
    · skip
      refine k_iconst X dX2_isLegal_35 kc_i_1 rfl ?_
      refine k_goto (tgt := 40) X dX2_isLegal_36 (by decide) ?_
      have e11 : (pX2_isLegal_40_S1 g_eew) = (1 : Int32) := by rw [pX2_isLegal_40_S1, if_pos c1]
      rw [e11] at hJ5
      exact k_sub [0] rfl hJ5
    refine k_aload_n X dX2_isLegal_8 rfl 0 rfl rfl ?_
    refine k_get X i_wsX20 0 2 q4_22 rfl rfl rfl rfl rfl dX2_isLegal_9 rfl ?_
    refine k_bipush X dX2_isLegal_12 kc_b_8 rfl ?_
    refine k_icmp_eq (tgt := 35) X dX2_isLegal_14 (by decide) rfl (fun c2 => ?_) (fun c2 => ?_)
    · skip
      refine k_iconst X dX2_isLegal_35 kc_i_1 rfl ?_
      refine k_goto (tgt := 40) X dX2_isLegal_36 (by decide) ?_
      have e12 : (pX2_isLegal_40_S1 g_eew) = (1 : Int32) := by rw [pX2_isLegal_40_S1, if_neg c1, if_pos c2]
      rw [e12] at hJ5
      exact k_sub [0] rfl hJ5
    refine k_aload_n X dX2_isLegal_17 rfl 0 rfl rfl ?_
    refine k_get X i_wsX20 0 2 q4_22 rfl rfl rfl rfl rfl dX2_isLegal_18 rfl ?_
    refine k_bipush X dX2_isLegal_21 kc_b_16 rfl ?_
    refine k_icmp_eq (tgt := 35) X dX2_isLegal_23 (by decide) rfl (fun c3 => ?_) (fun c3 => ?_)
    · skip
      refine k_iconst X dX2_isLegal_35 kc_i_1 rfl ?_
      refine k_goto (tgt := 40) X dX2_isLegal_36 (by decide) ?_
      have e13 : (pX2_isLegal_40_S1 g_eew) = (1 : Int32) := by rw [pX2_isLegal_40_S1, if_neg c1, if_neg c2, if_pos c3]
      rw [e13] at hJ5
      exact k_sub [0] rfl hJ5
    refine k_aload_n X dX2_isLegal_26 rfl 0 rfl rfl ?_
    refine k_get X i_wsX20 0 2 q4_22 rfl rfl rfl rfl rfl dX2_isLegal_27 rfl ?_
    refine k_bipush X dX2_isLegal_30 kc_b_32 rfl ?_
    refine k_icmp_ne (tgt := 39) X dX2_isLegal_32 (by decide) rfl (fun c4 => ?_) (fun c4 => ?_)
    · skip
      refine k_iconst X dX2_isLegal_35 kc_i_1 rfl ?_
      refine k_goto (tgt := 40) X dX2_isLegal_36 (by decide) ?_
      have e14 : (pX2_isLegal_40_S1 g_eew) = (1 : Int32) := by rw [pX2_isLegal_40_S1, if_neg c1, if_neg c2, if_neg c3, if_pos c4]
      rw [e14] at hJ5
      exact k_sub [0] rfl hJ5
    refine k_iconst X dX2_isLegal_39 kc_i_0 rfl ?_
    have e15 : (pX2_isLegal_40_S1 g_eew) = (0 : Int32) := by rw [pX2_isLegal_40_S1, if_neg c1, if_neg c2, if_neg c3, if_neg c4]
    rw [e15] at hJ5
    exact k_sub [0] rfl hJ5
  refine k_istore_n (lv' := [(1, .int (pX2_isLegal_40_S1 g_eew)), (0, .ref b_g)]) X dX2_isLegal_40 rfl rfl rfl rfl ?_
  refine k_iload_n X dX2_isLegal_41 rfl 0 rfl rfl ?_
  refine k_mid2 [(b_g, .inr (1, [.ref g_owner, .int g_first, .int g_eew, .int g_eighths, .int g_registers, .long g_full]))] [(0, .ref b_g), (1, .int (pX2_isLegal_40_S1 g_eew))] [.int (pX2_isLegal_81_S1 g_first g_eew g_eighths g_registers)] 81 (fun hJ10 => ?_) ?_
  · skip
    refine k_if_eq (tgt := 80) X dX2_isLegal_42 (by decide) rfl (fun c6 => ?_) (fun c6 => ?_)
    · skip
      refine k_iconst X dX2_isLegal_80 kc_i_0 rfl ?_
      have e16 : (pX2_isLegal_81_S1 g_first g_eew g_eighths g_registers) = (0 : Int32) := by rw [pX2_isLegal_81_S1, if_pos c6]
      rw [e16] at hJ10
      exact k_sub [1, 0] rfl hJ10
    refine k_aload_n X dX2_isLegal_45 rfl 1 rfl rfl ?_
    refine k_get X i_wsX20 0 3 q4_23 rfl rfl rfl rfl rfl dX2_isLegal_46 rfl ?_
    refine k_iconst X dX2_isLegal_49 kc_i_1 rfl ?_
    refine k_icmp_lt (tgt := 80) X dX2_isLegal_50 (by decide) rfl (fun c7 => ?_) (fun c7 => ?_)
    · skip
      refine k_iconst X dX2_isLegal_80 kc_i_0 rfl ?_
      have e17 : (pX2_isLegal_81_S1 g_first g_eew g_eighths g_registers) = (0 : Int32) := by rw [pX2_isLegal_81_S1, if_neg c6, if_pos c7]
      rw [e17] at hJ10
      exact k_sub [1, 0] rfl hJ10
    refine k_aload_n X dX2_isLegal_53 rfl 1 rfl rfl ?_
    refine k_get X i_wsX20 0 3 q4_23 rfl rfl rfl rfl rfl dX2_isLegal_54 rfl ?_
    refine k_bipush X dX2_isLegal_57 kc_b_64 rfl ?_
    refine k_icmp_gt (tgt := 80) X dX2_isLegal_59 (by decide) rfl (fun c8 => ?_) (fun c8 => ?_)
    · skip
      refine k_iconst X dX2_isLegal_80 kc_i_0 rfl ?_
      have e18 : (pX2_isLegal_81_S1 g_first g_eew g_eighths g_registers) = (0 : Int32) := by rw [pX2_isLegal_81_S1, if_neg c6, if_neg c7, if_pos c8]
      rw [e18] at hJ10
      exact k_sub [1, 0] rfl hJ10
    refine k_aload_n X dX2_isLegal_62 rfl 1 rfl rfl ?_
    refine k_get X i_wsX20 0 1 q8_19 rfl rfl rfl rfl rfl dX2_isLegal_63 rfl ?_
    refine k_aload_n X dX2_isLegal_66 rfl 1 rfl rfl ?_
    refine k_get X i_wsX20 0 4 q5_0 rfl rfl rfl rfl rfl dX2_isLegal_67 rfl ?_
    refine k_iconst X dX2_isLegal_70 kc_i_1 rfl ?_
    refine k_isub X dX2_isLegal_71 rfl ?_
    refine k_iand X dX2_isLegal_72 rfl ?_
    refine k_if_ne (tgt := 80) X dX2_isLegal_73 (by decide) rfl (fun c9 => ?_) (fun c9 => ?_)
    · skip
      refine k_iconst X dX2_isLegal_76 kc_i_1 rfl ?_
      refine k_goto (tgt := 81) X dX2_isLegal_77 (by decide) ?_
      have e19 : (pX2_isLegal_81_S1 g_first g_eew g_eighths g_registers) = (1 : Int32) := by rw [pX2_isLegal_81_S1, if_neg c6, if_neg c7, if_neg c8, if_pos c9]
      rw [e19] at hJ10
      exact k_sub [1, 0] rfl hJ10
    refine k_iconst X dX2_isLegal_80 kc_i_0 rfl ?_
    have e20 : (pX2_isLegal_81_S1 g_first g_eew g_eighths g_registers) = (0 : Int32) := by rw [pX2_isLegal_81_S1, if_neg c6, if_neg c7, if_neg c8, if_neg c9]
    rw [e20] at hJ10
    exact k_sub [1, 0] rfl hJ10
  have e21 : (fX2_isLegal g_first g_eew g_eighths g_registers) = (pX2_isLegal_81_S1 g_first g_eew g_eighths g_registers) := by rw [fX2_isLegal]
  exact k_zret9 X hRt hLk (zpX2_isLegal_81_S1 g_first g_eew g_eighths g_registers) e21.symm rfl dX2_isLegal_81
theorem vX2_isLegal : kVi yX2_isLegal cX2_isLegal 2 (some .boolean) 0 := ⟨q9_5, q4_7, q9_3, q9_4, by decide, by decide +kernel⟩
noncomputable def pX2_capacity_25_S1 (g_eew : Int32) (g_registers : Int32) : Int32 := (if (1 : Int32) ≤ g_eew then ((g_registers * (128 : Int32)) / g_eew) else (0 : Int32))
noncomputable def fX2_capacity (g_eew : Int32) (g_registers : Int32) : Int32 := (pX2_capacity_25_S1 g_eew g_registers)
noncomputable def okX2_capacity (g_eew : Int32) : Prop := (((1 : Int32) ≤ g_eew) → ¬ g_eew = 0)
set_option maxRecDepth 100000 in
set_option maxHeartbeats 4000000 in
theorem kX2_capacity (l : Launch) (D : va_G) (kI kZ : ClassId) (b_g : Nat) (g_owner : Nat) (g_first : Int32) (g_eew : Int32) (g_eighths : Int32) (g_registers : Int32) (g_full : Int64) (hok : okX2_capacity g_eew) : kM l yX2_capacity cX2_capacity 1 (some .int) 0 0 0 0 D [(kI, .int), (kZ, .boolean)] [.ref b_g] [(b_g, .inr (1, [.ref g_owner, .int g_first, .int g_eew, .int g_eighths, .int g_registers, .long g_full]))] (some (.int (fX2_capacity g_eew g_registers))) [(b_g, .inr (1, [.ref g_owner, .int g_first, .int g_eew, .int g_eighths, .int g_registers, .long g_full]))] := by
  refine kM.of (by decide) rfl ?_
  intro p e R s m args below meth c A X _ _ hRt hLk
  refine k_sub [0] (lv' := [(0, .ref b_g)]) rfl ?_
  unfold okX2_capacity at hok
  refine k_aload_n X dX2_capacity_0 rfl 0 rfl rfl ?_
  refine k_get X i_wsX20 0 2 q4_22 rfl rfl rfl rfl rfl dX2_capacity_1 rfl ?_
  refine k_iconst X dX2_capacity_4 kc_i_1 rfl ?_
  refine k_mid2 [(b_g, .inr (1, [.ref g_owner, .int g_first, .int g_eew, .int g_eighths, .int g_registers, .long g_full]))] [(0, .ref b_g)] [.int (pX2_capacity_25_S1 g_eew g_registers)] 25 (fun hJ2 => ?_) ?_
  · skip
    refine k_icmp_ge (tgt := 12) X dX2_capacity_5 (by decide) rfl (fun c1 => ?_) (fun c1 => ?_)
    · skip
      refine k_aload_n X dX2_capacity_12 rfl 0 rfl rfl ?_
      refine k_get X i_wsX20 0 4 q5_0 rfl rfl rfl rfl rfl dX2_capacity_13 rfl ?_
      refine k_sipush X dX2_capacity_16 kc_s_128 rfl ?_
      refine k_imul X dX2_capacity_19 rfl ?_
      refine k_aload_n X dX2_capacity_20 rfl 0 rfl rfl ?_
      refine k_get X i_wsX20 0 2 q4_22 rfl rfl rfl rfl rfl dX2_capacity_21 rfl ?_
      refine k_idiv X dX2_capacity_24 (hok c1) rfl ?_
      have e3 : (pX2_capacity_25_S1 g_eew g_registers) = ((g_registers * (128 : Int32)) / g_eew) := by rw [pX2_capacity_25_S1, if_pos c1]
      rw [e3] at hJ2
      exact k_sub [0] rfl hJ2
    refine k_iconst X dX2_capacity_8 kc_i_0 rfl ?_
    refine k_goto (tgt := 25) X dX2_capacity_9 (by decide) ?_
    have e4 : (pX2_capacity_25_S1 g_eew g_registers) = (0 : Int32) := by rw [pX2_capacity_25_S1, if_neg c1]
    rw [e4] at hJ2
    exact k_sub [0] rfl hJ2
  have e5 : (fX2_capacity g_eew g_registers) = (pX2_capacity_25_S1 g_eew g_registers) := by rw [fX2_capacity]
  exact k_iret9 X hRt hLk e5.symm rfl dX2_capacity_25
theorem vX2_capacity : kVi yX2_capacity cX2_capacity 1 (some .int) 0 := ⟨q9_1, q4_7, q8_23, q9_0, by decide, by decide +kernel⟩
noncomputable def pX2_meets_37_S1 (g_first : Int32) (g_registers : Int32) (k_first : Int32) (k_registers : Int32) : Int32 := (if (k_first + k_registers) ≤ g_first then (0 : Int32) else (if (g_first + g_registers) ≤ k_first then (0 : Int32) else (1 : Int32)))
theorem zpX2_meets_37_S1 (g_first : Int32) (g_registers : Int32) (k_first : Int32) (k_registers : Int32) : narrow .boolean (.int (pX2_meets_37_S1 g_first g_registers k_first k_registers)) = .int (pX2_meets_37_S1 g_first g_registers k_first k_registers) := by unfold pX2_meets_37_S1; exact (kzi rfl (kzi rfl rfl))
noncomputable def fX2_meets (g_first : Int32) (g_registers : Int32) (k_first : Int32) (k_registers : Int32) : Int32 := (pX2_meets_37_S1 g_first g_registers k_first k_registers)
theorem zX2_meets (g_first : Int32) (g_registers : Int32) (k_first : Int32) (k_registers : Int32) : narrow .boolean (.int (fX2_meets g_first g_registers k_first k_registers)) = .int (fX2_meets g_first g_registers k_first k_registers) := by unfold fX2_meets; exact (zpX2_meets_37_S1 g_first g_registers k_first k_registers)
set_option maxRecDepth 100000 in
set_option maxHeartbeats 4000000 in
theorem kX2_meets (l : Launch) (D : va_G) (kI kZ : ClassId) (b_g : Nat) (b_k : Nat) (g_owner : Nat) (g_first : Int32) (g_eew : Int32) (g_eighths : Int32) (g_registers : Int32) (g_full : Int64) (k_owner : Nat) (k_first : Int32) (k_eew : Int32) (k_eighths : Int32) (k_registers : Int32) (k_full : Int64) : kM l yX2_meets cX2_meets 2 (some .boolean) 0 0 0 0 D [(kI, .int), (kZ, .boolean)] [.ref b_g, .ref b_k] [(b_g, .inr (1, [.ref g_owner, .int g_first, .int g_eew, .int g_eighths, .int g_registers, .long g_full])), (b_k, .inr (1, [.ref k_owner, .int k_first, .int k_eew, .int k_eighths, .int k_registers, .long k_full]))] (some (.int (fX2_meets g_first g_registers k_first k_registers))) [(b_g, .inr (1, [.ref g_owner, .int g_first, .int g_eew, .int g_eighths, .int g_registers, .long g_full])), (b_k, .inr (1, [.ref k_owner, .int k_first, .int k_eew, .int k_eighths, .int k_registers, .long k_full]))] := by
  refine kM.of (by decide) rfl ?_
  intro p e R s m args below meth c A X _ _ hRt hLk
  refine k_sub [0, 1] (lv' := [(0, .ref b_g), (1, .ref b_k)]) rfl ?_
  refine k_aload_n X dX2_meets_0 rfl 0 rfl rfl ?_
  refine k_get X i_wsX20 0 1 q8_19 rfl rfl rfl rfl rfl dX2_meets_1 rfl ?_
  refine k_aload_n X dX2_meets_4 rfl 1 rfl rfl ?_
  refine k_get X i_wsX20 1 1 q8_19 rfl rfl rfl rfl rfl dX2_meets_5 rfl ?_
  refine k_aload_n X dX2_meets_8 rfl 1 rfl rfl ?_
  refine k_get X i_wsX20 1 4 q5_0 rfl rfl rfl rfl rfl dX2_meets_9 rfl ?_
  refine k_iadd X dX2_meets_12 rfl ?_
  refine k_mid2 [(b_g, .inr (1, [.ref g_owner, .int g_first, .int g_eew, .int g_eighths, .int g_registers, .long g_full])), (b_k, .inr (1, [.ref k_owner, .int k_first, .int k_eew, .int k_eighths, .int k_registers, .long k_full]))] [(0, .ref b_g), (1, .ref b_k)] [.int (pX2_meets_37_S1 g_first g_registers k_first k_registers)] 37 (fun hJ3 => ?_) ?_
  · skip
    refine k_icmp_ge (tgt := 36) X dX2_meets_13 (by decide) rfl (fun c1 => ?_) (fun c1 => ?_)
    · skip
      refine k_iconst X dX2_meets_36 kc_i_0 rfl ?_
      have e4 : (pX2_meets_37_S1 g_first g_registers k_first k_registers) = (0 : Int32) := by rw [pX2_meets_37_S1, if_pos c1]
      rw [e4] at hJ3
      exact k_sub [0, 1] rfl hJ3
    refine k_aload_n X dX2_meets_16 rfl 1 rfl rfl ?_
    refine k_get X i_wsX20 1 1 q8_19 rfl rfl rfl rfl rfl dX2_meets_17 rfl ?_
    refine k_aload_n X dX2_meets_20 rfl 0 rfl rfl ?_
    refine k_get X i_wsX20 0 1 q8_19 rfl rfl rfl rfl rfl dX2_meets_21 rfl ?_
    refine k_aload_n X dX2_meets_24 rfl 0 rfl rfl ?_
    refine k_get X i_wsX20 0 4 q5_0 rfl rfl rfl rfl rfl dX2_meets_25 rfl ?_
    refine k_iadd X dX2_meets_28 rfl ?_
    refine k_icmp_ge (tgt := 36) X dX2_meets_29 (by decide) rfl (fun c2 => ?_) (fun c2 => ?_)
    · skip
      refine k_iconst X dX2_meets_36 kc_i_0 rfl ?_
      have e5 : (pX2_meets_37_S1 g_first g_registers k_first k_registers) = (0 : Int32) := by rw [pX2_meets_37_S1, if_neg c1, if_pos c2]
      rw [e5] at hJ3
      exact k_sub [0, 1] rfl hJ3
    refine k_iconst X dX2_meets_32 kc_i_1 rfl ?_
    refine k_goto (tgt := 37) X dX2_meets_33 (by decide) ?_
    have e6 : (pX2_meets_37_S1 g_first g_registers k_first k_registers) = (1 : Int32) := by rw [pX2_meets_37_S1, if_neg c1, if_neg c2]
    rw [e6] at hJ3
    exact k_sub [0, 1] rfl hJ3
  have e7 : (fX2_meets g_first g_registers k_first k_registers) = (pX2_meets_37_S1 g_first g_registers k_first k_registers) := by rw [fX2_meets]
  exact k_zret9 X hRt hLk (zpX2_meets_37_S1 g_first g_registers k_first k_registers) e7.symm rfl dX2_meets_37
theorem vX2_meets : kVi yX2_meets cX2_meets 2 (some .boolean) 1 := ⟨q10_7, q4_7, q10_5, q10_6, by decide, by decide +kernel⟩
noncomputable def pX2_mayOverwrite_84_S1 (g_first : Int32) (g_registers : Int32) (k_first : Int32) (k_eighths : Int32) (k_registers : Int32) : Int32 := (if k_eighths < (8 : Int32) then (0 : Int32) else (if (g_first + g_registers) = (k_first + k_registers) then (1 : Int32) else (0 : Int32)))
theorem zpX2_mayOverwrite_84_S1 (g_first : Int32) (g_registers : Int32) (k_first : Int32) (k_eighths : Int32) (k_registers : Int32) : narrow .boolean (.int (pX2_mayOverwrite_84_S1 g_first g_registers k_first k_eighths k_registers)) = .int (pX2_mayOverwrite_84_S1 g_first g_registers k_first k_eighths k_registers) := by unfold pX2_mayOverwrite_84_S1; exact (kzi rfl (kzi rfl rfl))
noncomputable def pX2_mayOverwrite_48_S1 (g_first : Int32) (k_first : Int32) : Int32 := (if g_first = k_first then (1 : Int32) else (0 : Int32))
theorem zpX2_mayOverwrite_48_S1 (g_first : Int32) (k_first : Int32) : narrow .boolean (.int (pX2_mayOverwrite_48_S1 g_first k_first)) = .int (pX2_mayOverwrite_48_S1 g_first k_first) := by unfold pX2_mayOverwrite_48_S1; exact (kzi rfl rfl)
noncomputable def fX2_mayOverwrite (g_first : Int32) (g_eew : Int32) (g_registers : Int32) (k_first : Int32) (k_eew : Int32) (k_eighths : Int32) (k_registers : Int32) : Int32 := (if (fX2_meets g_first g_registers k_first k_registers) = (0 : Int32) then (1 : Int32) else (if g_eew = k_eew then (1 : Int32) else (if k_eew ≤ g_eew then (pX2_mayOverwrite_84_S1 g_first g_registers k_first k_eighths k_registers) else (pX2_mayOverwrite_48_S1 g_first k_first))))
theorem zX2_mayOverwrite (g_first : Int32) (g_eew : Int32) (g_registers : Int32) (k_first : Int32) (k_eew : Int32) (k_eighths : Int32) (k_registers : Int32) : narrow .boolean (.int (fX2_mayOverwrite g_first g_eew g_registers k_first k_eew k_eighths k_registers)) = .int (fX2_mayOverwrite g_first g_eew g_registers k_first k_eew k_eighths k_registers) := by unfold fX2_mayOverwrite; exact (kzi rfl (kzi rfl (kzi (zpX2_mayOverwrite_84_S1 g_first g_registers k_first k_eighths k_registers) (zpX2_mayOverwrite_48_S1 g_first k_first))))
set_option maxRecDepth 100000 in
set_option maxHeartbeats 4000000 in
theorem kX2_mayOverwrite (l : Launch) (D : va_G) (kI kZ : ClassId) (b_g : Nat) (b_k : Nat) (g_owner : Nat) (g_first : Int32) (g_eew : Int32) (g_eighths : Int32) (g_registers : Int32) (g_full : Int64) (k_owner : Nat) (k_first : Int32) (k_eew : Int32) (k_eighths : Int32) (k_registers : Int32) (k_full : Int64) : kM l yX2_mayOverwrite cX2_mayOverwrite 2 (some .boolean) 1 13 0 0 D [(kI, .int), (kZ, .boolean)] [.ref b_g, .ref b_k] [(b_g, .inr (1, [.ref g_owner, .int g_first, .int g_eew, .int g_eighths, .int g_registers, .long g_full])), (b_k, .inr (1, [.ref k_owner, .int k_first, .int k_eew, .int k_eighths, .int k_registers, .long k_full]))] (some (.int (fX2_mayOverwrite g_first g_eew g_registers k_first k_eew k_eighths k_registers))) [(b_g, .inr (1, [.ref g_owner, .int g_first, .int g_eew, .int g_eighths, .int g_registers, .long g_full])), (b_k, .inr (1, [.ref k_owner, .int k_first, .int k_eew, .int k_eighths, .int k_registers, .long k_full]))] := by
  refine kM.of (by decide) rfl ?_
  intro p e R s m args below meth c A X _ _ hRt hLk
  refine k_sub [0, 1] (lv' := [(0, .ref b_g), (1, .ref b_k)]) rfl ?_
  refine k_aload_n X dX2_mayOverwrite_0 rfl 0 rfl rfl ?_
  refine k_aload_n X dX2_mayOverwrite_1 rfl 1 rfl rfl ?_
  refine k_cV1 (st := []) (ws' := [(b_g, .inr (1, [.ref g_owner, .int g_first, .int g_eew, .int g_eighths, .int g_registers, .long g_full])), (b_k, .inr (1, [.ref k_owner, .int k_first, .int k_eew, .int k_eighths, .int k_registers, .long k_full]))]) (wr := []) (ci := 1) (q9 := 0) X [.ref b_k] 0 [0, 1] [] [0, 1] (kX2_meets l D kI kZ b_g b_k g_owner g_first g_eew g_eighths g_registers g_full k_owner k_first k_eew k_eighths k_registers k_full) vX2_meets q10_17 dX2_mayOverwrite_2 rfl rfl rfl rfl rfl rfl rfl rfl rfl rfl rfl rfl rfl rfl rfl ?_
  refine k_if_eq (tgt := 19) X dX2_mayOverwrite_5 (by decide) rfl (fun c1 => ?_) (fun c1 => ?_)
  · skip
    refine k_iconst X dX2_mayOverwrite_19 kc_i_1 rfl ?_
    have e9 : (fX2_mayOverwrite g_first g_eew g_registers k_first k_eew k_eighths k_registers) = (1 : Int32) := by rw [fX2_mayOverwrite, if_pos c1]
    exact k_zret9 X hRt hLk rfl e9.symm rfl dX2_mayOverwrite_20
  refine k_aload_n X dX2_mayOverwrite_8 rfl 0 rfl rfl ?_
  refine k_get X i_wsX20 0 2 q4_22 rfl rfl rfl rfl rfl dX2_mayOverwrite_9 rfl ?_
  refine k_aload_n X dX2_mayOverwrite_12 rfl 1 rfl rfl ?_
  refine k_get X i_wsX20 1 2 q4_22 rfl rfl rfl rfl rfl dX2_mayOverwrite_13 rfl ?_
  refine k_icmp_ne (tgt := 21) X dX2_mayOverwrite_16 (by decide) rfl (fun c2 => ?_) (fun c2 => ?_)
  · skip
    refine k_iconst X dX2_mayOverwrite_19 kc_i_1 rfl ?_
    have e10 : (fX2_mayOverwrite g_first g_eew g_registers k_first k_eew k_eighths k_registers) = (1 : Int32) := by rw [fX2_mayOverwrite, if_neg c1, if_pos c2]
    exact k_zret9 X hRt hLk rfl e10.symm rfl dX2_mayOverwrite_20
  refine k_aload_n X dX2_mayOverwrite_21 rfl 0 rfl rfl ?_
  refine k_get X i_wsX20 0 2 q4_22 rfl rfl rfl rfl rfl dX2_mayOverwrite_22 rfl ?_
  refine k_aload_n X dX2_mayOverwrite_25 rfl 1 rfl rfl ?_
  refine k_get X i_wsX20 1 2 q4_22 rfl rfl rfl rfl rfl dX2_mayOverwrite_26 rfl ?_
  refine k_icmp_ge (tgt := 49) X dX2_mayOverwrite_29 (by decide) rfl (fun c3 => ?_) (fun c3 => ?_)
  · skip
    refine k_aload_n X dX2_mayOverwrite_49 rfl 1 rfl rfl ?_
    refine k_get X i_wsX20 1 3 q4_23 rfl rfl rfl rfl rfl dX2_mayOverwrite_50 rfl ?_
    refine k_bipush X dX2_mayOverwrite_53 kc_b_8 rfl ?_
    refine k_mid2 [(b_g, .inr (1, [.ref g_owner, .int g_first, .int g_eew, .int g_eighths, .int g_registers, .long g_full])), (b_k, .inr (1, [.ref k_owner, .int k_first, .int k_eew, .int k_eighths, .int k_registers, .long k_full]))] [(0, .ref b_g), (1, .ref b_k)] [.int (pX2_mayOverwrite_84_S1 g_first g_registers k_first k_eighths k_registers)] 84 (fun hJ6 => ?_) ?_
    · skip
      refine k_icmp_lt (tgt := 83) X dX2_mayOverwrite_55 (by decide) rfl (fun c4 => ?_) (fun c4 => ?_)
      · skip
        refine k_iconst X dX2_mayOverwrite_83 kc_i_0 rfl ?_
        have e11 : (pX2_mayOverwrite_84_S1 g_first g_registers k_first k_eighths k_registers) = (0 : Int32) := by rw [pX2_mayOverwrite_84_S1, if_pos c4]
        rw [e11] at hJ6
        exact k_sub [0, 1] rfl hJ6
      refine k_aload_n X dX2_mayOverwrite_58 rfl 0 rfl rfl ?_
      refine k_get X i_wsX20 0 1 q8_19 rfl rfl rfl rfl rfl dX2_mayOverwrite_59 rfl ?_
      refine k_aload_n X dX2_mayOverwrite_62 rfl 0 rfl rfl ?_
      refine k_get X i_wsX20 0 4 q5_0 rfl rfl rfl rfl rfl dX2_mayOverwrite_63 rfl ?_
      refine k_iadd X dX2_mayOverwrite_66 rfl ?_
      refine k_aload_n X dX2_mayOverwrite_67 rfl 1 rfl rfl ?_
      refine k_get X i_wsX20 1 1 q8_19 rfl rfl rfl rfl rfl dX2_mayOverwrite_68 rfl ?_
      refine k_aload_n X dX2_mayOverwrite_71 rfl 1 rfl rfl ?_
      refine k_get X i_wsX20 1 4 q5_0 rfl rfl rfl rfl rfl dX2_mayOverwrite_72 rfl ?_
      refine k_iadd X dX2_mayOverwrite_75 rfl ?_
      refine k_icmp_ne (tgt := 83) X dX2_mayOverwrite_76 (by decide) rfl (fun c5 => ?_) (fun c5 => ?_)
      · skip
        refine k_iconst X dX2_mayOverwrite_79 kc_i_1 rfl ?_
        refine k_goto (tgt := 84) X dX2_mayOverwrite_80 (by decide) ?_
        have e12 : (pX2_mayOverwrite_84_S1 g_first g_registers k_first k_eighths k_registers) = (1 : Int32) := by rw [pX2_mayOverwrite_84_S1, if_neg c4, if_pos c5]
        rw [e12] at hJ6
        exact k_sub [0, 1] rfl hJ6
      refine k_iconst X dX2_mayOverwrite_83 kc_i_0 rfl ?_
      have e13 : (pX2_mayOverwrite_84_S1 g_first g_registers k_first k_eighths k_registers) = (0 : Int32) := by rw [pX2_mayOverwrite_84_S1, if_neg c4, if_neg c5]
      rw [e13] at hJ6
      exact k_sub [0, 1] rfl hJ6
    have e14 : (fX2_mayOverwrite g_first g_eew g_registers k_first k_eew k_eighths k_registers) = (pX2_mayOverwrite_84_S1 g_first g_registers k_first k_eighths k_registers) := by rw [fX2_mayOverwrite, if_neg c1, if_neg c2, if_pos c3]
    exact k_zret9 X hRt hLk (zpX2_mayOverwrite_84_S1 g_first g_registers k_first k_eighths k_registers) e14.symm rfl dX2_mayOverwrite_84
  refine k_aload_n X dX2_mayOverwrite_32 rfl 0 rfl rfl ?_
  refine k_get X i_wsX20 0 1 q8_19 rfl rfl rfl rfl rfl dX2_mayOverwrite_33 rfl ?_
  refine k_aload_n X dX2_mayOverwrite_36 rfl 1 rfl rfl ?_
  refine k_get X i_wsX20 1 1 q8_19 rfl rfl rfl rfl rfl dX2_mayOverwrite_37 rfl ?_
  refine k_mid2 [(b_g, .inr (1, [.ref g_owner, .int g_first, .int g_eew, .int g_eighths, .int g_registers, .long g_full])), (b_k, .inr (1, [.ref k_owner, .int k_first, .int k_eew, .int k_eighths, .int k_registers, .long k_full]))] [(0, .ref b_g), (1, .ref b_k)] [.int (pX2_mayOverwrite_48_S1 g_first k_first)] 48 (fun hJ8 => ?_) ?_
  · skip
    refine k_icmp_ne (tgt := 47) X dX2_mayOverwrite_40 (by decide) rfl (fun c7 => ?_) (fun c7 => ?_)
    · skip
      refine k_iconst X dX2_mayOverwrite_43 kc_i_1 rfl ?_
      refine k_goto (tgt := 48) X dX2_mayOverwrite_44 (by decide) ?_
      have e15 : (pX2_mayOverwrite_48_S1 g_first k_first) = (1 : Int32) := by rw [pX2_mayOverwrite_48_S1, if_pos c7]
      rw [e15] at hJ8
      exact k_sub [0, 1] rfl hJ8
    refine k_iconst X dX2_mayOverwrite_47 kc_i_0 rfl ?_
    have e16 : (pX2_mayOverwrite_48_S1 g_first k_first) = (0 : Int32) := by rw [pX2_mayOverwrite_48_S1, if_neg c7]
    rw [e16] at hJ8
    exact k_sub [0, 1] rfl hJ8
  have e17 : (fX2_mayOverwrite g_first g_eew g_registers k_first k_eew k_eighths k_registers) = (pX2_mayOverwrite_48_S1 g_first k_first) := by rw [fX2_mayOverwrite, if_neg c1, if_neg c2, if_neg c3]
  exact k_zret9 X hRt hLk (zpX2_mayOverwrite_48_S1 g_first k_first) e17.symm rfl dX2_mayOverwrite_48
theorem vX2_mayOverwrite : kVi yX2_mayOverwrite cX2_mayOverwrite 2 (some .boolean) 1 := ⟨q10_16, q4_7, q10_14, q10_15, by decide, by decide +kernel⟩
noncomputable def fX2_element (g_first : Int32) (g_eew : Int32) (g_full : Int64) (xV : Nat → Int32) (u1 : Int32) : Int64 := (if (shr ((g_first * (128 : Int32)) + (u1 * g_eew)) (5 : Int32)) < (0 : Int32) then (0 : Int64) else (if (shr ((g_first * (128 : Int32)) + (u1 * g_eew)) (5 : Int32)) < (128 : Int32) then ((Int32.toInt64 (sru (xV (Int32.toNatClampNeg (shr ((g_first * (128 : Int32)) + (u1 * g_eew)) (5 : Int32)))) (((g_first * (128 : Int32)) + (u1 * g_eew)) &&& (31 : Int32)))) &&& g_full) else (0 : Int64)))
noncomputable def okX2_element (g_first : Int32) (g_eew : Int32) (u1 : Int32) : Prop := (¬ ((shr ((g_first * (128 : Int32)) + (u1 * g_eew)) (5 : Int32)) < (0 : Int32)) → ((shr ((g_first * (128 : Int32)) + (u1 * g_eew)) (5 : Int32)) < (128 : Int32)) → vp_in (shr ((g_first * (128 : Int32)) + (u1 * g_eew)) (5 : Int32)) 128)
set_option maxRecDepth 100000 in
set_option maxHeartbeats 4000000 in
theorem kX2_element (l : Launch) (D : va_G) (kI kZ : ClassId) (b_g : Nat) (b_r : Nat) (b_xV : Nat) (g_first : Int32) (g_eew : Int32) (g_eighths : Int32) (g_registers : Int32) (g_full : Int64) (r_scalars : Nat) (r_type : Nat) (r_length : Int32) (r_start : Int32) (r_rounding : Int32) (r_saturated : Int32) (r_choices : Int64) (xV : Nat → Int32) (u1 : Int32) (hok : okX2_element g_first g_eew u1) : kM l yX2_element cX2_element 4 (some .long) 0 0 0 0 D [(kI, .int), (kZ, .boolean)] [.ref b_g, .int u1] [(b_g, .inr (1, [.ref b_r, .int g_first, .int g_eew, .int g_eighths, .int g_registers, .long g_full])), (b_r, .inr (7, [.ref r_scalars, .ref b_xV, .ref r_type, .int r_length, .int r_start, .int r_rounding, .int r_saturated, .long r_choices])), (b_xV, .inl (kI, 128, .inl xV))] (some (.long (fX2_element g_first g_eew g_full xV u1))) [(b_g, .inr (1, [.ref b_r, .int g_first, .int g_eew, .int g_eighths, .int g_registers, .long g_full])), (b_r, .inr (7, [.ref r_scalars, .ref b_xV, .ref r_type, .int r_length, .int r_start, .int r_rounding, .int r_saturated, .long r_choices])), (b_xV, .inl (kI, 128, .inl xV))] := by
  refine kM.of (by decide) rfl ?_
  intro p e R s m args below meth c A X _ _ hRt hLk
  refine k_sub [0, 1] (lv' := [(0, .ref b_g), (1, .int u1)]) rfl ?_
  unfold okX2_element at hok
  refine k_aload_n X dX2_element_0 rfl 0 rfl rfl ?_
  refine k_get X i_wsX20 0 1 q8_19 rfl rfl rfl rfl rfl dX2_element_1 rfl ?_
  refine k_sipush X dX2_element_4 kc_s_128 rfl ?_
  refine k_imul X dX2_element_7 rfl ?_
  refine k_iload_n X dX2_element_8 rfl 1 rfl rfl ?_
  refine k_aload_n X dX2_element_9 rfl 0 rfl rfl ?_
  refine k_get X i_wsX20 0 2 q4_22 rfl rfl rfl rfl rfl dX2_element_10 rfl ?_
  refine k_imul X dX2_element_13 rfl ?_
  refine k_iadd X dX2_element_14 rfl ?_
  refine k_istore_n (lv' := [(2, .int ((g_first * (128 : Int32)) + (u1 * g_eew))), (0, .ref b_g), (1, .int u1)]) X dX2_element_15 rfl rfl rfl rfl ?_
  refine k_iload_n X dX2_element_16 rfl 0 rfl rfl ?_
  refine k_iconst X dX2_element_17 kc_i_5 rfl ?_
  refine k_ishr X dX2_element_18 rfl ?_
  refine k_istore_n (lv' := [(3, .int (shr ((g_first * (128 : Int32)) + (u1 * g_eew)) (5 : Int32))), (2, .int ((g_first * (128 : Int32)) + (u1 * g_eew))), (0, .ref b_g), (1, .int u1)]) X dX2_element_19 rfl rfl rfl rfl ?_
  refine k_iload_n X dX2_element_20 rfl 0 rfl rfl ?_
  refine k_if_lt (tgt := 31) X dX2_element_21 (by decide) rfl (fun c1 => ?_) (fun c1 => ?_)
  · skip
    refine k_lconst (v := (0 : Int64)) X dX2_element_31 rfl rfl ?_
    have e3 : (fX2_element g_first g_eew g_full xV u1) = (0 : Int64) := by rw [fX2_element, if_pos c1]
    exact k_lret9 X hRt hLk e3.symm rfl dX2_element_32
  refine k_iload_n X dX2_element_24 rfl 0 rfl rfl ?_
  refine k_sipush X dX2_element_25 kc_s_128 rfl ?_
  refine k_icmp_lt (tgt := 33) X dX2_element_28 (by decide) rfl (fun c2 => ?_) (fun c2 => ?_)
  · skip
    refine k_aload_n X dX2_element_33 rfl 2 rfl rfl ?_
    refine k_get X i_wsX20 0 0 q4_21 rfl rfl rfl rfl rfl dX2_element_34 rfl ?_
    refine k_get X i_wsX80 1 1 q11_5 rfl rfl rfl rfl rfl dX2_element_37 rfl ?_
    refine k_iload_n X dX2_element_40 rfl 0 rfl rfl ?_
    refine k_iald X 2 0 rfl rfl (hok c1 c2) dX2_element_41 rfl ?_
    refine k_iload_n X dX2_element_42 rfl 1 rfl rfl ?_
    refine k_bipush X dX2_element_43 kc_b_31 rfl ?_
    refine k_iand X dX2_element_45 rfl ?_
    refine k_iushr X dX2_element_46 rfl ?_
    refine k_i2l X dX2_element_47 rfl ?_
    refine k_aload_n X dX2_element_48 rfl 2 rfl rfl ?_
    refine k_get X i_wsX20 0 5 q5_1 rfl rfl rfl rfl rfl dX2_element_49 rfl ?_
    refine k_land X dX2_element_52 rfl ?_
    have e4 : (fX2_element g_first g_eew g_full xV u1) = ((Int32.toInt64 (sru (xV (Int32.toNatClampNeg (shr ((g_first * (128 : Int32)) + (u1 * g_eew)) (5 : Int32)))) (((g_first * (128 : Int32)) + (u1 * g_eew)) &&& (31 : Int32)))) &&& g_full) := by rw [fX2_element, if_neg c1, if_pos c2]
    exact k_lret9 X hRt hLk e4.symm rfl dX2_element_53
  refine k_lconst (v := (0 : Int64)) X dX2_element_31 rfl rfl ?_
  have e5 : (fX2_element g_first g_eew g_full xV u1) = (0 : Int64) := by rw [fX2_element, if_neg c1, if_neg c2]
  exact k_lret9 X hRt hLk e5.symm rfl dX2_element_32
theorem vX2_element : kVi yX2_element cX2_element 4 (some .long) 1 := ⟨q11_4, q4_7, q11_2, q11_3, by decide, by decide +kernel⟩
noncomputable def eX2_put_48 (g_first : Int32) (g_eew : Int32) (g_full : Int64) (u1 : Int32) : Int32 := (shl (Int64.toInt32 g_full) (((g_first * (128 : Int32)) + (u1 * g_eew)) &&& (31 : Int32)))
noncomputable def eX2_put_58 (g_first : Int32) (g_eew : Int32) (u1 : Int32) (u2 : Int64) : Int32 := (shl (Int64.toInt32 u2) (((g_first * (128 : Int32)) + (u1 * g_eew)) &&& (31 : Int32)))
noncomputable def eX2_put_90 (g_first : Int32) (g_eew : Int32) (g_full : Int64) (xV : Nat → Int32) (u1 : Int32) (u2 : Int64) : Int32 := (((xV (Int32.toNatClampNeg (shr ((g_first * (128 : Int32)) + (u1 * g_eew)) (5 : Int32)))) &&& ((eX2_put_48 g_first g_eew g_full u1) ^^^ (-1 : Int32))) ||| ((eX2_put_58 g_first g_eew u1 u2) &&& (eX2_put_48 g_first g_eew g_full u1)))
noncomputable def fX2_put__xV (g_first : Int32) (g_eew : Int32) (g_full : Int64) (xV : Nat → Int32) (u1 : Int32) (u2 : Int64) : Nat → Int32 := (if (shr ((g_first * (128 : Int32)) + (u1 * g_eew)) (5 : Int32)) < (0 : Int32) then xV else (if (shr ((g_first * (128 : Int32)) + (u1 * g_eew)) (5 : Int32)) < (128 : Int32) then (upd xV (Int32.toNatClampNeg (shr ((g_first * (128 : Int32)) + (u1 * g_eew)) (5 : Int32))) (eX2_put_90 g_first g_eew g_full xV u1 u2)) else xV))
noncomputable def okX2_put (g_first : Int32) (g_eew : Int32) (u1 : Int32) : Prop := (¬ ((shr ((g_first * (128 : Int32)) + (u1 * g_eew)) (5 : Int32)) < (0 : Int32)) → ((shr ((g_first * (128 : Int32)) + (u1 * g_eew)) (5 : Int32)) < (128 : Int32)) → vp_in (shr ((g_first * (128 : Int32)) + (u1 * g_eew)) (5 : Int32)) 128)
set_option maxRecDepth 100000 in
set_option maxHeartbeats 4000000 in
theorem kX2_put (l : Launch) (D : va_G) (kI kZ : ClassId) (b_g : Nat) (b_r : Nat) (b_xV : Nat) (g_first : Int32) (g_eew : Int32) (g_eighths : Int32) (g_registers : Int32) (g_full : Int64) (r_scalars : Nat) (r_type : Nat) (r_length : Int32) (r_start : Int32) (r_rounding : Int32) (r_saturated : Int32) (r_choices : Int64) (xV : Nat → Int32) (u1 : Int32) (u2 : Int64) (hok : okX2_put g_first g_eew u1) : kM l yX2_put cX2_put 8 none 0 0 0 0 D [(kI, .int), (kZ, .boolean)] [.ref b_g, .int u1, .long u2] [(b_g, .inr (1, [.ref b_r, .int g_first, .int g_eew, .int g_eighths, .int g_registers, .long g_full])), (b_r, .inr (7, [.ref r_scalars, .ref b_xV, .ref r_type, .int r_length, .int r_start, .int r_rounding, .int r_saturated, .long r_choices])), (b_xV, .inl (kI, 128, .inl xV))] none [(b_g, .inr (1, [.ref b_r, .int g_first, .int g_eew, .int g_eighths, .int g_registers, .long g_full])), (b_r, .inr (7, [.ref r_scalars, .ref b_xV, .ref r_type, .int r_length, .int r_start, .int r_rounding, .int r_saturated, .long r_choices])), (b_xV, .inl (kI, 128, .inl (fX2_put__xV g_first g_eew g_full xV u1 u2)))] := by
  refine kM.of (by decide) rfl ?_
  intro p e R s m args below meth c A X _ _ hRt hLk
  refine k_sub [0, 1, 2] (lv' := [(0, .ref b_g), (1, .int u1), (2, .long u2)]) rfl ?_
  unfold okX2_put at hok
  refine k_aload_n X dX2_put_0 rfl 0 rfl rfl ?_
  refine k_get X i_wsX20 0 1 q8_19 rfl rfl rfl rfl rfl dX2_put_1 rfl ?_
  refine k_sipush X dX2_put_4 kc_s_128 rfl ?_
  refine k_imul X dX2_put_7 rfl ?_
  refine k_iload_n X dX2_put_8 rfl 1 rfl rfl ?_
  refine k_aload_n X dX2_put_9 rfl 0 rfl rfl ?_
  refine k_get X i_wsX20 0 2 q4_22 rfl rfl rfl rfl rfl dX2_put_10 rfl ?_
  refine k_imul X dX2_put_13 rfl ?_
  refine k_iadd X dX2_put_14 rfl ?_
  refine k_istore (lv' := [(4, .int ((g_first * (128 : Int32)) + (u1 * g_eew))), (0, .ref b_g), (1, .int u1), (2, .long u2)]) X dX2_put_15 rfl rfl rfl ?_
  refine k_iload X dX2_put_17 0 rfl rfl ?_
  refine k_iconst X dX2_put_19 kc_i_5 rfl ?_
  refine k_ishr X dX2_put_20 rfl ?_
  refine k_istore (lv' := [(5, .int (shr ((g_first * (128 : Int32)) + (u1 * g_eew)) (5 : Int32))), (4, .int ((g_first * (128 : Int32)) + (u1 * g_eew))), (0, .ref b_g), (1, .int u1), (2, .long u2)]) X dX2_put_21 rfl rfl rfl ?_
  refine k_iload X dX2_put_23 0 rfl rfl ?_
  refine k_if_lt (tgt := 36) X dX2_put_25 (by decide) rfl (fun c1 => ?_) (fun c1 => ?_)
  · skip
    have e3 : (fX2_put__xV g_first g_eew g_full xV u1 u2) = xV := by rw [fX2_put__xV, if_pos c1]
    exact k_vret X hRt hLk (by rw [e3]) dX2_put_36
  refine k_iload X dX2_put_28 0 rfl rfl ?_
  refine k_sipush X dX2_put_30 kc_s_128 rfl ?_
  refine k_icmp_lt (tgt := 37) X dX2_put_33 (by decide) rfl (fun c2 => ?_) (fun c2 => ?_)
  · skip
    refine k_aload_n X dX2_put_37 rfl 2 rfl rfl ?_
    refine k_get X i_wsX20 0 5 q5_1 rfl rfl rfl rfl rfl dX2_put_38 rfl ?_
    refine k_l2i X dX2_put_41 rfl ?_
    refine k_iload X dX2_put_42 1 rfl rfl ?_
    refine k_bipush X dX2_put_44 kc_b_31 rfl ?_
    refine k_iand X dX2_put_46 rfl ?_
    refine k_ishl X dX2_put_47 rfl ?_
    refine k_foldi (v := (eX2_put_48 g_first g_eew g_full u1)) rfl ?_
    refine k_istore (lv' := [(6, .int (eX2_put_48 g_first g_eew g_full u1)), (5, .int (shr ((g_first * (128 : Int32)) + (u1 * g_eew)) (5 : Int32))), (4, .int ((g_first * (128 : Int32)) + (u1 * g_eew))), (0, .ref b_g), (1, .int u1), (2, .long u2)]) X dX2_put_48 rfl rfl rfl ?_
    refine k_lload_n X dX2_put_50 rfl 5 rfl rfl ?_
    refine k_l2i X dX2_put_51 rfl ?_
    refine k_iload X dX2_put_52 2 rfl rfl ?_
    refine k_bipush X dX2_put_54 kc_b_31 rfl ?_
    refine k_iand X dX2_put_56 rfl ?_
    refine k_ishl X dX2_put_57 rfl ?_
    refine k_foldi (v := (eX2_put_58 g_first g_eew u1 u2)) rfl ?_
    refine k_istore (lv' := [(7, .int (eX2_put_58 g_first g_eew u1 u2)), (6, .int (eX2_put_48 g_first g_eew g_full u1)), (5, .int (shr ((g_first * (128 : Int32)) + (u1 * g_eew)) (5 : Int32))), (4, .int ((g_first * (128 : Int32)) + (u1 * g_eew))), (0, .ref b_g), (1, .int u1), (2, .long u2)]) X dX2_put_58 rfl rfl rfl ?_
    refine k_aload_n X dX2_put_60 rfl 4 rfl rfl ?_
    refine k_get X i_wsX20 0 0 q4_21 rfl rfl rfl rfl rfl dX2_put_61 rfl ?_
    refine k_get X i_wsX80 1 1 q11_5 rfl rfl rfl rfl rfl dX2_put_64 rfl ?_
    refine k_iload X dX2_put_67 2 rfl rfl ?_
    refine k_aload_n X dX2_put_69 rfl 4 rfl rfl ?_
    refine k_get X i_wsX20 0 0 q4_21 rfl rfl rfl rfl rfl dX2_put_70 rfl ?_
    refine k_get X i_wsX80 1 1 q11_5 rfl rfl rfl rfl rfl dX2_put_73 rfl ?_
    refine k_iload X dX2_put_76 2 rfl rfl ?_
    refine k_iald X 2 0 rfl rfl (hok c1 c2) dX2_put_78 rfl ?_
    refine k_iload X dX2_put_79 1 rfl rfl ?_
    refine k_iconst X dX2_put_81 kc_i_m1 rfl ?_
    refine k_ixor X dX2_put_82 rfl ?_
    refine k_iand X dX2_put_83 rfl ?_
    refine k_iload X dX2_put_84 0 rfl rfl ?_
    refine k_iload X dX2_put_86 1 rfl rfl ?_
    refine k_iand X dX2_put_88 rfl ?_
    refine k_ior X dX2_put_89 rfl ?_
    refine k_foldi (v := (eX2_put_90 g_first g_eew g_full xV u1 u2)) rfl ?_
    refine k_iast (ws' := [(b_g, .inr (1, [.ref b_r, .int g_first, .int g_eew, .int g_eighths, .int g_registers, .long g_full])), (b_r, .inr (7, [.ref r_scalars, .ref b_xV, .ref r_type, .int r_length, .int r_start, .int r_rounding, .int r_saturated, .long r_choices])), (b_xV, .inl (kI, 128, .inl (upd xV (Int32.toNatClampNeg (shr ((g_first * (128 : Int32)) + (u1 * g_eew)) (5 : Int32))) (eX2_put_90 g_first g_eew g_full xV u1 u2))))]) X 2 0 rfl rfl (hok c1 c2) rfl dX2_put_90 rfl ?_
    have e4 : (fX2_put__xV g_first g_eew g_full xV u1 u2) = (upd xV (Int32.toNatClampNeg (shr ((g_first * (128 : Int32)) + (u1 * g_eew)) (5 : Int32))) (eX2_put_90 g_first g_eew g_full xV u1 u2)) := by rw [fX2_put__xV, if_neg c1, if_pos c2]
    exact k_vret X hRt hLk (by rw [e4]) dX2_put_91
  have e5 : (fX2_put__xV g_first g_eew g_full xV u1 u2) = xV := by rw [fX2_put__xV, if_neg c1, if_neg c2]
  exact k_vret X hRt hLk (by rw [e5]) dX2_put_36
theorem vX2_put : kVi yX2_put cX2_put 8 none 2 := ⟨q12_0, q4_7, q11_22, q11_23, by decide, by decide +kernel⟩
noncomputable def pX2_leaveOpen_19_xV (g_first : Int32) (g_eew : Int32) (g_full : Int64) (r_choices : Int64) (xV : Nat → Int32) (u1 : Int32) : Nat → Int32 := (if (fX8_isChosen r_choices u1) = (0 : Int32) then xV else (fX2_put__xV g_first g_eew g_full xV u1 (-1 : Int64)))
noncomputable def fX2_leaveOpen__xV (g_first : Int32) (g_eew : Int32) (g_full : Int64) (r_choices : Int64) (xV : Nat → Int32) (u1 : Int32) : Nat → Int32 := (pX2_leaveOpen_19_xV g_first g_eew g_full r_choices xV u1)
noncomputable def okX2_leaveOpen (g_first : Int32) (g_eew : Int32) (r_choices : Int64) (u1 : Int32) : Prop := (¬ ((fX8_isChosen r_choices u1) = (0 : Int32)) → okX2_put g_first g_eew u1)
set_option maxRecDepth 100000 in
set_option maxHeartbeats 4000000 in
theorem kX2_leaveOpen (l : Launch) (D : va_G) (kI kZ : ClassId) (b_g : Nat) (b_r : Nat) (b_xV : Nat) (g_first : Int32) (g_eew : Int32) (g_eighths : Int32) (g_registers : Int32) (g_full : Int64) (r_scalars : Nat) (r_type : Nat) (r_length : Int32) (r_start : Int32) (r_rounding : Int32) (r_saturated : Int32) (r_choices : Int64) (xV : Nat → Int32) (u1 : Int32) (hok : okX2_leaveOpen g_first g_eew r_choices u1) : kM l yX2_leaveOpen cX2_leaveOpen 2 none 1 19 0 0 D [(kI, .int), (kZ, .boolean)] [.ref b_g, .int u1] [(b_g, .inr (1, [.ref b_r, .int g_first, .int g_eew, .int g_eighths, .int g_registers, .long g_full])), (b_r, .inr (7, [.ref r_scalars, .ref b_xV, .ref r_type, .int r_length, .int r_start, .int r_rounding, .int r_saturated, .long r_choices])), (b_xV, .inl (kI, 128, .inl xV))] none [(b_g, .inr (1, [.ref b_r, .int g_first, .int g_eew, .int g_eighths, .int g_registers, .long g_full])), (b_r, .inr (7, [.ref r_scalars, .ref b_xV, .ref r_type, .int r_length, .int r_start, .int r_rounding, .int r_saturated, .long r_choices])), (b_xV, .inl (kI, 128, .inl (fX2_leaveOpen__xV g_first g_eew g_full r_choices xV u1)))] := by
  refine kM.of (by decide) rfl ?_
  intro p e R s m args below meth c A X _ _ hRt hLk
  refine k_sub [0, 1] (lv' := [(0, .ref b_g), (1, .int u1)]) rfl ?_
  unfold okX2_leaveOpen at hok
  refine k_aload_n X dX2_leaveOpen_0 rfl 0 rfl rfl ?_
  refine k_get X i_wsX20 0 0 q4_21 rfl rfl rfl rfl rfl dX2_leaveOpen_1 rfl ?_
  refine k_iload_n X dX2_leaveOpen_4 rfl 1 rfl rfl ?_
  refine k_cV1 (st := []) (ws' := [(b_g, .inr (1, [.ref b_r, .int g_first, .int g_eew, .int g_eighths, .int g_registers, .long g_full])), (b_r, .inr (7, [.ref r_scalars, .ref b_xV, .ref r_type, .int r_length, .int r_start, .int r_rounding, .int r_saturated, .long r_choices])), (b_xV, .inl (kI, 128, .inl xV))]) (wr := [(b_g, .inr (1, [.ref b_r, .int g_first, .int g_eew, .int g_eighths, .int g_registers, .long g_full])), (b_xV, .inl (kI, 128, .inl xV))]) (ci := 7) (q9 := 0) X [.int u1] 0 [1] [0, 2] [0, 2, 1] (kX8_isChosen l D kI kZ b_r r_scalars b_xV r_type r_length r_start r_rounding r_saturated r_choices u1) vX8_isChosen q11_16 dX2_leaveOpen_5 rfl rfl rfl rfl rfl rfl rfl rfl rfl rfl rfl rfl rfl rfl rfl ?_
  refine k_mid2 [(b_g, .inr (1, [.ref b_r, .int g_first, .int g_eew, .int g_eighths, .int g_registers, .long g_full])), (b_r, .inr (7, [.ref r_scalars, .ref b_xV, .ref r_type, .int r_length, .int r_start, .int r_rounding, .int r_saturated, .long r_choices])), (b_xV, .inl (kI, 128, .inl (pX2_leaveOpen_19_xV g_first g_eew g_full r_choices xV u1)))] [(0, .ref b_g), (1, .int u1)] [] 19 (fun hJ2 => ?_) ?_
  · skip
    refine k_if_eq (tgt := 19) X dX2_leaveOpen_8 (by decide) rfl (fun c1 => ?_) (fun c1 => ?_)
    · skip
      have e3 : (pX2_leaveOpen_19_xV g_first g_eew g_full r_choices xV u1) = xV := by rw [pX2_leaveOpen_19_xV, if_pos c1]
      rw [e3] at hJ2
      exact k_sub [0, 1] rfl hJ2
    refine k_aload_n X dX2_leaveOpen_11 rfl 0 rfl rfl ?_
    refine k_iload_n X dX2_leaveOpen_12 rfl 1 rfl rfl ?_
    refine k_ldc2 X q11_15 dX2_leaveOpen_13 rfl ?_
    refine k_cV0 (st := []) (ws' := [(b_g, .inr (1, [.ref b_r, .int g_first, .int g_eew, .int g_eighths, .int g_registers, .long g_full])), (b_r, .inr (7, [.ref r_scalars, .ref b_xV, .ref r_type, .int r_length, .int r_start, .int r_rounding, .int r_saturated, .long r_choices])), (b_xV, .inl (kI, 128, .inl (fX2_put__xV g_first g_eew g_full xV u1 (-1 : Int64))))]) (wr := []) (ci := 1) (q9 := 0) X [.int u1, .long (-1 : Int64)] 0 [0, 1, 2] [] [0, 1, 2] (kX2_put l D kI kZ b_g b_r b_xV g_first g_eew g_eighths g_registers g_full r_scalars r_type r_length r_start r_rounding r_saturated r_choices xV u1 (-1 : Int64) (hok c1)) vX2_put q11_21 dX2_leaveOpen_16 rfl rfl rfl rfl rfl rfl rfl rfl rfl rfl rfl rfl rfl rfl rfl ?_
    have e4 : (pX2_leaveOpen_19_xV g_first g_eew g_full r_choices xV u1) = (fX2_put__xV g_first g_eew g_full xV u1 (-1 : Int64)) := by rw [pX2_leaveOpen_19_xV, if_neg c1]
    rw [e4] at hJ2
    exact k_sub [0, 1] rfl hJ2
  have e5 : (fX2_leaveOpen__xV g_first g_eew g_full r_choices xV u1) = (pX2_leaveOpen_19_xV g_first g_eew g_full r_choices xV u1) := by rw [fX2_leaveOpen__xV]
  exact k_vret X hRt hLk (by rw [e5]) dX2_leaveOpen_19
theorem vX2_leaveOpen : kVi yX2_leaveOpen cX2_leaveOpen 2 none 1 := ⟨q11_14, q4_7, q11_12, q11_13, by decide, by decide +kernel⟩
noncomputable def tX2_leaveTail_26 (g_eew : Int32) (g_registers : Int32) (w_L4 : Int32) (w_xV : Nat → Int32) : Prop := (if (fX2_capacity g_eew g_registers) ≤ w_L4 then False else True)
noncomputable def bX2_leaveTail_26_L4 (g_eew : Int32) (g_registers : Int32) (w_L4 : Int32) (w_xV : Nat → Int32) : Int32 := (if (fX2_capacity g_eew g_registers) ≤ w_L4 then w_L4 else (w_L4 + (1 : Int32)))
noncomputable def bX2_leaveTail_26_xV (g_first : Int32) (g_eew : Int32) (g_registers : Int32) (g_full : Int64) (r_choices : Int64) (w_L4 : Int32) (w_xV : Nat → Int32) : Nat → Int32 := (if (fX2_capacity g_eew g_registers) ≤ w_L4 then w_xV else (fX2_leaveOpen__xV g_first g_eew g_full r_choices w_xV w_L4))
noncomputable def LX2_leaveTail_26 (g_first : Int32) (g_eew : Int32) (g_registers : Int32) (g_full : Int64) (r_choices : Int64) : Nat → Int32 × (Nat → Int32) → Int32 × (Nat → Int32)
  | 0, s => s
  | n + 1, s => LX2_leaveTail_26 g_first g_eew g_registers g_full r_choices n ((bX2_leaveTail_26_L4 g_eew g_registers s.1 s.2), (bX2_leaveTail_26_xV g_first g_eew g_registers g_full r_choices s.1 s.2))
noncomputable def oX2_leaveTail_26 (g_first : Int32) (g_eew : Int32) (g_registers : Int32) (r_choices : Int64) (w_L4 : Int32) (w_xV : Nat → Int32) : Prop := (¬ ((fX2_capacity g_eew g_registers) ≤ w_L4) → okX2_leaveOpen g_first g_eew r_choices w_L4)
noncomputable def KX2_leaveTail_26 (g_first : Int32) (g_eew : Int32) (g_registers : Int32) (g_full : Int64) (r_choices : Int64) : Nat → Int32 × (Nat → Int32) → Prop
  | 0, _ => True
  | n + 1, s => (tX2_leaveTail_26 g_eew g_registers s.1 s.2 ∧ oX2_leaveTail_26 g_first g_eew g_registers r_choices s.1 s.2) ∧ KX2_leaveTail_26 g_first g_eew g_registers g_full r_choices n ((bX2_leaveTail_26_L4 g_eew g_registers s.1 s.2), (bX2_leaveTail_26_xV g_first g_eew g_registers g_full r_choices s.1 s.2))
theorem itX2_leaveTail_26 (g_first : Int32) (g_eew : Int32) (g_registers : Int32) (g_full : Int64) (r_choices : Int64) {b9 : Nat} (h9 : (fX2_capacity g_eew g_registers) = nI b9) (hb9 : b9 < 2147483648) : ∀ (n a : Nat) (w_xV : Nat → Int32), a + n ≤ b9 → LX2_leaveTail_26 g_first g_eew g_registers g_full r_choices n (nI a, w_xV) = (nI (a + n), itr (fun k s => ((fX2_leaveOpen__xV g_first g_eew g_full r_choices s (nI k)))) n a (w_xV))
  | 0, a, w_xV, _ => rfl
  | n + 1, a, w_xV, h => by
    have hc : ¬ ((fX2_capacity g_eew g_registers) ≤ nI a) := by rw [h9]; exact nI_ge (by omega) hb9
    have e0 : bX2_leaveTail_26_L4 g_eew g_registers (nI a) w_xV = nI (a + 1) := by rw [bX2_leaveTail_26_L4, if_neg hc, nI_1]
    have e1 : bX2_leaveTail_26_xV g_first g_eew g_registers g_full r_choices (nI a) w_xV = (fX2_leaveOpen__xV g_first g_eew g_full r_choices w_xV (nI a)) := by rw [bX2_leaveTail_26_xV, if_neg hc]
    show LX2_leaveTail_26 g_first g_eew g_registers g_full r_choices n (bX2_leaveTail_26_L4 g_eew g_registers (nI a) w_xV, bX2_leaveTail_26_xV g_first g_eew g_registers g_full r_choices (nI a) w_xV) = _
    rw [e0, e1, itX2_leaveTail_26 g_first g_eew g_registers g_full r_choices h9 hb9 n (a + 1) _ (by omega), show a + (n + 1) = a + 1 + n by omega]; rfl
theorem ktX2_leaveTail_26 (g_first : Int32) (g_eew : Int32) (g_registers : Int32) (g_full : Int64) (r_choices : Int64) {b9 : Nat} (h9 : (fX2_capacity g_eew g_registers) = nI b9) (hb9 : b9 < 2147483648) (I : Nat → (Nat → Int32) → Prop) (hI : ∀ (a : Nat) (w_xV : Nat → Int32), I a (w_xV) → a < b9 → oX2_leaveTail_26 g_first g_eew g_registers r_choices (nI a) w_xV ∧ I (a + 1) ((fX2_leaveOpen__xV g_first g_eew g_full r_choices w_xV (nI a)))) : ∀ (n a : Nat) (w_xV : Nat → Int32), a + n ≤ b9 → I a (w_xV) → KX2_leaveTail_26 g_first g_eew g_registers g_full r_choices n (nI a, w_xV)
  | 0, a, w_xV, _, _ => True.intro
  | n + 1, a, w_xV, h, hi => by
    have hc : ¬ ((fX2_capacity g_eew g_registers) ≤ nI a) := by rw [h9]; exact nI_ge (by omega) hb9
    have e0 : bX2_leaveTail_26_L4 g_eew g_registers (nI a) w_xV = nI (a + 1) := by rw [bX2_leaveTail_26_L4, if_neg hc, nI_1]
    have e1 : bX2_leaveTail_26_xV g_first g_eew g_registers g_full r_choices (nI a) w_xV = (fX2_leaveOpen__xV g_first g_eew g_full r_choices w_xV (nI a)) := by rw [bX2_leaveTail_26_xV, if_neg hc]
    obtain ⟨h1, h2⟩ := hI a w_xV hi (by omega)
    show (tX2_leaveTail_26 g_eew g_registers (nI a) w_xV ∧ oX2_leaveTail_26 g_first g_eew g_registers r_choices (nI a) w_xV) ∧ KX2_leaveTail_26 g_first g_eew g_registers g_full r_choices n (bX2_leaveTail_26_L4 g_eew g_registers (nI a) w_xV, bX2_leaveTail_26_xV g_first g_eew g_registers g_full r_choices (nI a) w_xV)
    refine ⟨⟨by rw [tX2_leaveTail_26, if_neg hc]; exact True.intro, h1⟩, ?_⟩
    rw [e0, e1]; exact ktX2_leaveTail_26 g_first g_eew g_registers g_full r_choices h9 hb9 I hI n (a + 1) _ (by omega) h2
theorem ntX2_leaveTail_26 (g_first : Int32) (g_eew : Int32) (g_registers : Int32) (g_full : Int64) (r_choices : Int64) {b9 : Nat} (h9 : (fX2_capacity g_eew g_registers) = nI b9) (hb9 : b9 < 2147483648) (w_xV : Nat → Int32) : ¬ tX2_leaveTail_26 g_eew g_registers (nI b9) w_xV := by rw [tX2_leaveTail_26, if_pos (by rw [h9]; exact Int32.le_refl _)]; exact id
noncomputable def rX2_leaveTail_18__xV (g_first : Int32) (g_eew : Int32) (g_registers : Int32) (g_full : Int64) (r_choices : Int64) (xV : Nat → Int32) (u1 : Int32) : Nat → Int32 := (LX2_leaveTail_26 g_first g_eew g_registers g_full r_choices (cnt u1 (fX2_capacity g_eew g_registers)) (u1, xV)).2
noncomputable def fX2_leaveTail__xV (g_first : Int32) (g_eew : Int32) (g_registers : Int32) (g_full : Int64) (r_choices : Int64) (xV : Nat → Int32) (t_tailOpen : Int32) (u1 : Int32) (u2 : Int32) : Nat → Int32 := (if u2 = (0 : Int32) then (if t_tailOpen = (0 : Int32) then xV else (rX2_leaveTail_18__xV g_first g_eew g_registers g_full r_choices xV u1)) else (rX2_leaveTail_18__xV g_first g_eew g_registers g_full r_choices xV u1))
noncomputable def okX2_leaveTail (g_first : Int32) (g_eew : Int32) (g_registers : Int32) (g_full : Int64) (r_choices : Int64) (xV : Nat → Int32) (u1 : Int32) : Prop := (okX2_capacity g_eew) ∧ (KX2_leaveTail_26 g_first g_eew g_registers g_full r_choices (cnt u1 (fX2_capacity g_eew g_registers)) (u1, xV)) ∧ (¬ (tX2_leaveTail_26 g_eew g_registers ((LX2_leaveTail_26 g_first g_eew g_registers g_full r_choices (cnt u1 (fX2_capacity g_eew g_registers)) (u1, xV)).1) ((LX2_leaveTail_26 g_first g_eew g_registers g_full r_choices (cnt u1 (fX2_capacity g_eew g_registers)) (u1, xV)).2))) ∧ (¬ ((fX2_capacity g_eew g_registers) ≤ (LX2_leaveTail_26 g_first g_eew g_registers g_full r_choices (cnt u1 (fX2_capacity g_eew g_registers)) (u1, xV)).1) → okX2_leaveOpen g_first g_eew r_choices ((LX2_leaveTail_26 g_first g_eew g_registers g_full r_choices (cnt u1 (fX2_capacity g_eew g_registers)) (u1, xV)).1))
set_option maxRecDepth 100000 in
set_option maxHeartbeats 4000000 in
theorem kX2_leaveTail (l : Launch) (D : va_G) (kI kZ : ClassId) (b_g : Nat) (b_r : Nat) (b_xV : Nat) (b_t : Nat) (g_first : Int32) (g_eew : Int32) (g_eighths : Int32) (g_registers : Int32) (g_full : Int64) (r_scalars : Nat) (r_length : Int32) (r_start : Int32) (r_rounding : Int32) (r_saturated : Int32) (r_choices : Int64) (xV : Nat → Int32) (t_bits : Int32) (t_sew : Int32) (t_eighths : Int32) (t_most : Int32) (t_tailOpen : Int32) (t_maskedOpen : Int32) (u1 : Int32) (u2 : Int32) (hok : okX2_leaveTail g_first g_eew g_registers g_full r_choices xV u1) : kM l yX2_leaveTail cX2_leaveTail 5 none 2 32 0 0 D [(kI, .int), (kZ, .boolean)] [.ref b_g, .int u1, .int u2] [(b_g, .inr (1, [.ref b_r, .int g_first, .int g_eew, .int g_eighths, .int g_registers, .long g_full])), (b_r, .inr (7, [.ref r_scalars, .ref b_xV, .ref b_t, .int r_length, .int r_start, .int r_rounding, .int r_saturated, .long r_choices])), (b_xV, .inl (kI, 128, .inl xV)), (b_t, .inr (8, [.int t_bits, .int t_sew, .int t_eighths, .int t_most, .int t_tailOpen, .int t_maskedOpen]))] none [(b_g, .inr (1, [.ref b_r, .int g_first, .int g_eew, .int g_eighths, .int g_registers, .long g_full])), (b_r, .inr (7, [.ref r_scalars, .ref b_xV, .ref b_t, .int r_length, .int r_start, .int r_rounding, .int r_saturated, .long r_choices])), (b_xV, .inl (kI, 128, .inl (fX2_leaveTail__xV g_first g_eew g_registers g_full r_choices xV t_tailOpen u1 u2))), (b_t, .inr (8, [.int t_bits, .int t_sew, .int t_eighths, .int t_most, .int t_tailOpen, .int t_maskedOpen]))] := by
  refine kM.of (by decide) rfl ?_
  intro p e R s m args below meth c A X _ _ hRt hLk
  refine k_sub [0, 1, 2] (lv' := [(0, .ref b_g), (1, .int u1), (2, .int u2)]) rfl ?_
  unfold okX2_leaveTail at hok
  refine k_iload_n X dX2_leaveTail_0 rfl 2 rfl rfl ?_
  refine k_midR none [(b_g, .inr (1, [.ref b_r, .int g_first, .int g_eew, .int g_eighths, .int g_registers, .long g_full])), (b_r, .inr (7, [.ref r_scalars, .ref b_xV, .ref b_t, .int r_length, .int r_start, .int r_rounding, .int r_saturated, .long r_choices])), (b_xV, .inl (kI, 128, .inl (rX2_leaveTail_18__xV g_first g_eew g_registers g_full r_choices xV u1))), (b_t, .inr (8, [.int t_bits, .int t_sew, .int t_eighths, .int t_most, .int t_tailOpen, .int t_maskedOpen]))] [(b_g, .inr (1, [.ref b_r, .int g_first, .int g_eew, .int g_eighths, .int g_registers, .long g_full])), (b_r, .inr (7, [.ref r_scalars, .ref b_xV, .ref b_t, .int r_length, .int r_start, .int r_rounding, .int r_saturated, .long r_choices])), (b_xV, .inl (kI, 128, .inl xV)), (b_t, .inr (8, [.int t_bits, .int t_sew, .int t_eighths, .int t_most, .int t_tailOpen, .int t_maskedOpen]))] [(0, .ref b_g), (1, .int u1), (2, .int u2)] [] 18 (fun hJ3 => ?_) ?_
  · skip
    refine k_if_ne (tgt := 18) X dX2_leaveTail_1 (by decide) rfl (fun c1 => ?_) (fun c1 => ?_)
    · skip
      refine k_aload_n X dX2_leaveTail_4 rfl 0 rfl rfl ?_
      refine k_get X i_wsX20 0 0 q4_21 rfl rfl rfl rfl rfl dX2_leaveTail_5 rfl ?_
      refine k_get X i_wsX80 1 2 q13_15 rfl rfl rfl rfl rfl dX2_leaveTail_8 rfl ?_
      refine k_get X i_wsX90 3 4 q13_16 rfl rfl rfl rfl rfl dX2_leaveTail_11 rfl ?_
      refine k_if_ne (tgt := 18) X dX2_leaveTail_14 (by decide) rfl (fun c2 => ?_) (fun c2 => ?_)
      · skip
        have e6 : (fX2_leaveTail__xV g_first g_eew g_registers g_full r_choices xV t_tailOpen u1 u2) = xV := by rw [fX2_leaveTail__xV, if_pos c1, if_pos c2]
        exact k_vret X hRt hLk (by rw [e6]) dX2_leaveTail_17
      have e7 : (fX2_leaveTail__xV g_first g_eew g_registers g_full r_choices xV t_tailOpen u1 u2) = (rX2_leaveTail_18__xV g_first g_eew g_registers g_full r_choices xV u1) := by rw [fX2_leaveTail__xV, if_pos c1, if_neg c2]
      rw [e7]
      exact k_sub [0, 1, 2] rfl hJ3
    have e8 : (fX2_leaveTail__xV g_first g_eew g_registers g_full r_choices xV t_tailOpen u1 u2) = (rX2_leaveTail_18__xV g_first g_eew g_registers g_full r_choices xV u1) := by rw [fX2_leaveTail__xV, if_neg c1]
    rw [e8]
    exact k_sub [0, 1, 2] rfl hJ3
  refine k_aload_n X dX2_leaveTail_18 rfl 0 rfl rfl ?_
  refine k_cV1 (st := []) (ws' := [(b_g, .inr (1, [.ref b_r, .int g_first, .int g_eew, .int g_eighths, .int g_registers, .long g_full])), (b_r, .inr (7, [.ref r_scalars, .ref b_xV, .ref b_t, .int r_length, .int r_start, .int r_rounding, .int r_saturated, .long r_choices])), (b_xV, .inl (kI, 128, .inl xV)), (b_t, .inr (8, [.int t_bits, .int t_sew, .int t_eighths, .int t_most, .int t_tailOpen, .int t_maskedOpen]))]) (wr := [(b_r, .inr (7, [.ref r_scalars, .ref b_xV, .ref b_t, .int r_length, .int r_start, .int r_rounding, .int r_saturated, .long r_choices])), (b_xV, .inl (kI, 128, .inl xV)), (b_t, .inr (8, [.int t_bits, .int t_sew, .int t_eighths, .int t_most, .int t_tailOpen, .int t_maskedOpen]))]) (ci := 1) (q9 := 0) X [] 0 [0] [1, 2, 3] [3, 0, 1, 2] (kX2_capacity l D kI kZ b_g b_r g_first g_eew g_eighths g_registers g_full (hok.1)) vX2_capacity q13_17 dX2_leaveTail_19 rfl rfl rfl rfl rfl rfl rfl rfl rfl rfl rfl rfl rfl rfl rfl ?_
  refine k_istore_n (lv' := [(3, .int (fX2_capacity g_eew g_registers)), (0, .ref b_g), (1, .int u1), (2, .int u2)]) X dX2_leaveTail_22 rfl rfl rfl rfl ?_
  refine k_iload_n X dX2_leaveTail_23 rfl 2 rfl rfl ?_
  refine k_istore (lv' := [(4, .int u1), (3, .int (fX2_capacity g_eew g_registers)), (0, .ref b_g), (1, .int u1), (2, .int u2)]) X dX2_leaveTail_24 rfl rfl rfl ?_
  refine k_sub [2, 3, 4, 1, 0] (lv' := [(0, .ref b_g), (1, .int u1), (2, .int u2), (3, .int (fX2_capacity g_eew g_registers)), (4, .int u1)]) rfl ?_
  refine k_loop (KX2_leaveTail_26 g_first g_eew g_registers g_full r_choices) (LX2_leaveTail_26 g_first g_eew g_registers g_full r_choices) (fun s9 => (bX2_leaveTail_26_L4 g_eew g_registers s9.1 s9.2, bX2_leaveTail_26_xV g_first g_eew g_registers g_full r_choices s9.1 s9.2)) (fun s9 => tX2_leaveTail_26 g_eew g_registers s9.1 s9.2 ∧ oX2_leaveTail_26 g_first g_eew g_registers r_choices s9.1 s9.2) (fun s9 => [(b_g, .inr (1, [.ref b_r, .int g_first, .int g_eew, .int g_eighths, .int g_registers, .long g_full])), (b_r, .inr (7, [.ref r_scalars, .ref b_xV, .ref b_t, .int r_length, .int r_start, .int r_rounding, .int r_saturated, .long r_choices])), (b_xV, .inl (kI, 128, .inl s9.2)), (b_t, .inr (8, [.int t_bits, .int t_sew, .int t_eighths, .int t_most, .int t_tailOpen, .int t_maskedOpen]))]) (fun s9 => [(0, .ref b_g), (1, .int u1), (2, .int u2), (3, .int (fX2_capacity g_eew g_registers)), (4, .int s9.1)]) 26 (fun _ => rfl) (fun _ _ => rfl) (fun _ _ h => h) ?_ (cnt u1 (fX2_capacity g_eew g_registers)) (u1, xV) (hok.2.1) ?_
  · rintro ⟨w_L4, w_xV⟩ ⟨hlat, hob⟩ g0
    try dsimp only at hlat hob g0 ⊢
    unfold oX2_leaveTail_26 at hob
    refine k_iload X dX2_leaveTail_26 4 rfl rfl ?_
    refine k_iload_n X dX2_leaveTail_28 rfl 3 rfl rfl ?_
    refine k_icmp_ge (tgt := 44) X dX2_leaveTail_29 (by decide) rfl (fun c4 => ?_) (fun c4 => ?_)
    · skip
      exact absurd hlat (by rw [tX2_leaveTail_26, if_pos c4]; exact id)
    refine k_aload_n X dX2_leaveTail_32 rfl 0 rfl rfl ?_
    refine k_iload X dX2_leaveTail_33 4 rfl rfl ?_
    refine k_cV0 (st := []) (ws' := [(b_g, .inr (1, [.ref b_r, .int g_first, .int g_eew, .int g_eighths, .int g_registers, .long g_full])), (b_r, .inr (7, [.ref r_scalars, .ref b_xV, .ref b_t, .int r_length, .int r_start, .int r_rounding, .int r_saturated, .long r_choices])), (b_xV, .inl (kI, 128, .inl (fX2_leaveOpen__xV g_first g_eew g_full r_choices w_xV w_L4))), (b_t, .inr (8, [.int t_bits, .int t_sew, .int t_eighths, .int t_most, .int t_tailOpen, .int t_maskedOpen]))]) (wr := [(b_t, .inr (8, [.int t_bits, .int t_sew, .int t_eighths, .int t_most, .int t_tailOpen, .int t_maskedOpen]))]) (ci := 1) (q9 := 0) X [.int w_L4] 0 [0, 1, 2] [3] [1, 2, 3, 0] (kX2_leaveOpen l D kI kZ b_g b_r b_xV g_first g_eew g_eighths g_registers g_full r_scalars b_t r_length r_start r_rounding r_saturated r_choices w_xV w_L4 (hob c4)) vX2_leaveOpen q13_18 dX2_leaveTail_35 rfl rfl rfl rfl rfl rfl rfl rfl rfl rfl rfl rfl rfl rfl rfl ?_
    refine k_iinc (lv' := [(4, .int (w_L4 + (1 : Int32))), (0, .ref b_g), (1, .int u1), (2, .int u2), (3, .int (fX2_capacity g_eew g_registers))]) X dX2_leaveTail_38 4 rfl kc_i_1 rfl rfl rfl ?_
    refine k_goto (tgt := 26) X dX2_leaveTail_41 (by decide) ?_
    have e9 : bX2_leaveTail_26_L4 g_eew g_registers w_L4 w_xV = (w_L4 + (1 : Int32)) := by rw [bX2_leaveTail_26_L4, if_neg c4]
    rw [e9] at g0
    have e10 : bX2_leaveTail_26_xV g_first g_eew g_registers g_full r_choices w_L4 w_xV = (fX2_leaveOpen__xV g_first g_eew g_full r_choices w_xV w_L4) := by rw [bX2_leaveTail_26_xV, if_neg c4]
    rw [e10] at g0
    exact k_sub [1, 2, 3, 4, 0] rfl g0
  try dsimp only
  refine k_iload X dX2_leaveTail_26 4 rfl rfl ?_
  refine k_iload_n X dX2_leaveTail_28 rfl 3 rfl rfl ?_
  refine k_icmp_ge (tgt := 44) X dX2_leaveTail_29 (by decide) rfl (fun c5 => ?_) (fun c5 => ?_)
  · skip
    have e11 : (rX2_leaveTail_18__xV g_first g_eew g_registers g_full r_choices xV u1) = (LX2_leaveTail_26 g_first g_eew g_registers g_full r_choices (cnt u1 (fX2_capacity g_eew g_registers)) (u1, xV)).2 := by rw [rX2_leaveTail_18__xV]
    exact k_vret X hRt hLk (by rw [e11]) dX2_leaveTail_44
  refine k_aload_n X dX2_leaveTail_32 rfl 0 rfl rfl ?_
  refine k_iload X dX2_leaveTail_33 4 rfl rfl ?_
  refine k_cV0 (st := []) (ws' := [(b_g, .inr (1, [.ref b_r, .int g_first, .int g_eew, .int g_eighths, .int g_registers, .long g_full])), (b_r, .inr (7, [.ref r_scalars, .ref b_xV, .ref b_t, .int r_length, .int r_start, .int r_rounding, .int r_saturated, .long r_choices])), (b_xV, .inl (kI, 128, .inl (fX2_leaveOpen__xV g_first g_eew g_full r_choices ((LX2_leaveTail_26 g_first g_eew g_registers g_full r_choices (cnt u1 (fX2_capacity g_eew g_registers)) (u1, xV)).2) ((LX2_leaveTail_26 g_first g_eew g_registers g_full r_choices (cnt u1 (fX2_capacity g_eew g_registers)) (u1, xV)).1)))), (b_t, .inr (8, [.int t_bits, .int t_sew, .int t_eighths, .int t_most, .int t_tailOpen, .int t_maskedOpen]))]) (wr := [(b_t, .inr (8, [.int t_bits, .int t_sew, .int t_eighths, .int t_most, .int t_tailOpen, .int t_maskedOpen]))]) (ci := 1) (q9 := 0) X [.int ((LX2_leaveTail_26 g_first g_eew g_registers g_full r_choices (cnt u1 (fX2_capacity g_eew g_registers)) (u1, xV)).1)] 0 [0, 1, 2] [3] [1, 2, 3, 0] (kX2_leaveOpen l D kI kZ b_g b_r b_xV g_first g_eew g_eighths g_registers g_full r_scalars b_t r_length r_start r_rounding r_saturated r_choices ((LX2_leaveTail_26 g_first g_eew g_registers g_full r_choices (cnt u1 (fX2_capacity g_eew g_registers)) (u1, xV)).2) ((LX2_leaveTail_26 g_first g_eew g_registers g_full r_choices (cnt u1 (fX2_capacity g_eew g_registers)) (u1, xV)).1) (hok.2.2.2 c5)) vX2_leaveOpen q13_18 dX2_leaveTail_35 rfl rfl rfl rfl rfl rfl rfl rfl rfl rfl rfl rfl rfl rfl rfl ?_
  refine k_iinc (lv' := [(4, .int ((LX2_leaveTail_26 g_first g_eew g_registers g_full r_choices (cnt u1 (fX2_capacity g_eew g_registers)) (u1, xV)).1 + (1 : Int32))), (0, .ref b_g), (1, .int u1), (2, .int u2), (3, .int (fX2_capacity g_eew g_registers))]) X dX2_leaveTail_38 4 rfl kc_i_1 rfl rfl rfl ?_
  refine k_goto (tgt := 26) X dX2_leaveTail_41 (by decide) ?_
  exact absurd (show tX2_leaveTail_26 g_eew g_registers ((LX2_leaveTail_26 g_first g_eew g_registers g_full r_choices (cnt u1 (fX2_capacity g_eew g_registers)) (u1, xV)).1) ((LX2_leaveTail_26 g_first g_eew g_registers g_full r_choices (cnt u1 (fX2_capacity g_eew g_registers)) (u1, xV)).2) from by rw [tX2_leaveTail_26, if_neg c5]; exact True.intro) (hok.2.2.1)
theorem vX2_leaveTail : kVi yX2_leaveTail cX2_leaveTail 5 none 2 := ⟨q13_14, q4_7, q13_12, q13_13, by decide, by decide +kernel⟩
