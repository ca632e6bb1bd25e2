noncomputable def eX11_get_46 (zO : Nat → Int32) (u1 : Int32) (u2 : Int32) (u3 : Int32) (w_L4 : Int64) (w_L7 : Int32) : Int64 := ((lshl w_L4 (8 : Int32)) ||| (Int32.toInt64 (zO (Int32.toNatClampNeg ((((16 : Int32) * u1) + ((u3 * u2) / (8 : Int32))) + w_L7)))))
noncomputable def tX11_get_24 (w_L4 : Int64) (w_L7 : Int32) : Prop := (if w_L7 < (0 : Int32) then False else True)
noncomputable def bX11_get_24_L4 (zO : Nat → Int32) (u1 : Int32) (u2 : Int32) (u3 : Int32) (w_L4 : Int64) (w_L7 : Int32) : Int64 := (if w_L7 < (0 : Int32) then w_L4 else (eX11_get_46 zO u1 u2 u3 w_L4 w_L7))
noncomputable def bX11_get_24_L7 (w_L4 : Int64) (w_L7 : Int32) : Int32 := (if w_L7 < (0 : Int32) then w_L7 else (w_L7 + (-1 : Int32)))
noncomputable def LX11_get_24 (zO : Nat → Int32) (u1 : Int32) (u2 : Int32) (u3 : Int32) : Nat → Int64 × Int32 → Int64 × Int32
  | 0, s => s
  | n + 1, s => LX11_get_24 zO u1 u2 u3 n ((bX11_get_24_L4 zO u1 u2 u3 s.1 s.2), (bX11_get_24_L7 s.1 s.2))
noncomputable def oX11_get_24 (u1 : Int32) (u2 : Int32) (u3 : Int32) (w_L4 : Int64) (w_L7 : Int32) : Prop := (¬ (w_L7 < (0 : Int32)) → vp_in ((((16 : Int32) * u1) + ((u3 * u2) / (8 : Int32))) + w_L7) 512)
noncomputable def KX11_get_24 (zO : Nat → Int32) (u1 : Int32) (u2 : Int32) (u3 : Int32) : Nat → Int64 × Int32 → Prop
  | 0, _ => True
  | n + 1, s => (tX11_get_24 s.1 s.2 ∧ oX11_get_24 u1 u2 u3 s.1 s.2) ∧ KX11_get_24 zO u1 u2 u3 n ((bX11_get_24_L4 zO u1 u2 u3 s.1 s.2), (bX11_get_24_L7 s.1 s.2))
noncomputable def fX11_get (zO : Nat → Int32) (u1 : Int32) (u2 : Int32) (u3 : Int32) : Int64 := (LX11_get_24 zO u1 u2 u3 ((Int32.toInt ((u2 / (8 : Int32)) - (1 : Int32)) + 1).toNat) ((0 : Int64), ((u2 / (8 : Int32)) - (1 : Int32)))).1
noncomputable def okX11_get (zO : Nat → Int32) (u1 : Int32) (u2 : Int32) (u3 : Int32) : Prop := (KX11_get_24 zO u1 u2 u3 ((Int32.toInt ((u2 / (8 : Int32)) - (1 : Int32)) + 1).toNat) ((0 : Int64), ((u2 / (8 : Int32)) - (1 : Int32)))) ∧ (¬ (tX11_get_24 ((LX11_get_24 zO u1 u2 u3 ((Int32.toInt ((u2 / (8 : Int32)) - (1 : Int32)) + 1).toNat) ((0 : Int64), ((u2 / (8 : Int32)) - (1 : Int32)))).1) ((LX11_get_24 zO u1 u2 u3 ((Int32.toInt ((u2 / (8 : Int32)) - (1 : Int32)) + 1).toNat) ((0 : Int64), ((u2 / (8 : Int32)) - (1 : Int32)))).2))) ∧ (¬ ((LX11_get_24 zO u1 u2 u3 ((Int32.toInt ((u2 / (8 : Int32)) - (1 : Int32)) + 1).toNat) ((0 : Int64), ((u2 / (8 : Int32)) - (1 : Int32)))).2 < (0 : Int32)) → vp_in ((((16 : Int32) * u1) + ((u3 * u2) / (8 : Int32))) + (LX11_get_24 zO u1 u2 u3 ((Int32.toInt ((u2 / (8 : Int32)) - (1 : Int32)) + 1).toNat) ((0 : Int64), ((u2 / (8 : Int32)) - (1 : Int32)))).2) 512)
set_option maxRecDepth 100000 in
set_option maxHeartbeats 4000000 in
theorem kX11_get (l : Launch) (D : va_G) (kI kZ : ClassId) (b_m : Nat) (b_zO : Nat) (m_thrown : Int32) (m_x : Nat) (m_v : Nat) (m_memory : Nat) (m_shut : Nat) (m_choices : Int64) (m_vl : Int32) (m_vtype : Int32) (m_vstart : Int32) (m_vxrm : Int32) (m_vxsat : Int32) (m_done : Int32) (m_illegal : Int32) (m_traps : Int32) (m_trapAddress : Int32) (m_word : Int32) (m_vd : Int32) (m_vs1 : Int32) (m_vs2 : Int32) (m_f3 : Int32) (m_f6 : Int32) (m_sew : Int32) (m_l8 : Int32) (m_unmasked : Int32) (zO : Nat → Int32) (u1 : Int32) (u2 : Int32) (u3 : Int32) (hok : okX11_get zO u1 u2 u3) : kM l yX11_get cX11_get 8 (some .long) 0 0 0 0 D [(kI, .int), (kZ, .boolean)] [.ref b_m, .int u1, .int u2, .int u3] [(b_m, .inr (10, [.int m_thrown, .ref m_x, .ref m_v, .ref b_zO, .ref m_memory, .ref m_shut, .long m_choices, .int m_vl, .int m_vtype, .int m_vstart, .int m_vxrm, .int m_vxsat, .int m_done, .int m_illegal, .int m_traps, .int m_trapAddress, .int m_word, .int m_vd, .int m_vs1, .int m_vs2, .int m_f3, .int m_f6, .int m_sew, .int m_l8, .int m_unmasked])), (b_zO, .inl (kI, 512, .inl zO))] (some (.long (fX11_get zO u1 u2 u3))) [(b_m, .inr (10, [.int m_thrown, .ref m_x, .ref m_v, .ref b_zO, .ref m_memory, .ref m_shut, .long m_choices, .int m_vl, .int m_vtype, .int m_vstart, .int m_vxrm, .int m_vxsat, .int m_done, .int m_illegal, .int m_traps, .int m_trapAddress, .int m_word, .int m_vd, .int m_vs1, .int m_vs2, .int m_f3, .int m_f6, .int m_sew, .int m_l8, .int m_unmasked])), (b_zO, .inl (kI, 512, .inl zO))] := by
  refine kM.of (by decide) rfl ?_
  intro p e R s m args below meth c A X _ _ hRt hLk
  refine k_sub [0, 1, 2, 3] (lv' := [(0, .ref b_m), (1, .int u1), (2, .int u2), (3, .int u3)]) rfl ?_
  unfold okX11_get at hok
  refine k_lconst (v := (0 : Int64)) X dX11_get_0 rfl rfl ?_
  refine k_lstore (lv' := [(4, .long (0 : Int64)), (0, .ref b_m), (1, .int u1), (2, .int u2), (3, .int u3)]) X dX11_get_1 rfl rfl rfl ?_
  refine k_bipush X dX11_get_3 kc_b_16 rfl ?_
  refine k_iload_n X dX11_get_5 rfl 2 rfl rfl ?_
  refine k_imul X dX11_get_6 rfl ?_
  refine k_iload_n X dX11_get_7 rfl 4 rfl rfl ?_
  refine k_iload_n X dX11_get_8 rfl 3 rfl rfl ?_
  refine k_imul X dX11_get_9 rfl ?_
  refine k_bipush X dX11_get_10 kc_b_8 rfl ?_
  refine k_idiv X dX11_get_12 (by decide) rfl ?_
  refine k_iadd X dX11_get_13 rfl ?_
  refine k_istore (lv' := [(6, .int (((16 : Int32) * u1) + ((u3 * u2) / (8 : Int32)))), (4, .long (0 : Int64)), (0, .ref b_m), (1, .int u1), (2, .int u2), (3, .int u3)]) X dX11_get_14 rfl rfl rfl ?_
  refine k_iload_n X dX11_get_16 rfl 4 rfl rfl ?_
  refine k_bipush X dX11_get_17 kc_b_8 rfl ?_
  refine k_idiv X dX11_get_19 (by decide) rfl ?_
  refine k_iconst X dX11_get_20 kc_i_1 rfl ?_
  refine k_isub X dX11_get_21 rfl ?_
  refine k_istore (lv' := [(7, .int ((u2 / (8 : Int32)) - (1 : Int32))), (6, .int (((16 : Int32) * u1) + ((u3 * u2) / (8 : Int32)))), (4, .long (0 : Int64)), (0, .ref b_m), (1, .int u1), (2, .int u2), (3, .int u3)]) X dX11_get_22 rfl rfl rfl ?_
  refine k_sub [3, 4, 5, 6, 2, 1, 0] (lv' := [(0, .ref b_m), (1, .int u1), (2, .int u2), (3, .int u3), (4, .long (0 : Int64)), (6, .int (((16 : Int32) * u1) + ((u3 * u2) / (8 : Int32)))), (7, .int ((u2 / (8 : Int32)) - (1 : Int32)))]) rfl ?_
  refine k_loop (KX11_get_24 zO u1 u2 u3) (LX11_get_24 zO u1 u2 u3) (fun s9 => (bX11_get_24_L4 zO u1 u2 u3 s9.1 s9.2, bX11_get_24_L7 s9.1 s9.2)) (fun s9 => tX11_get_24 s9.1 s9.2 ∧ oX11_get_24 u1 u2 u3 s9.1 s9.2) (fun s9 => [(b_m, .inr (10, [.int m_thrown, .ref m_x, .ref m_v, .ref b_zO, .ref m_memory, .ref m_shut, .long m_choices, .int m_vl, .int m_vtype, .int m_vstart, .int m_vxrm, .int m_vxsat, .int m_done, .int m_illegal, .int m_traps, .int m_trapAddress, .int m_word, .int m_vd, .int m_vs1, .int m_vs2, .int m_f3, .int m_f6, .int m_sew, .int m_l8, .int m_unmasked])), (b_zO, .inl (kI, 512, .inl zO))]) (fun s9 => [(0, .ref b_m), (1, .int u1), (2, .int u2), (3, .int u3), (4, .long s9.1), (6, .int (((16 : Int32) * u1) + ((u3 * u2) / (8 : Int32)))), (7, .int s9.2)]) 24 (fun _ => rfl) (fun _ _ => rfl) (fun _ _ h => h) ?_ ((Int32.toInt ((u2 / (8 : Int32)) - (1 : Int32)) + 1).toNat) ((0 : Int64), ((u2 / (8 : Int32)) - (1 : Int32))) (hok.1) ?_
  · rintro ⟨w_L4, w_L7⟩ ⟨hlat, hob⟩ g0
    try dsimp only at hlat hob g0 ⊢
    unfold oX11_get_24 at hob
    refine k_iload X dX11_get_24 6 rfl rfl ?_
    refine k_if_lt (tgt := 54) X dX11_get_26 (by decide) rfl (fun c1 => ?_) (fun c1 => ?_)
    · skip
      exact absurd hlat (by rw [tX11_get_24, if_pos c1]; exact id)
    refine k_lload X dX11_get_29 4 rfl rfl ?_
    refine k_bipush X dX11_get_31 kc_b_8 rfl ?_
    refine k_lshl X dX11_get_33 rfl ?_
    refine k_aload_n X dX11_get_34 rfl 0 rfl rfl ?_
    refine k_get X i_wsX110 0 3 q5_19 rfl rfl rfl rfl rfl dX11_get_35 rfl ?_
    refine k_iload X dX11_get_38 5 rfl rfl ?_
    refine k_iload X dX11_get_40 6 rfl rfl ?_
    refine k_iadd X dX11_get_42 rfl ?_
    refine k_iald X 1 0 rfl rfl (hob c1) dX11_get_43 rfl ?_
    refine k_i2l X dX11_get_44 rfl ?_
    refine k_lor X dX11_get_45 rfl ?_
    refine k_foldl (v := (eX11_get_46 zO u1 u2 u3 w_L4 w_L7)) rfl ?_
    refine k_lstore (lv' := [(4, .long (eX11_get_46 zO u1 u2 u3 w_L4 w_L7)), (0, .ref b_m), (1, .int u1), (2, .int u2), (3, .int u3), (6, .int (((16 : Int32) * u1) + ((u3 * u2) / (8 : Int32)))), (7, .int w_L7)]) X dX11_get_46 rfl rfl rfl ?_
    refine k_iinc (lv' := [(7, .int (w_L7 + (-1 : Int32))), (4, .long (eX11_get_46 zO u1 u2 u3 w_L4 w_L7)), (0, .ref b_m), (1, .int u1), (2, .int u2), (3, .int u3), (6, .int (((16 : Int32) * u1) + ((u3 * u2) / (8 : Int32))))]) X dX11_get_48 6 rfl kc_i_m1 rfl rfl rfl ?_
    refine k_goto (tgt := 24) X dX11_get_51 (by decide) ?_
    have e3 : bX11_get_24_L4 zO u1 u2 u3 w_L4 w_L7 = (eX11_get_46 zO u1 u2 u3 w_L4 w_L7) := by rw [bX11_get_24_L4, if_neg c1]
    rw [e3] at g0
    have e4 : bX11_get_24_L7 w_L4 w_L7 = (w_L7 + (-1 : Int32)) := by rw [bX11_get_24_L7, if_neg c1]
    rw [e4] at g0
    exact k_sub [2, 3, 4, 5, 1, 6, 0] rfl g0
  try dsimp only
  refine k_iload X dX11_get_24 6 rfl rfl ?_
  refine k_if_lt (tgt := 54) X dX11_get_26 (by decide) rfl (fun c2 => ?_) (fun c2 => ?_)
  · skip
    refine k_lload X dX11_get_54 4 rfl rfl ?_
    have e5 : (fX11_get zO u1 u2 u3) = (LX11_get_24 zO u1 u2 u3 ((Int32.toInt ((u2 / (8 : Int32)) - (1 : Int32)) + 1).toNat) ((0 : Int64), ((u2 / (8 : Int32)) - (1 : Int32)))).1 := by rw [fX11_get]
    exact k_lret9 X hRt hLk e5.symm rfl dX11_get_56
  refine k_lload X dX11_get_29 4 rfl rfl ?_
  refine k_bipush X dX11_get_31 kc_b_8 rfl ?_
  refine k_lshl X dX11_get_33 rfl ?_
  refine k_aload_n X dX11_get_34 rfl 0 rfl rfl ?_
  refine k_get X i_wsX110 0 3 q5_19 rfl rfl rfl rfl rfl dX11_get_35 rfl ?_
  refine k_iload X dX11_get_38 5 rfl rfl ?_
  refine k_iload X dX11_get_40 6 rfl rfl ?_
  refine k_iadd X dX11_get_42 rfl ?_
  refine k_iald X 1 0 rfl rfl (hok.2.2 c2) dX11_get_43 rfl ?_
  refine k_i2l X dX11_get_44 rfl ?_
  refine k_lor X dX11_get_45 rfl ?_
  refine k_foldl (v := (eX11_get_46 zO u1 u2 u3 ((LX11_get_24 zO u1 u2 u3 ((Int32.toInt ((u2 / (8 : Int32)) - (1 : Int32)) + 1).toNat) ((0 : Int64), ((u2 / (8 : Int32)) - (1 : Int32)))).1) ((LX11_get_24 zO u1 u2 u3 ((Int32.toInt ((u2 / (8 : Int32)) - (1 : Int32)) + 1).toNat) ((0 : Int64), ((u2 / (8 : Int32)) - (1 : Int32)))).2))) rfl ?_
  refine k_lstore (lv' := [(4, .long (eX11_get_46 zO u1 u2 u3 ((LX11_get_24 zO u1 u2 u3 ((Int32.toInt ((u2 / (8 : Int32)) - (1 : Int32)) + 1).toNat) ((0 : Int64), ((u2 / (8 : Int32)) - (1 : Int32)))).1) ((LX11_get_24 zO u1 u2 u3 ((Int32.toInt ((u2 / (8 : Int32)) - (1 : Int32)) + 1).toNat) ((0 : Int64), ((u2 / (8 : Int32)) - (1 : Int32)))).2))), (0, .ref b_m), (1, .int u1), (2, .int u2), (3, .int u3), (6, .int (((16 : Int32) * u1) + ((u3 * u2) / (8 : Int32)))), (7, .int ((LX11_get_24 zO u1 u2 u3 ((Int32.toInt ((u2 / (8 : Int32)) - (1 : Int32)) + 1).toNat) ((0 : Int64), ((u2 / (8 : Int32)) - (1 : Int32)))).2))]) X dX11_get_46 rfl rfl rfl ?_
  refine k_iinc (lv' := [(7, .int ((LX11_get_24 zO u1 u2 u3 ((Int32.toInt ((u2 / (8 : Int32)) - (1 : Int32)) + 1).toNat) ((0 : Int64), ((u2 / (8 : Int32)) - (1 : Int32)))).2 + (-1 : Int32))), (4, .long (eX11_get_46 zO u1 u2 u3 ((LX11_get_24 zO u1 u2 u3 ((Int32.toInt ((u2 / (8 : Int32)) - (1 : Int32)) + 1).toNat) ((0 : Int64), ((u2 / (8 : Int32)) - (1 : Int32)))).1) ((LX11_get_24 zO u1 u2 u3 ((Int32.toInt ((u2 / (8 : Int32)) - (1 : Int32)) + 1).toNat) ((0 : Int64), ((u2 / (8 : Int32)) - (1 : Int32)))).2))), (0, .ref b_m), (1, .int u1), (2, .int u2), (3, .int u3), (6, .int (((16 : Int32) * u1) + ((u3 * u2) / (8 : Int32))))]) X dX11_get_48 6 rfl kc_i_m1 rfl rfl rfl ?_
  refine k_goto (tgt := 24) X dX11_get_51 (by decide) ?_
  exact absurd (show tX11_get_24 ((LX11_get_24 zO u1 u2 u3 ((Int32.toInt ((u2 / (8 : Int32)) - (1 : Int32)) + 1).toNat) ((0 : Int64), ((u2 / (8 : Int32)) - (1 : Int32)))).1) ((LX11_get_24 zO u1 u2 u3 ((Int32.toInt ((u2 / (8 : Int32)) - (1 : Int32)) + 1).toNat) ((0 : Int64), ((u2 / (8 : Int32)) - (1 : Int32)))).2) from by rw [tX11_get_24, if_neg c2]; exact True.intro) (hok.2.1)
theorem vX11_get : kVi yX11_get cX11_get 8 (some .long) 3 := ⟨q33_0, q1_5, q32_22, q32_23, by decide, by decide +kernel⟩
noncomputable def tX11_put_16 (u2 : Int32) (w_L7 : Int32) (w_zV : Nat → Int32) : Prop := (if (u2 / (8 : Int32)) ≤ w_L7 then False else True)
noncomputable def bX11_put_16_L7 (u2 : Int32) (w_L7 : Int32) (w_zV : Nat → Int32) : Int32 := (if (u2 / (8 : Int32)) ≤ w_L7 then w_L7 else (w_L7 + (1 : Int32)))
noncomputable def bX11_put_16_zV (u1 : Int32) (u2 : Int32) (u3 : Int32) (u4 : Int64) (w_L7 : Int32) (w_zV : Nat → Int32) : Nat → Int32 := (if (u2 / (8 : Int32)) ≤ w_L7 then w_zV else (upd w_zV (Int32.toNatClampNeg ((((16 : Int32) * u1) + ((u3 * u2) / (8 : Int32))) + w_L7)) ((Int64.toInt32 (lshr u4 ((8 : Int32) * w_L7))) &&& (255 : Int32))))
noncomputable def LX11_put_16 (u1 : Int32) (u2 : Int32) (u3 : Int32) (u4 : Int64) : Nat → Int32 × (Nat → Int32) → Int32 × (Nat → Int32)
  | 0, s => s
  | n + 1, s => LX11_put_16 u1 u2 u3 u4 n ((bX11_put_16_L7 u2 s.1 s.2), (bX11_put_16_zV u1 u2 u3 u4 s.1 s.2))
noncomputable def oX11_put_16 (u1 : Int32) (u2 : Int32) (u3 : Int32) (w_L7 : Int32) (w_zV : Nat → Int32) : Prop := (¬ ((u2 / (8 : Int32)) ≤ w_L7) → vp_in ((((16 : Int32) * u1) + ((u3 * u2) / (8 : Int32))) + w_L7) 512)
noncomputable def KX11_put_16 (u1 : Int32) (u2 : Int32) (u3 : Int32) (u4 : Int64) : Nat → Int32 × (Nat → Int32) → Prop
  | 0, _ => True
  | n + 1, s => (tX11_put_16 u2 s.1 s.2 ∧ oX11_put_16 u1 u2 u3 s.1 s.2) ∧ KX11_put_16 u1 u2 u3 u4 n ((bX11_put_16_L7 u2 s.1 s.2), (bX11_put_16_zV u1 u2 u3 u4 s.1 s.2))
theorem itX11_put_16 (u1 : Int32) (u2 : Int32) (u3 : Int32) (u4 : Int64) {b9 : Nat} (h9 : (u2 / (8 : Int32)) = nI b9) (hb9 : b9 < 2147483648) : ∀ (n a : Nat) (w_zV : Nat → Int32), a + n ≤ b9 → LX11_put_16 u1 u2 u3 u4 n (nI a, w_zV) = (nI (a + n), itr (fun k s => ((upd s (Int32.toNatClampNeg ((((16 : Int32) * u1) + ((u3 * u2) / (8 : Int32))) + (nI k))) ((Int64.toInt32 (lshr u4 ((8 : Int32) * (nI k)))) &&& (255 : Int32))))) n a (w_zV))
  | 0, a, w_zV, _ => rfl
  | n + 1, a, w_zV, h => by
    have hc : ¬ ((u2 / (8 : Int32)) ≤ nI a) := by rw [h9]; exact nI_ge (by omega) hb9
    have e0 : bX11_put_16_L7 u2 (nI a) w_zV = nI (a + 1) := by rw [bX11_put_16_L7, if_neg hc, nI_1]
    have e1 : bX11_put_16_zV u1 u2 u3 u4 (nI a) w_zV = (upd w_zV (Int32.toNatClampNeg ((((16 : Int32) * u1) + ((u3 * u2) / (8 : Int32))) + (nI a))) ((Int64.toInt32 (lshr u4 ((8 : Int32) * (nI a)))) &&& (255 : Int32))) := by rw [bX11_put_16_zV, if_neg hc]
    show LX11_put_16 u1 u2 u3 u4 n (bX11_put_16_L7 u2 (nI a) w_zV, bX11_put_16_zV u1 u2 u3 u4 (nI a) w_zV) = _
    rw [e0, e1, itX11_put_16 u1 u2 u3 u4 h9 hb9 n (a + 1) _ (by omega), show a + (n + 1) = a + 1 + n by omega]; rfl
theorem ktX11_put_16 (u1 : Int32) (u2 : Int32) (u3 : Int32) (u4 : Int64) {b9 : Nat} (h9 : (u2 / (8 : Int32)) = nI b9) (hb9 : b9 < 2147483648) (I : Nat → (Nat → Int32) → Prop) (hI : ∀ (a : Nat) (w_zV : Nat → Int32), I a (w_zV) → a < b9 → oX11_put_16 u1 u2 u3 (nI a) w_zV ∧ I (a + 1) ((upd w_zV (Int32.toNatClampNeg ((((16 : Int32) * u1) + ((u3 * u2) / (8 : Int32))) + (nI a))) ((Int64.toInt32 (lshr u4 ((8 : Int32) * (nI a)))) &&& (255 : Int32))))) : ∀ (n a : Nat) (w_zV : Nat → Int32), a + n ≤ b9 → I a (w_zV) → KX11_put_16 u1 u2 u3 u4 n (nI a, w_zV)
  | 0, a, w_zV, _, _ => True.intro
  | n + 1, a, w_zV, h, hi => by
    have hc : ¬ ((u2 / (8 : Int32)) ≤ nI a) := by rw [h9]; exact nI_ge (by omega) hb9
    have e0 : bX11_put_16_L7 u2 (nI a) w_zV = nI (a + 1) := by rw [bX11_put_16_L7, if_neg hc, nI_1]
    have e1 : bX11_put_16_zV u1 u2 u3 u4 (nI a) w_zV = (upd w_zV (Int32.toNatClampNeg ((((16 : Int32) * u1) + ((u3 * u2) / (8 : Int32))) + (nI a))) ((Int64.toInt32 (lshr u4 ((8 : Int32) * (nI a)))) &&& (255 : Int32))) := by rw [bX11_put_16_zV, if_neg hc]
    obtain ⟨h1, h2⟩ := hI a w_zV hi (by omega)
    show (tX11_put_16 u2 (nI a) w_zV ∧ oX11_put_16 u1 u2 u3 (nI a) w_zV) ∧ KX11_put_16 u1 u2 u3 u4 n (bX11_put_16_L7 u2 (nI a) w_zV, bX11_put_16_zV u1 u2 u3 u4 (nI a) w_zV)
    refine ⟨⟨by rw [tX11_put_16, if_neg hc]; exact True.intro, h1⟩, ?_⟩
    rw [e0, e1]; exact ktX11_put_16 u1 u2 u3 u4 h9 hb9 I hI n (a + 1) _ (by omega) h2
theorem ntX11_put_16 (u1 : Int32) (u2 : Int32) (u3 : Int32) (u4 : Int64) {b9 : Nat} (h9 : (u2 / (8 : Int32)) = nI b9) (hb9 : b9 < 2147483648) (w_zV : Nat → Int32) : ¬ tX11_put_16 u2 (nI b9) w_zV := by rw [tX11_put_16, if_pos (by rw [h9]; exact Int32.le_refl _)]; exact id
noncomputable def fX11_put__zV (zV : Nat → Int32) (u1 : Int32) (u2 : Int32) (u3 : Int32) (u4 : Int64) : Nat → Int32 := (LX11_put_16 u1 u2 u3 u4 (cnt (0 : Int32) (u2 / (8 : Int32))) ((0 : Int32), zV)).2
noncomputable def okX11_put (zV : Nat → Int32) (u1 : Int32) (u2 : Int32) (u3 : Int32) (u4 : Int64) : Prop := (KX11_put_16 u1 u2 u3 u4 (cnt (0 : Int32) (u2 / (8 : Int32))) ((0 : Int32), zV)) ∧ (¬ (tX11_put_16 u2 ((LX11_put_16 u1 u2 u3 u4 (cnt (0 : Int32) (u2 / (8 : Int32))) ((0 : Int32), zV)).1) ((LX11_put_16 u1 u2 u3 u4 (cnt (0 : Int32) (u2 / (8 : Int32))) ((0 : Int32), zV)).2))) ∧ (¬ ((u2 / (8 : Int32)) ≤ (LX11_put_16 u1 u2 u3 u4 (cnt (0 : Int32) (u2 / (8 : Int32))) ((0 : Int32), zV)).1) → vp_in ((((16 : Int32) * u1) + ((u3 * u2) / (8 : Int32))) + (LX11_put_16 u1 u2 u3 u4 (cnt (0 : Int32) (u2 / (8 : Int32))) ((0 : Int32), zV)).1) 512)
set_option maxRecDepth 100000 in
set_option maxHeartbeats 4000000 in
theorem kX11_put (l : Launch) (D : va_G) (kI kZ : ClassId) (b_m : Nat) (b_zV : Nat) (m_thrown : Int32) (m_x : Nat) (m_old : Nat) (m_memory : Nat) (m_shut : Nat) (m_choices : Int64) (m_vl : Int32) (m_vtype : Int32) (m_vstart : Int32) (m_vxrm : Int32) (m_vxsat : Int32) (m_done : Int32) (m_illegal : Int32) (m_traps : Int32) (m_trapAddress : Int32) (m_word : Int32) (m_vd : Int32) (m_vs1 : Int32) (m_vs2 : Int32) (m_f3 : Int32) (m_f6 : Int32) (m_sew : Int32) (m_l8 : Int32) (m_unmasked : Int32) (zV : Nat → Int32) (u1 : Int32) (u2 : Int32) (u3 : Int32) (u4 : Int64) (hok : okX11_put zV u1 u2 u3 u4) : kM l yX11_put cX11_put 8 none 0 0 0 0 D [(kI, .int), (kZ, .boolean)] [.ref b_m, .int u1, .int u2, .int u3, .long u4] [(b_m, .inr (10, [.int m_thrown, .ref m_x, .ref b_zV, .ref m_old, .ref m_memory, .ref m_shut, .long m_choices, .int m_vl, .int m_vtype, .int m_vstart, .int m_vxrm, .int m_vxsat, .int m_done, .int m_illegal, .int m_traps, .int m_trapAddress, .int m_word, .int m_vd, .int m_vs1, .int m_vs2, .int m_f3, .int m_f6, .int m_sew, .int m_l8, .int m_unmasked])), (b_zV, .inl (kI, 512, .inl zV))] none [(b_m, .inr (10, [.int m_thrown, .ref m_x, .ref b_zV, .ref m_old, .ref m_memory, .ref m_shut, .long m_choices, .int m_vl, .int m_vtype, .int m_vstart, .int m_vxrm, .int m_vxsat, .int m_done, .int m_illegal, .int m_traps, .int m_trapAddress, .int m_word, .int m_vd, .int m_vs1, .int m_vs2, .int m_f3, .int m_f6, .int m_sew, .int m_l8, .int m_unmasked])), (b_zV, .inl (kI, 512, .inl (fX11_put__zV zV u1 u2 u3 u4)))] := by
  refine kM.of (by decide) rfl ?_
  intro p e R s m args below meth c A X _ _ hRt hLk
  refine k_sub [0, 1, 2, 3, 4] (lv' := [(0, .ref b_m), (1, .int u1), (2, .int u2), (3, .int u3), (4, .long u4)]) rfl ?_
  unfold okX11_put at hok
  refine k_bipush X dX11_put_0 kc_b_16 rfl ?_
  refine k_iload_n X dX11_put_2 rfl 1 rfl rfl ?_
  refine k_imul X dX11_put_3 rfl ?_
  refine k_iload_n X dX11_put_4 rfl 3 rfl rfl ?_
  refine k_iload_n X dX11_put_5 rfl 2 rfl rfl ?_
  refine k_imul X dX11_put_6 rfl ?_
  refine k_bipush X dX11_put_7 kc_b_8 rfl ?_
  refine k_idiv X dX11_put_9 (by decide) rfl ?_
  refine k_iadd X dX11_put_10 rfl ?_
  refine k_istore (lv' := [(6, .int (((16 : Int32) * u1) + ((u3 * u2) / (8 : Int32)))), (0, .ref b_m), (1, .int u1), (2, .int u2), (3, .int u3), (4, .long u4)]) X dX11_put_11 rfl rfl rfl ?_
  refine k_iconst X dX11_put_13 kc_i_0 rfl ?_
  refine k_istore (lv' := [(7, .int (0 : Int32)), (6, .int (((16 : Int32) * u1) + ((u3 * u2) / (8 : Int32)))), (0, .ref b_m), (1, .int u1), (2, .int u2), (3, .int u3), (4, .long u4)]) X dX11_put_14 rfl rfl rfl ?_
  refine k_sub [2, 3, 4, 5, 6, 1, 0] (lv' := [(0, .ref b_m), (1, .int u1), (2, .int u2), (3, .int u3), (4, .long u4), (6, .int (((16 : Int32) * u1) + ((u3 * u2) / (8 : Int32)))), (7, .int (0 : Int32))]) rfl ?_
  refine k_loop (KX11_put_16 u1 u2 u3 u4) (LX11_put_16 u1 u2 u3 u4) (fun s9 => (bX11_put_16_L7 u2 s9.1 s9.2, bX11_put_16_zV u1 u2 u3 u4 s9.1 s9.2)) (fun s9 => tX11_put_16 u2 s9.1 s9.2 ∧ oX11_put_16 u1 u2 u3 s9.1 s9.2) (fun s9 => [(b_m, .inr (10, [.int m_thrown, .ref m_x, .ref b_zV, .ref m_old, .ref m_memory, .ref m_shut, .long m_choices, .int m_vl, .int m_vtype, .int m_vstart, .int m_vxrm, .int m_vxsat, .int m_done, .int m_illegal, .int m_traps, .int m_trapAddress, .int m_word, .int m_vd, .int m_vs1, .int m_vs2, .int m_f3, .int m_f6, .int m_sew, .int m_l8, .int m_unmasked])), (b_zV, .inl (kI, 512, .inl s9.2))]) (fun s9 => [(0, .ref b_m), (1, .int u1), (2, .int u2), (3, .int u3), (4, .long u4), (6, .int (((16 : Int32) * u1) + ((u3 * u2) / (8 : Int32)))), (7, .int s9.1)]) 16 (fun _ => rfl) (fun _ _ => rfl) (fun _ _ h => h) ?_ (cnt (0 : Int32) (u2 / (8 : Int32))) ((0 : Int32), zV) (hok.1) ?_
  · rintro ⟨w_L7, w_zV⟩ ⟨hlat, hob⟩ g0
    try dsimp only at hlat hob g0 ⊢
    unfold oX11_put_16 at hob
    refine k_iload X dX11_put_16 6 rfl rfl ?_
    refine k_iload_n X dX11_put_18 rfl 2 rfl rfl ?_
    refine k_bipush X dX11_put_19 kc_b_8 rfl ?_
    refine k_idiv X dX11_put_21 (by decide) rfl ?_
    refine k_icmp_ge (tgt := 54) X dX11_put_22 (by decide) rfl (fun c1 => ?_) (fun c1 => ?_)
    · skip
      exact absurd hlat (by rw [tX11_put_16, if_pos c1]; exact id)
    refine k_aload_n X dX11_put_25 rfl 0 rfl rfl ?_
    refine k_get X i_wsX110 0 2 q5_18 rfl rfl rfl rfl rfl dX11_put_26 rfl ?_
    refine k_iload X dX11_put_29 5 rfl rfl ?_
    refine k_iload X dX11_put_31 6 rfl rfl ?_
    refine k_iadd X dX11_put_33 rfl ?_
    refine k_lload X dX11_put_34 4 rfl rfl ?_
    refine k_bipush X dX11_put_36 kc_b_8 rfl ?_
    refine k_iload X dX11_put_38 6 rfl rfl ?_
    refine k_imul X dX11_put_40 rfl ?_
    refine k_lshr X dX11_put_41 rfl ?_
    refine k_l2i X dX11_put_42 rfl ?_
    refine k_sipush X dX11_put_43 kc_s_255 rfl ?_
    refine k_iand X dX11_put_46 rfl ?_
    refine k_iast (ws' := [(b_m, .inr (10, [.int m_thrown, .ref m_x, .ref b_zV, .ref m_old, .ref m_memory, .ref m_shut, .long m_choices, .int m_vl, .int m_vtype, .int m_vstart, .int m_vxrm, .int m_vxsat, .int m_done, .int m_illegal, .int m_traps, .int m_trapAddress, .int m_word, .int m_vd, .int m_vs1, .int m_vs2, .int m_f3, .int m_f6, .int m_sew, .int m_l8, .int m_unmasked])), (b_zV, .inl (kI, 512, .inl (upd w_zV (Int32.toNatClampNeg ((((16 : Int32) * u1) + ((u3 * u2) / (8 : Int32))) + w_L7)) ((Int64.toInt32 (lshr u4 ((8 : Int32) * w_L7))) &&& (255 : Int32)))))]) X 1 0 rfl rfl (hob c1) rfl dX11_put_47 rfl ?_
    refine k_iinc (lv' := [(7, .int (w_L7 + (1 : Int32))), (0, .ref b_m), (1, .int u1), (2, .int u2), (3, .int u3), (4, .long u4), (6, .int (((16 : Int32) * u1) + ((u3 * u2) / (8 : Int32))))]) X dX11_put_48 6 rfl kc_i_1 rfl rfl rfl ?_
    refine k_goto (tgt := 16) X dX11_put_51 (by decide) ?_
    have e3 : bX11_put_16_L7 u2 w_L7 w_zV = (w_L7 + (1 : Int32)) := by rw [bX11_put_16_L7, if_neg c1]
    rw [e3] at g0
    have e4 : bX11_put_16_zV u1 u2 u3 u4 w_L7 w_zV = (upd w_zV (Int32.toNatClampNeg ((((16 : Int32) * u1) + ((u3 * u2) / (8 : Int32))) + w_L7)) ((Int64.toInt32 (lshr u4 ((8 : Int32) * w_L7))) &&& (255 : Int32))) := by rw [bX11_put_16_zV, if_neg c1]
    rw [e4] at g0
    exact k_sub [1, 2, 3, 4, 5, 6, 0] rfl g0
  try dsimp only
  refine k_iload X dX11_put_16 6 rfl rfl ?_
  refine k_iload_n X dX11_put_18 rfl 2 rfl rfl ?_
  refine k_bipush X dX11_put_19 kc_b_8 rfl ?_
  refine k_idiv X dX11_put_21 (by decide) rfl ?_
  refine k_icmp_ge (tgt := 54) X dX11_put_22 (by decide) rfl (fun c2 => ?_) (fun c2 => ?_)
  · skip
    have e5 : (fX11_put__zV zV u1 u2 u3 u4) = (LX11_put_16 u1 u2 u3 u4 (cnt (0 : Int32) (u2 / (8 : Int32))) ((0 : Int32), zV)).2 := by rw [fX11_put__zV]
    exact k_vret X hRt hLk (by rw [e5]) dX11_put_54
  refine k_aload_n X dX11_put_25 rfl 0 rfl rfl ?_
  refine k_get X i_wsX110 0 2 q5_18 rfl rfl rfl rfl rfl dX11_put_26 rfl ?_
  refine k_iload X dX11_put_29 5 rfl rfl ?_
  refine k_iload X dX11_put_31 6 rfl rfl ?_
  refine k_iadd X dX11_put_33 rfl ?_
  refine k_lload X dX11_put_34 4 rfl rfl ?_
  refine k_bipush X dX11_put_36 kc_b_8 rfl ?_
  refine k_iload X dX11_put_38 6 rfl rfl ?_
  refine k_imul X dX11_put_40 rfl ?_
  refine k_lshr X dX11_put_41 rfl ?_
  refine k_l2i X dX11_put_42 rfl ?_
  refine k_sipush X dX11_put_43 kc_s_255 rfl ?_
  refine k_iand X dX11_put_46 rfl ?_
  refine k_iast (ws' := [(b_m, .inr (10, [.int m_thrown, .ref m_x, .ref b_zV, .ref m_old, .ref m_memory, .ref m_shut, .long m_choices, .int m_vl, .int m_vtype, .int m_vstart, .int m_vxrm, .int m_vxsat, .int m_done, .int m_illegal, .int m_traps, .int m_trapAddress, .int m_word, .int m_vd, .int m_vs1, .int m_vs2, .int m_f3, .int m_f6, .int m_sew, .int m_l8, .int m_unmasked])), (b_zV, .inl (kI, 512, .inl (upd ((LX11_put_16 u1 u2 u3 u4 (cnt (0 : Int32) (u2 / (8 : Int32))) ((0 : Int32), zV)).2) (Int32.toNatClampNeg ((((16 : Int32) * u1) + ((u3 * u2) / (8 : Int32))) + (LX11_put_16 u1 u2 u3 u4 (cnt (0 : Int32) (u2 / (8 : Int32))) ((0 : Int32), zV)).1)) ((Int64.toInt32 (lshr u4 ((8 : Int32) * (LX11_put_16 u1 u2 u3 u4 (cnt (0 : Int32) (u2 / (8 : Int32))) ((0 : Int32), zV)).1))) &&& (255 : Int32)))))]) X 1 0 rfl rfl (hok.2.2 c2) rfl dX11_put_47 rfl ?_
  refine k_iinc (lv' := [(7, .int ((LX11_put_16 u1 u2 u3 u4 (cnt (0 : Int32) (u2 / (8 : Int32))) ((0 : Int32), zV)).1 + (1 : Int32))), (0, .ref b_m), (1, .int u1), (2, .int u2), (3, .int u3), (4, .long u4), (6, .int (((16 : Int32) * u1) + ((u3 * u2) / (8 : Int32))))]) X dX11_put_48 6 rfl kc_i_1 rfl rfl rfl ?_
  refine k_goto (tgt := 16) X dX11_put_51 (by decide) ?_
  exact absurd (show tX11_put_16 u2 ((LX11_put_16 u1 u2 u3 u4 (cnt (0 : Int32) (u2 / (8 : Int32))) ((0 : Int32), zV)).1) ((LX11_put_16 u1 u2 u3 u4 (cnt (0 : Int32) (u2 / (8 : Int32))) ((0 : Int32), zV)).2) from by rw [tX11_put_16, if_neg c2]; exact True.intro) (hok.2.1)
theorem vX11_put : kVi yX11_put cX11_put 8 none 4 := ⟨q32_16, q1_5, q32_14, q32_15, by decide, by decide +kernel⟩
noncomputable def pX11_bit_30_S1 (zO : Nat → Int32) (u1 : Int32) (u2 : Int32) : Int32 := (if ((shr (zO (Int32.toNatClampNeg (((16 : Int32) * u1) + (u2 / (8 : Int32))))) (irem u2 (8 : Int32))) &&& (1 : Int32)) = (1 : Int32) then (1 : Int32) else (0 : Int32))
theorem zpX11_bit_30_S1 (zO : Nat → Int32) (u1 : Int32) (u2 : Int32) : narrow .boolean (.int (pX11_bit_30_S1 zO u1 u2)) = .int (pX11_bit_30_S1 zO u1 u2) := by unfold pX11_bit_30_S1; exact (kzi rfl rfl)
noncomputable def fX11_bit (zO : Nat → Int32) (u1 : Int32) (u2 : Int32) : Int32 := (pX11_bit_30_S1 zO u1 u2)
noncomputable def okX11_bit (u1 : Int32) (u2 : Int32) : Prop := (vp_in (((16 : Int32) * u1) + (u2 / (8 : Int32))) 512)
theorem zX11_bit (zO : Nat → Int32) (u1 : Int32) (u2 : Int32) : narrow .boolean (.int (fX11_bit zO u1 u2)) = .int (fX11_bit zO u1 u2) := by unfold fX11_bit; exact (zpX11_bit_30_S1 zO u1 u2)
set_option maxRecDepth 100000 in
set_option maxHeartbeats 4000000 in
theorem kX11_bit (l : Launch) (D : va_G) (kI kZ : ClassId) (b_m : Nat) (b_zO : Nat) (m_thrown : Int32) (m_x : Nat) (m_v : Nat) (m_memory : Nat) (m_shut : Nat) (m_choices : Int64) (m_vl : Int32) (m_vtype : Int32) (m_vstart : Int32) (m_vxrm : Int32) (m_vxsat : Int32) (m_done : Int32) (m_illegal : Int32) (m_traps : Int32) (m_trapAddress : Int32) (m_word : Int32) (m_vd : Int32) (m_vs1 : Int32) (m_vs2 : Int32) (m_f3 : Int32) (m_f6 : Int32) (m_sew : Int32) (m_l8 : Int32) (m_unmasked : Int32) (zO : Nat → Int32) (u1 : Int32) (u2 : Int32) (hok : okX11_bit u1 u2) : kM l yX11_bit cX11_bit 3 (some .boolean) 0 0 0 0 D [(kI, .int), (kZ, .boolean)] [.ref b_m, .int u1, .int u2] [(b_m, .inr (10, [.int m_thrown, .ref m_x, .ref m_v, .ref b_zO, .ref m_memory, .ref m_shut, .long m_choices, .int m_vl, .int m_vtype, .int m_vstart, .int m_vxrm, .int m_vxsat, .int m_done, .int m_illegal, .int m_traps, .int m_trapAddress, .int m_word, .int m_vd, .int m_vs1, .int m_vs2, .int m_f3, .int m_f6, .int m_sew, .int m_l8, .int m_unmasked])), (b_zO, .inl (kI, 512, .inl zO))] (some (.int (fX11_bit zO u1 u2))) [(b_m, .inr (10, [.int m_thrown, .ref m_x, .ref m_v, .ref b_zO, .ref m_memory, .ref m_shut, .long m_choices, .int m_vl, .int m_vtype, .int m_vstart, .int m_vxrm, .int m_vxsat, .int m_done, .int m_illegal, .int m_traps, .int m_trapAddress, .int m_word, .int m_vd, .int m_vs1, .int m_vs2, .int m_f3, .int m_f6, .int m_sew, .int m_l8, .int m_unmasked])), (b_zO, .inl (kI, 512, .inl zO))] := by
  refine kM.of (by decide) rfl ?_
  intro p e R s m args below meth c A X _ _ hRt hLk
  refine k_sub [0, 1, 2] (lv' := [(0, .ref b_m), (1, .int u1), (2, .int u2)]) rfl ?_
  unfold okX11_bit at hok
  refine k_aload_n X dX11_bit_0 rfl 0 rfl rfl ?_
  refine k_get X i_wsX110 0 3 q5_19 rfl rfl rfl rfl rfl dX11_bit_1 rfl ?_
  refine k_bipush X dX11_bit_4 kc_b_16 rfl ?_
  refine k_iload_n X dX11_bit_6 rfl 1 rfl rfl ?_
  refine k_imul X dX11_bit_7 rfl ?_
  refine k_iload_n X dX11_bit_8 rfl 2 rfl rfl ?_
  refine k_bipush X dX11_bit_9 kc_b_8 rfl ?_
  refine k_idiv X dX11_bit_11 (by decide) rfl ?_
  refine k_iadd X dX11_bit_12 rfl ?_
  refine k_iald X 1 0 rfl rfl (hok) dX11_bit_13 rfl ?_
  refine k_iload_n X dX11_bit_14 rfl 2 rfl rfl ?_
  refine k_bipush X dX11_bit_15 kc_b_8 rfl ?_
  refine k_irem X dX11_bit_17 (by decide) rfl ?_
  refine k_ishr X dX11_bit_18 rfl ?_
  refine k_iconst X dX11_bit_19 kc_i_1 rfl ?_
  refine k_iand X dX11_bit_20 rfl ?_
  refine k_iconst X dX11_bit_21 kc_i_1 rfl ?_
  refine k_mid2 [(b_m, .inr (10, [.int m_thrown, .ref m_x, .ref m_v, .ref b_zO, .ref m_memory, .ref m_shut, .long m_choices, .int m_vl, .int m_vtype, .int m_vstart, .int m_vxrm, .int m_vxsat, .int m_done, .int m_illegal, .int m_traps, .int m_trapAddress, .int m_word, .int m_vd, .int m_vs1, .int m_vs2, .int m_f3, .int m_f6, .int m_sew, .int m_l8, .int m_unmasked])), (b_zO, .inl (kI, 512, .inl zO))] [(0, .ref b_m), (1, .int u1), (2, .int u2)] [.int (pX11_bit_30_S1 zO u1 u2)] 30 (fun hJ2 => ?_) ?_
  · skip
    refine k_icmp_ne (tgt := 29) X dX11_bit_22 (by decide) rfl (fun c1 => ?_) (fun c1 => ?_)
    · skip
      refine k_iconst X dX11_bit_25 kc_i_1 rfl ?_
      refine k_goto (tgt := 30) X dX11_bit_26 (by decide) ?_
      have e3 : (pX11_bit_30_S1 zO u1 u2) = (1 : Int32) := by rw [pX11_bit_30_S1, if_pos c1]
      rw [e3] at hJ2
      exact k_sub [0, 1, 2] rfl hJ2
    refine k_iconst X dX11_bit_29 kc_i_0 rfl ?_
    have e4 : (pX11_bit_30_S1 zO u1 u2) = (0 : Int32) := by rw [pX11_bit_30_S1, if_neg c1]
    rw [e4] at hJ2
    exact k_sub [0, 1, 2] rfl hJ2
  have e5 : (fX11_bit zO u1 u2) = (pX11_bit_30_S1 zO u1 u2) := by rw [fX11_bit]
  exact k_zret9 X hRt hLk (zpX11_bit_30_S1 zO u1 u2) e5.symm rfl dX11_bit_30
theorem vX11_bit : kVi yX11_bit cX11_bit 3 (some .boolean) 2 := ⟨q31_13, q1_5, q31_11, q31_12, by decide, by decide +kernel⟩
noncomputable def pX11_putBit_47_S4 (u2 : Int32) (u3 : Int32) : Int32 := (if u3 = (0 : Int32) then (0 : Int32) else (shl (1 : Int32) (irem u2 (8 : Int32))))
noncomputable def eX11_putBit_48 (zV : Nat → Int32) (u1 : Int32) (u2 : Int32) (u3 : Int32) : Int32 := (((zV (Int32.toNatClampNeg (((16 : Int32) * u1) + (u2 / (8 : Int32))))) &&& ((shl (1 : Int32) (irem u2 (8 : Int32))) ^^^ (-1 : Int32))) ||| (pX11_putBit_47_S4 u2 u3))
noncomputable def fX11_putBit__zV (zV : Nat → Int32) (u1 : Int32) (u2 : Int32) (u3 : Int32) : Nat → Int32 := (upd zV (Int32.toNatClampNeg (((16 : Int32) * u1) + (u2 / (8 : Int32)))) (eX11_putBit_48 zV u1 u2 u3))
noncomputable def okX11_putBit (u1 : Int32) (u2 : Int32) : Prop := (vp_in (((16 : Int32) * u1) + (u2 / (8 : Int32))) 512)
set_option maxRecDepth 100000 in
set_option maxHeartbeats 4000000 in
theorem kX11_putBit (l : Launch) (D : va_G) (kI kZ : ClassId) (b_m : Nat) (b_zV : Nat) (m_thrown : Int32) (m_x : Nat) (m_old : Nat) (m_memory : Nat) (m_shut : Nat) (m_choices : Int64) (m_vl : Int32) (m_vtype : Int32) (m_vstart : Int32) (m_vxrm : Int32) (m_vxsat : Int32) (m_done : Int32) (m_illegal : Int32) (m_traps : Int32) (m_trapAddress : Int32) (m_word : Int32) (m_vd : Int32) (m_vs1 : Int32) (m_vs2 : Int32) (m_f3 : Int32) (m_f6 : Int32) (m_sew : Int32) (m_l8 : Int32) (m_unmasked : Int32) (zV : Nat → Int32) (u1 : Int32) (u2 : Int32) (u3 : Int32) (hok : okX11_putBit u1 u2) : kM l yX11_putBit cX11_putBit 5 none 0 0 0 0 D [(kI, .int), (kZ, .boolean)] [.ref b_m, .int u1, .int u2, .int u3] [(b_m, .inr (10, [.int m_thrown, .ref m_x, .ref b_zV, .ref m_old, .ref m_memory, .ref m_shut, .long m_choices, .int m_vl, .int m_vtype, .int m_vstart, .int m_vxrm, .int m_vxsat, .int m_done, .int m_illegal, .int m_traps, .int m_trapAddress, .int m_word, .int m_vd, .int m_vs1, .int m_vs2, .int m_f3, .int m_f6, .int m_sew, .int m_l8, .int m_unmasked])), (b_zV, .inl (kI, 512, .inl zV))] none [(b_m, .inr (10, [.int m_thrown, .ref m_x, .ref b_zV, .ref m_old, .ref m_memory, .ref m_shut, .long m_choices, .int m_vl, .int m_vtype, .int m_vstart, .int m_vxrm, .int m_vxsat, .int m_done, .int m_illegal, .int m_traps, .int m_trapAddress, .int m_word, .int m_vd, .int m_vs1, .int m_vs2, .int m_f3, .int m_f6, .int m_sew, .int m_l8, .int m_unmasked])), (b_zV, .inl (kI, 512, .inl (fX11_putBit__zV zV u1 u2 u3)))] := by
  refine kM.of (by decide) rfl ?_
  intro p e R s m args below meth c A X _ _ hRt hLk
  refine k_sub [0, 1, 2, 3] (lv' := [(0, .ref b_m), (1, .int u1), (2, .int u2), (3, .int u3)]) rfl ?_
  unfold okX11_putBit at hok
  refine k_bipush X dX11_putBit_0 kc_b_16 rfl ?_
  refine k_iload_n X dX11_putBit_2 rfl 1 rfl rfl ?_
  refine k_imul X dX11_putBit_3 rfl ?_
  refine k_iload_n X dX11_putBit_4 rfl 2 rfl rfl ?_
  refine k_bipush X dX11_putBit_5 kc_b_8 rfl ?_
  refine k_idiv X dX11_putBit_7 (by decide) rfl ?_
  refine k_iadd X dX11_putBit_8 rfl ?_
  refine k_istore (lv' := [(4, .int (((16 : Int32) * u1) + (u2 / (8 : Int32)))), (0, .ref b_m), (1, .int u1), (2, .int u2), (3, .int u3)]) X dX11_putBit_9 rfl rfl rfl ?_
  refine k_aload_n X dX11_putBit_11 rfl 1 rfl rfl ?_
  refine k_get X i_wsX110 0 2 q5_18 rfl rfl rfl rfl rfl dX11_putBit_12 rfl ?_
  refine k_iload X dX11_putBit_15 0 rfl rfl ?_
  refine k_aload_n X dX11_putBit_17 rfl 1 rfl rfl ?_
  refine k_get X i_wsX110 0 2 q5_18 rfl rfl rfl rfl rfl dX11_putBit_18 rfl ?_
  refine k_iload X dX11_putBit_21 0 rfl rfl ?_
  refine k_iald X 1 0 rfl rfl (hok) dX11_putBit_23 rfl ?_
  refine k_iconst X dX11_putBit_24 kc_i_1 rfl ?_
  refine k_iload_n X dX11_putBit_25 rfl 3 rfl rfl ?_
  refine k_bipush X dX11_putBit_26 kc_b_8 rfl ?_
  refine k_irem X dX11_putBit_28 (by decide) rfl ?_
  refine k_ishl X dX11_putBit_29 rfl ?_
  refine k_iconst X dX11_putBit_30 kc_i_m1 rfl ?_
  refine k_ixor X dX11_putBit_31 rfl ?_
  refine k_iand X dX11_putBit_32 rfl ?_
  refine k_iload_n X dX11_putBit_33 rfl 4 rfl rfl ?_
  refine k_mid2 [(b_m, .inr (10, [.int m_thrown, .ref m_x, .ref b_zV, .ref m_old, .ref m_memory, .ref m_shut, .long m_choices, .int m_vl, .int m_vtype, .int m_vstart, .int m_vxrm, .int m_vxsat, .int m_done, .int m_illegal, .int m_traps, .int m_trapAddress, .int m_word, .int m_vd, .int m_vs1, .int m_vs2, .int m_f3, .int m_f6, .int m_sew, .int m_l8, .int m_unmasked])), (b_zV, .inl (kI, 512, .inl zV))] [(0, .ref b_m), (1, .int u1), (2, .int u2), (3, .int u3), (4, .int (((16 : Int32) * u1) + (u2 / (8 : Int32))))] [.int (pX11_putBit_47_S4 u2 u3), .int ((zV (Int32.toNatClampNeg (((16 : Int32) * u1) + (u2 / (8 : Int32))))) &&& ((shl (1 : Int32) (irem u2 (8 : Int32))) ^^^ (-1 : Int32))), .int (((16 : Int32) * u1) + (u2 / (8 : Int32))), .ref b_zV] 47 (fun hJ2 => ?_) ?_
  · skip
    refine k_if_eq (tgt := 46) X dX11_putBit_34 (by decide) rfl (fun c1 => ?_) (fun c1 => ?_)
    · skip
      refine k_iconst X dX11_putBit_46 kc_i_0 rfl ?_
      have e3 : (pX11_putBit_47_S4 u2 u3) = (0 : Int32) := by rw [pX11_putBit_47_S4, if_pos c1]
      rw [e3] at hJ2
      exact k_sub [1, 2, 3, 4, 0] rfl hJ2
    refine k_iconst X dX11_putBit_37 kc_i_1 rfl ?_
    refine k_iload_n X dX11_putBit_38 rfl 3 rfl rfl ?_
    refine k_bipush X dX11_putBit_39 kc_b_8 rfl ?_
    refine k_irem X dX11_putBit_41 (by decide) rfl ?_
    refine k_ishl X dX11_putBit_42 rfl ?_
    refine k_goto (tgt := 47) X dX11_putBit_43 (by decide) ?_
    have e4 : (pX11_putBit_47_S4 u2 u3) = (shl (1 : Int32) (irem u2 (8 : Int32))) := by rw [pX11_putBit_47_S4, if_neg c1]
    rw [e4] at hJ2
    exact k_sub [1, 2, 3, 4, 0] rfl hJ2
  refine k_ior X dX11_putBit_47 rfl ?_
  refine k_foldi (v := (eX11_putBit_48 zV u1 u2 u3)) rfl ?_
  refine k_iast (ws' := [(b_m, .inr (10, [.int m_thrown, .ref m_x, .ref b_zV, .ref m_old, .ref m_memory, .ref m_shut, .long m_choices, .int m_vl, .int m_vtype, .int m_vstart, .int m_vxrm, .int m_vxsat, .int m_done, .int m_illegal, .int m_traps, .int m_trapAddress, .int m_word, .int m_vd, .int m_vs1, .int m_vs2, .int m_f3, .int m_f6, .int m_sew, .int m_l8, .int m_unmasked])), (b_zV, .inl (kI, 512, .inl (upd zV (Int32.toNatClampNeg (((16 : Int32) * u1) + (u2 / (8 : Int32)))) (eX11_putBit_48 zV u1 u2 u3))))]) X 1 0 rfl rfl (hok) rfl dX11_putBit_48 rfl ?_
  have e5 : (fX11_putBit__zV zV u1 u2 u3) = (upd zV (Int32.toNatClampNeg (((16 : Int32) * u1) + (u2 / (8 : Int32)))) (eX11_putBit_48 zV u1 u2 u3)) := by rw [fX11_putBit__zV]
  exact k_vret X hRt hLk (by rw [e5]) dX11_putBit_49
theorem vX11_putBit : kVi yX11_putBit cX11_putBit 5 none 3 := ⟨q36_2, q1_5, q36_0, q36_1, by decide, by decide +kernel⟩
noncomputable def pX11_isActive_21_S1 (m_unmasked : Int32) (zO : Nat → Int32) (u1 : Int32) : Int32 := (if m_unmasked = (0 : Int32) then (if (fX11_bit zO (0 : Int32) u1) = (0 : Int32) then (0 : Int32) else (1 : Int32)) else (1 : Int32))
theorem zpX11_isActive_21_S1 (m_unmasked : Int32) (zO : Nat → Int32) (u1 : Int32) : narrow .boolean (.int (pX11_isActive_21_S1 m_unmasked zO u1)) = .int (pX11_isActive_21_S1 m_unmasked zO u1) := by unfold pX11_isActive_21_S1; exact (kzi (kzi rfl rfl) rfl)
noncomputable def fX11_isActive (m_unmasked : Int32) (zO : Nat → Int32) (u1 : Int32) : Int32 := (pX11_isActive_21_S1 m_unmasked zO u1)
noncomputable def okX11_isActive (m_unmasked : Int32) (u1 : Int32) : Prop := ((m_unmasked = (0 : Int32)) → okX11_bit (0 : Int32) u1)
theorem zX11_isActive (m_unmasked : Int32) (zO : Nat → Int32) (u1 : Int32) : narrow .boolean (.int (fX11_isActive m_unmasked zO u1)) = .int (fX11_isActive m_unmasked zO u1) := by unfold fX11_isActive; exact (zpX11_isActive_21_S1 m_unmasked zO u1)
set_option maxRecDepth 100000 in
set_option maxHeartbeats 4000000 in
theorem kX11_isActive (l : Launch) (D : va_G) (kI kZ : ClassId) (b_m : Nat) (b_zO : Nat) (m_thrown : Int32) (m_x : Nat) (m_v : Nat) (m_memory : Nat) (m_shut : Nat) (m_choices : Int64) (m_vl : Int32) (m_vtype : Int32) (m_vstart : Int32) (m_vxrm : Int32) (m_vxsat : Int32) (m_done : Int32) (m_illegal : Int32) (m_traps : Int32) (m_trapAddress : Int32) (m_word : Int32) (m_vd : Int32) (m_vs1 : Int32) (m_vs2 : Int32) (m_f3 : Int32) (m_f6 : Int32) (m_sew : Int32) (m_l8 : Int32) (m_unmasked : Int32) (zO : Nat → Int32) (u1 : Int32) (hok : okX11_isActive m_unmasked u1) : kM l yX11_isActive cX11_isActive 2 (some .boolean) 1 14 0 0 D [(kI, .int), (kZ, .boolean)] [.ref b_m, .int u1] [(b_m, .inr (10, [.int m_thrown, .ref m_x, .ref m_v, .ref b_zO, .ref m_memory, .ref m_shut, .long m_choices, .int m_vl, .int m_vtype, .int m_vstart, .int m_vxrm, .int m_vxsat, .int m_done, .int m_illegal, .int m_traps, .int m_trapAddress, .int m_word, .int m_vd, .int m_vs1, .int m_vs2, .int m_f3, .int m_f6, .int m_sew, .int m_l8, .int m_unmasked])), (b_zO, .inl (kI, 512, .inl zO))] (some (.int (fX11_isActive m_unmasked zO u1))) [(b_m, .inr (10, [.int m_thrown, .ref m_x, .ref m_v, .ref b_zO, .ref m_memory, .ref m_shut, .long m_choices, .int m_vl, .int m_vtype, .int m_vstart, .int m_vxrm, .int m_vxsat, .int m_done, .int m_illegal, .int m_traps, .int m_trapAddress, .int m_word, .int m_vd, .int m_vs1, .int m_vs2, .int m_f3, .int m_f6, .int m_sew, .int m_l8, .int m_unmasked])), (b_zO, .inl (kI, 512, .inl zO))] := by
  refine kM.of (by decide) rfl ?_
  intro p e R s m args below meth c A X _ _ hRt hLk
  refine k_sub [0, 1] (lv' := [(0, .ref b_m), (1, .int u1)]) rfl ?_
  unfold okX11_isActive at hok
  refine k_aload_n X dX11_isActive_0 rfl 0 rfl rfl ?_
  refine k_get X i_wsX110 0 24 q27_7 rfl rfl rfl rfl rfl dX11_isActive_1 rfl ?_
  refine k_mid2 [(b_m, .inr (10, [.int m_thrown, .ref m_x, .ref m_v, .ref b_zO, .ref m_memory, .ref m_shut, .long m_choices, .int m_vl, .int m_vtype, .int m_vstart, .int m_vxrm, .int m_vxsat, .int m_done, .int m_illegal, .int m_traps, .int m_trapAddress, .int m_word, .int m_vd, .int m_vs1, .int m_vs2, .int m_f3, .int m_f6, .int m_sew, .int m_l8, .int m_unmasked])), (b_zO, .inl (kI, 512, .inl zO))] [(0, .ref b_m), (1, .int u1)] [.int (pX11_isActive_21_S1 m_unmasked zO u1)] 21 (fun hJ3 => ?_) ?_
  · skip
    refine k_if_ne (tgt := 16) X dX11_isActive_4 (by decide) rfl (fun c1 => ?_) (fun c1 => ?_)
    · skip
      refine k_aload_n X dX11_isActive_7 rfl 0 rfl rfl ?_
      refine k_iconst X dX11_isActive_8 kc_i_0 rfl ?_
      refine k_iload_n X dX11_isActive_9 rfl 1 rfl rfl ?_
      refine k_cV1 (st := []) (ws' := [(b_m, .inr (10, [.int m_thrown, .ref m_x, .ref m_v, .ref b_zO, .ref m_memory, .ref m_shut, .long m_choices, .int m_vl, .int m_vtype, .int m_vstart, .int m_vxrm, .int m_vxsat, .int m_done, .int m_illegal, .int m_traps, .int m_trapAddress, .int m_word, .int m_vd, .int m_vs1, .int m_vs2, .int m_f3, .int m_f6, .int m_sew, .int m_l8, .int m_unmasked])), (b_zO, .inl (kI, 512, .inl zO))]) (wr := []) (ci := 10) (q9 := 0) X [.int (0 : Int32), .int u1] 0 [0, 1] [] [0, 1] (kX11_bit l D kI kZ b_m b_zO m_thrown m_x m_v m_memory m_shut m_choices m_vl m_vtype m_vstart m_vxrm m_vxsat m_done m_illegal m_traps m_trapAddress m_word m_vd m_vs1 m_vs2 m_f3 m_f6 m_sew m_l8 m_unmasked zO (0 : Int32) u1 (hok c1)) vX11_bit q31_10 dX11_isActive_10 rfl rfl rfl rfl rfl rfl rfl rfl rfl rfl rfl rfl rfl rfl rfl ?_
      refine k_if_eq (tgt := 20) X dX11_isActive_13 (by decide) rfl (fun c2 => ?_) (fun c2 => ?_)
      · skip
        refine k_iconst X dX11_isActive_20 kc_i_0 rfl ?_
        have e4 : (pX11_isActive_21_S1 m_unmasked zO u1) = (0 : Int32) := by rw [pX11_isActive_21_S1, if_pos c1, if_pos c2]
        rw [e4] at hJ3
        exact k_sub [0, 1] rfl hJ3
      refine k_iconst X dX11_isActive_16 kc_i_1 rfl ?_
      refine k_goto (tgt := 21) X dX11_isActive_17 (by decide) ?_
      have e5 : (pX11_isActive_21_S1 m_unmasked zO u1) = (1 : Int32) := by rw [pX11_isActive_21_S1, if_pos c1, if_neg c2]
      rw [e5] at hJ3
      exact k_sub [0, 1] rfl hJ3
    refine k_iconst X dX11_isActive_16 kc_i_1 rfl ?_
    refine k_goto (tgt := 21) X dX11_isActive_17 (by decide) ?_
    have e6 : (pX11_isActive_21_S1 m_unmasked zO u1) = (1 : Int32) := by rw [pX11_isActive_21_S1, if_neg c1]
    rw [e6] at hJ3
    exact k_sub [0, 1] rfl hJ3
  have e7 : (fX11_isActive m_unmasked zO u1) = (pX11_isActive_21_S1 m_unmasked zO u1) := by rw [fX11_isActive]
  exact k_zret9 X hRt hLk (zpX11_isActive_21_S1 m_unmasked zO u1) e7.symm rfl dX11_isActive_21
theorem vX11_isActive : kVi yX11_isActive cX11_isActive 2 (some .boolean) 1 := ⟨q31_9, q1_5, q31_7, q31_8, by decide, by decide +kernel⟩
noncomputable def pX11_open_19_zV (m_choices : Int64) (zV : Nat → Int32) (u1 : Int32) (u2 : Int32) (u3 : Int32) : Nat → Int32 := (if (fX11_chosen m_choices u3) = (0 : Int32) then zV else (fX11_put__zV zV u1 u2 u3 (fX11_ones u2)))
noncomputable def fX11_open__zV (m_choices : Int64) (zV : Nat → Int32) (u1 : Int32) (u2 : Int32) (u3 : Int32) : Nat → Int32 := (pX11_open_19_zV m_choices zV u1 u2 u3)
noncomputable def okX11_open (m_choices : Int64) (zV : Nat → Int32) (u1 : Int32) (u2 : Int32) (u3 : Int32) : Prop := (¬ ((fX11_chosen m_choices u3) = (0 : Int32)) → okX11_put zV u1 u2 u3 (fX11_ones u2))
set_option maxRecDepth 100000 in
set_option maxHeartbeats 4000000 in
theorem kX11_open (l : Launch) (D : va_G) (kI kZ : ClassId) (b_m : Nat) (b_zV : Nat) (m_thrown : Int32) (m_x : Nat) (m_old : Nat) (m_memory : Nat) (m_shut : Nat) (m_choices : Int64) (m_vl : Int32) (m_vtype : Int32) (m_vstart : Int32) (m_vxrm : Int32) (m_vxsat : Int32) (m_done : Int32) (m_illegal : Int32) (m_traps : Int32) (m_trapAddress : Int32) (m_word : Int32) (m_vd : Int32) (m_vs1 : Int32) (m_vs2 : Int32) (m_f3 : Int32) (m_f6 : Int32) (m_sew : Int32) (m_l8 : Int32) (m_unmasked : Int32) (zV : Nat → Int32) (u1 : Int32) (u2 : Int32) (u3 : Int32) (hok : okX11_open m_choices zV u1 u2 u3) : kM l yX11_open cX11_open 4 none 2 30 0 0 D [(kI, .int), (kZ, .boolean)] [.ref b_m, .int u1, .int u2, .int u3] [(b_m, .inr (10, [.int m_thrown, .ref m_x, .ref b_zV, .ref m_old, .ref m_memory, .ref m_shut, .long m_choices, .int m_vl, .int m_vtype, .int m_vstart, .int m_vxrm, .int m_vxsat, .int m_done, .int m_illegal, .int m_traps, .int m_trapAddress, .int m_word, .int m_vd, .int m_vs1, .int m_vs2, .int m_f3, .int m_f6, .int m_sew, .int m_l8, .int m_unmasked])), (b_zV, .inl (kI, 512, .inl zV))] none [(b_m, .inr (10, [.int m_thrown, .ref m_x, .ref b_zV, .ref m_old, .ref m_memory, .ref m_shut, .long m_choices, .int m_vl, .int m_vtype, .int m_vstart, .int m_vxrm, .int m_vxsat, .int m_done, .int m_illegal, .int m_traps, .int m_trapAddress, .int m_word, .int m_vd, .int m_vs1, .int m_vs2, .int m_f3, .int m_f6, .int m_sew, .int m_l8, .int m_unmasked])), (b_zV, .inl (kI, 512, .inl (fX11_open__zV m_choices zV u1 u2 u3)))] := by
  refine kM.of (by decide) rfl ?_
  intro p e R s m args below meth c A X _ _ hRt hLk
  refine k_sub [0, 1, 2, 3] (lv' := [(0, .ref b_m), (1, .int u1), (2, .int u2), (3, .int u3)]) rfl ?_
  unfold okX11_open at hok
  refine k_aload_n X dX11_open_0 rfl 0 rfl rfl ?_
  refine k_iload_n X dX11_open_1 rfl 3 rfl rfl ?_
  refine k_cV1 (st := []) (ws' := [(b_m, .inr (10, [.int m_thrown, .ref m_x, .ref b_zV, .ref m_old, .ref m_memory, .ref m_shut, .long m_choices, .int m_vl, .int m_vtype, .int m_vstart, .int m_vxrm, .int m_vxsat, .int m_done, .int m_illegal, .int m_traps, .int m_trapAddress, .int m_word, .int m_vd, .int m_vs1, .int m_vs2, .int m_f3, .int m_f6, .int m_sew, .int m_l8, .int m_unmasked])), (b_zV, .inl (kI, 512, .inl zV))]) (wr := [(b_zV, .inl (kI, 512, .inl zV))]) (ci := 10) (q9 := 0) X [.int u3] 0 [0] [1] [1, 0] (kX11_chosen l D kI kZ b_m m_thrown m_x b_zV m_old m_memory m_shut m_choices m_vl m_vtype m_vstart m_vxrm m_vxsat m_done m_illegal m_traps m_trapAddress m_word m_vd m_vs1 m_vs2 m_f3 m_f6 m_sew m_l8 m_unmasked u3) vX11_chosen q32_2 dX11_open_2 rfl rfl rfl rfl rfl rfl rfl rfl rfl rfl rfl rfl rfl rfl rfl ?_
  refine k_mid2 [(b_m, .inr (10, [.int m_thrown, .ref m_x, .ref b_zV, .ref m_old, .ref m_memory, .ref m_shut, .long m_choices, .int m_vl, .int m_vtype, .int m_vstart, .int m_vxrm, .int m_vxsat, .int m_done, .int m_illegal, .int m_traps, .int m_trapAddress, .int m_word, .int m_vd, .int m_vs1, .int m_vs2, .int m_f3, .int m_f6, .int m_sew, .int m_l8, .int m_unmasked])), (b_zV, .inl (kI, 512, .inl (pX11_open_19_zV m_choices zV u1 u2 u3)))] [(0, .ref b_m), (1, .int u1), (2, .int u2), (3, .int u3)] [] 19 (fun hJ2 => ?_) ?_
  · skip
    refine k_if_eq (tgt := 19) X dX11_open_5 (by decide) rfl (fun c1 => ?_) (fun c1 => ?_)
    · skip
      have e3 : (pX11_open_19_zV m_choices zV u1 u2 u3) = zV := by rw [pX11_open_19_zV, if_pos c1]
      rw [e3] at hJ2
      exact k_sub [0, 1, 2, 3] rfl hJ2
    refine k_aload_n X dX11_open_8 rfl 0 rfl rfl ?_
    refine k_iload_n X dX11_open_9 rfl 1 rfl rfl ?_
    refine k_iload_n X dX11_open_10 rfl 2 rfl rfl ?_
    refine k_iload_n X dX11_open_11 rfl 3 rfl rfl ?_
    refine k_iload_n X dX11_open_12 rfl 2 rfl rfl ?_
    refine k_cS1 (st := [.int u3, .int u2, .int u1, .ref b_m]) (ws' := [(b_m, .inr (10, [.int m_thrown, .ref m_x, .ref b_zV, .ref m_old, .ref m_memory, .ref m_shut, .long m_choices, .int m_vl, .int m_vtype, .int m_vstart, .int m_vxrm, .int m_vxsat, .int m_done, .int m_illegal, .int m_traps, .int m_trapAddress, .int m_word, .int m_vd, .int m_vs1, .int m_vs2, .int m_f3, .int m_f6, .int m_sew, .int m_l8, .int m_unmasked])), (b_zV, .inl (kI, 512, .inl zV))]) (wr := [(b_m, .inr (10, [.int m_thrown, .ref m_x, .ref b_zV, .ref m_old, .ref m_memory, .ref m_shut, .long m_choices, .int m_vl, .int m_vtype, .int m_vstart, .int m_vxrm, .int m_vxsat, .int m_done, .int m_illegal, .int m_traps, .int m_trapAddress, .int m_word, .int m_vd, .int m_vs1, .int m_vs2, .int m_f3, .int m_f6, .int m_sew, .int m_l8, .int m_unmasked])), (b_zV, .inl (kI, 512, .inl zV))]) X [.int u2] 4 [] [0, 1] [0, 1] (kX11_ones l D kI kZ u2) vX11_ones q32_6 dX11_open_13 rfl rfl rfl rfl rfl rfl rfl rfl rfl rfl rfl rfl rfl ?_
    refine k_cV0 (st := []) (ws' := [(b_m, .inr (10, [.int m_thrown, .ref m_x, .ref b_zV, .ref m_old, .ref m_memory, .ref m_shut, .long m_choices, .int m_vl, .int m_vtype, .int m_vstart, .int m_vxrm, .int m_vxsat, .int m_done, .int m_illegal, .int m_traps, .int m_trapAddress, .int m_word, .int m_vd, .int m_vs1, .int m_vs2, .int m_f3, .int m_f6, .int m_sew, .int m_l8, .int m_unmasked])), (b_zV, .inl (kI, 512, .inl (fX11_put__zV zV u1 u2 u3 (fX11_ones u2))))]) (wr := []) (ci := 10) (q9 := 0) X [.int u1, .int u2, .int u3, .long (fX11_ones u2)] 0 [0, 1] [] [0, 1] (kX11_put l D kI kZ b_m b_zV m_thrown m_x m_old m_memory m_shut m_choices m_vl m_vtype m_vstart m_vxrm m_vxsat m_done m_illegal m_traps m_trapAddress m_word m_vd m_vs1 m_vs2 m_f3 m_f6 m_sew m_l8 m_unmasked zV u1 u2 u3 (fX11_ones u2) (hok c1)) vX11_put q32_13 dX11_open_16 rfl rfl rfl rfl rfl rfl rfl rfl rfl rfl rfl rfl rfl rfl rfl ?_
    have e4 : (pX11_open_19_zV m_choices zV u1 u2 u3) = (fX11_put__zV zV u1 u2 u3 (fX11_ones u2)) := by rw [pX11_open_19_zV, if_neg c1]
    rw [e4] at hJ2
    exact k_sub [0, 1, 2, 3] rfl hJ2
  have e5 : (fX11_open__zV m_choices zV u1 u2 u3) = (pX11_open_19_zV m_choices zV u1 u2 u3) := by rw [fX11_open__zV]
  exact k_vret X hRt hLk (by rw [e5]) dX11_open_19
theorem vX11_open : kVi yX11_open cX11_open 4 none 3 := ⟨q32_1, q1_5, q31_23, q32_0, by decide, by decide +kernel⟩
noncomputable def pX11_openBit_15_zV (m_choices : Int64) (zV : Nat → Int32) (u1 : Int32) (u2 : Int32) : Nat → Int32 := (if (fX11_chosen m_choices u2) = (0 : Int32) then zV else (fX11_putBit__zV zV u1 u2 (1 : Int32)))
noncomputable def fX11_openBit__zV (m_choices : Int64) (zV : Nat → Int32) (u1 : Int32) (u2 : Int32) : Nat → Int32 := (pX11_openBit_15_zV m_choices zV u1 u2)
noncomputable def okX11_openBit (m_choices : Int64) (u1 : Int32) (u2 : Int32) : Prop := (¬ ((fX11_chosen m_choices u2) = (0 : Int32)) → okX11_putBit u1 u2)
set_option maxRecDepth 100000 in
set_option maxHeartbeats 4000000 in
theorem kX11_openBit (l : Launch) (D : va_G) (kI kZ : ClassId) (b_m : Nat) (b_zV : Nat) (m_thrown : Int32) (m_x : Nat) (m_old : Nat) (m_memory : Nat) (m_shut : Nat) (m_choices : Int64) (m_vl : Int32) (m_vtype : Int32) (m_vstart : Int32) (m_vxrm : Int32) (m_vxsat : Int32) (m_done : Int32) (m_illegal : Int32) (m_traps : Int32) (m_trapAddress : Int32) (m_word : Int32) (m_vd : Int32) (m_vs1 : Int32) (m_vs2 : Int32) (m_f3 : Int32) (m_f6 : Int32) (m_sew : Int32) (m_l8 : Int32) (m_unmasked : Int32) (zV : Nat → Int32) (u1 : Int32) (u2 : Int32) (hok : okX11_openBit m_choices u1 u2) : kM l yX11_openBit cX11_openBit 3 none 1 16 0 0 D [(kI, .int), (kZ, .boolean)] [.ref b_m, .int u1, .int u2] [(b_m, .inr (10, [.int m_thrown, .ref m_x, .ref b_zV, .ref m_old, .ref m_memory, .ref m_shut, .long m_choices, .int m_vl, .int m_vtype, .int m_vstart, .int m_vxrm, .int m_vxsat, .int m_done, .int m_illegal, .int m_traps, .int m_trapAddress, .int m_word, .int m_vd, .int m_vs1, .int m_vs2, .int m_f3, .int m_f6, .int m_sew, .int m_l8, .int m_unmasked])), (b_zV, .inl (kI, 512, .inl zV))] none [(b_m, .inr (10, [.int m_thrown, .ref m_x, .ref b_zV, .ref m_old, .ref m_memory, .ref m_shut, .long m_choices, .int m_vl, .int m_vtype, .int m_vstart, .int m_vxrm, .int m_vxsat, .int m_done, .int m_illegal, .int m_traps, .int m_trapAddress, .int m_word, .int m_vd, .int m_vs1, .int m_vs2, .int m_f3, .int m_f6, .int m_sew, .int m_l8, .int m_unmasked])), (b_zV, .inl (kI, 512, .inl (fX11_openBit__zV m_choices zV u1 u2)))] := by
  refine kM.of (by decide) rfl ?_
  intro p e R s m args below meth c A X _ _ hRt hLk
  refine k_sub [0, 1, 2] (lv' := [(0, .ref b_m), (1, .int u1), (2, .int u2)]) rfl ?_
  unfold okX11_openBit at hok
  refine k_aload_n X dX11_openBit_0 rfl 0 rfl rfl ?_
  refine k_iload_n X dX11_openBit_1 rfl 2 rfl rfl ?_
  refine k_cV1 (st := []) (ws' := [(b_m, .inr (10, [.int m_thrown, .ref m_x, .ref b_zV, .ref m_old, .ref m_memory, .ref m_shut, .long m_choices, .int m_vl, .int m_vtype, .int m_vstart, .int m_vxrm, .int m_vxsat, .int m_done, .int m_illegal, .int m_traps, .int m_trapAddress, .int m_word, .int m_vd, .int m_vs1, .int m_vs2, .int m_f3, .int m_f6, .int m_sew, .int m_l8, .int m_unmasked])), (b_zV, .inl (kI, 512, .inl zV))]) (wr := [(b_zV, .inl (kI, 512, .inl zV))]) (ci := 10) (q9 := 0) X [.int u2] 0 [0] [1] [1, 0] (kX11_chosen l D kI kZ b_m m_thrown m_x b_zV m_old m_memory m_shut m_choices m_vl m_vtype m_vstart m_vxrm m_vxsat m_done m_illegal m_traps m_trapAddress m_word m_vd m_vs1 m_vs2 m_f3 m_f6 m_sew m_l8 m_unmasked u2) vX11_chosen q32_2 dX11_openBit_2 rfl rfl rfl rfl rfl rfl rfl rfl rfl rfl rfl rfl rfl rfl rfl ?_
  refine k_mid2 [(b_m, .inr (10, [.int m_thrown, .ref m_x, .ref b_zV, .ref m_old, .ref m_memory, .ref m_shut, .long m_choices, .int m_vl, .int m_vtype, .int m_vstart, .int m_vxrm, .int m_vxsat, .int m_done, .int m_illegal, .int m_traps, .int m_trapAddress, .int m_word, .int m_vd, .int m_vs1, .int m_vs2, .int m_f3, .int m_f6, .int m_sew, .int m_l8, .int m_unmasked])), (b_zV, .inl (kI, 512, .inl (pX11_openBit_15_zV m_choices zV u1 u2)))] [(0, .ref b_m), (1, .int u1), (2, .int u2)] [] 15 (fun hJ2 => ?_) ?_
  · skip
    refine k_if_eq (tgt := 15) X dX11_openBit_5 (by decide) rfl (fun c1 => ?_) (fun c1 => ?_)
    · skip
      have e3 : (pX11_openBit_15_zV m_choices zV u1 u2) = zV := by rw [pX11_openBit_15_zV, if_pos c1]
      rw [e3] at hJ2
      exact k_sub [0, 1, 2] rfl hJ2
    refine k_aload_n X dX11_openBit_8 rfl 0 rfl rfl ?_
    refine k_iload_n X dX11_openBit_9 rfl 1 rfl rfl ?_
    refine k_iload_n X dX11_openBit_10 rfl 2 rfl rfl ?_
    refine k_iconst X dX11_openBit_11 kc_i_1 rfl ?_
    refine k_cV0 (st := []) (ws' := [(b_m, .inr (10, [.int m_thrown, .ref m_x, .ref b_zV, .ref m_old, .ref m_memory, .ref m_shut, .long m_choices, .int m_vl, .int m_vtype, .int m_vstart, .int m_vxrm, .int m_vxsat, .int m_done, .int m_illegal, .int m_traps, .int m_trapAddress, .int m_word, .int m_vd, .int m_vs1, .int m_vs2, .int m_f3, .int m_f6, .int m_sew, .int m_l8, .int m_unmasked])), (b_zV, .inl (kI, 512, .inl (fX11_putBit__zV zV u1 u2 (1 : Int32))))]) (wr := []) (ci := 10) (q9 := 0) X [.int u1, .int u2, .int (1 : Int32)] 0 [0, 1] [] [0, 1] (kX11_putBit l D kI kZ b_m b_zV m_thrown m_x m_old m_memory m_shut m_choices m_vl m_vtype m_vstart m_vxrm m_vxsat m_done m_illegal m_traps m_trapAddress m_word m_vd m_vs1 m_vs2 m_f3 m_f6 m_sew m_l8 m_unmasked zV u1 u2 (1 : Int32) (hok c1)) vX11_putBit q35_23 dX11_openBit_12 rfl rfl rfl rfl rfl rfl rfl rfl rfl rfl rfl rfl rfl rfl rfl ?_
    have e4 : (pX11_openBit_15_zV m_choices zV u1 u2) = (fX11_putBit__zV zV u1 u2 (1 : Int32)) := by rw [pX11_openBit_15_zV, if_neg c1]
    rw [e4] at hJ2
    exact k_sub [0, 1, 2] rfl hJ2
  have e5 : (fX11_openBit__zV m_choices zV u1 u2) = (pX11_openBit_15_zV m_choices zV u1 u2) := by rw [fX11_openBit__zV]
  exact k_vret X hRt hLk (by rw [e5]) dX11_openBit_15
theorem vX11_openBit : kVi yX11_openBit cX11_openBit 3 none 2 := ⟨q36_10, q1_5, q36_8, q36_9, by decide, by decide +kernel⟩
noncomputable def pX11_masked_14_zV (m_choices : Int64) (m_vtype : Int32) (zV : Nat → Int32) (u1 : Int32) (u2 : Int32) (u3 : Int32) : Nat → Int32 := (if (fX11_isMaskOpen m_vtype) = (0 : Int32) then zV else (fX11_open__zV m_choices zV u1 u2 u3))
noncomputable def fX11_masked__zV (m_choices : Int64) (m_vtype : Int32) (zV : Nat → Int32) (u1 : Int32) (u2 : Int32) (u3 : Int32) : Nat → Int32 := (pX11_masked_14_zV m_choices m_vtype zV u1 u2 u3)
noncomputable def okX11_masked (m_choices : Int64) (m_vtype : Int32) (zV : Nat → Int32) (u1 : Int32) (u2 : Int32) (u3 : Int32) : Prop := (¬ ((fX11_isMaskOpen m_vtype) = (0 : Int32)) → okX11_open m_choices zV u1 u2 u3)
set_option maxRecDepth 100000 in
set_option maxHeartbeats 4000000 in
theorem kX11_masked (l : Launch) (D : va_G) (kI kZ : ClassId) (b_m : Nat) (b_zV : Nat) (m_thrown : Int32) (m_x : Nat) (m_old : Nat) (m_memory : Nat) (m_shut : Nat) (m_choices : Int64) (m_vl : Int32) (m_vtype : Int32) (m_vstart : Int32) (m_vxrm : Int32) (m_vxsat : Int32) (m_done : Int32) (m_illegal : Int32) (m_traps : Int32) (m_trapAddress : Int32) (m_word : Int32) (m_vd : Int32) (m_vs1 : Int32) (m_vs2 : Int32) (m_f3 : Int32) (m_f6 : Int32) (m_sew : Int32) (m_l8 : Int32) (m_unmasked : Int32) (zV : Nat → Int32) (u1 : Int32) (u2 : Int32) (u3 : Int32) (hok : okX11_masked m_choices m_vtype zV u1 u2 u3) : kM l yX11_masked cX11_masked 4 none 3 45 0 0 D [(kI, .int), (kZ, .boolean)] [.ref b_m, .int u1, .int u2, .int u3] [(b_m, .inr (10, [.int m_thrown, .ref m_x, .ref b_zV, .ref m_old, .ref m_memory, .ref m_shut, .long m_choices, .int m_vl, .int m_vtype, .int m_vstart, .int m_vxrm, .int m_vxsat, .int m_done, .int m_illegal, .int m_traps, .int m_trapAddress, .int m_word, .int m_vd, .int m_vs1, .int m_vs2, .int m_f3, .int m_f6, .int m_sew, .int m_l8, .int m_unmasked])), (b_zV, .inl (kI, 512, .inl zV))] none [(b_m, .inr (10, [.int m_thrown, .ref m_x, .ref b_zV, .ref m_old, .ref m_memory, .ref m_shut, .long m_choices, .int m_vl, .int m_vtype, .int m_vstart, .int m_vxrm, .int m_vxsat, .int m_done, .int m_illegal, .int m_traps, .int m_trapAddress, .int m_word, .int m_vd, .int m_vs1, .int m_vs2, .int m_f3, .int m_f6, .int m_sew, .int m_l8, .int m_unmasked])), (b_zV, .inl (kI, 512, .inl (fX11_masked__zV m_choices m_vtype zV u1 u2 u3)))] := by
  refine kM.of (by decide) rfl ?_
  intro p e R s m args below meth c A X _ _ hRt hLk
  refine k_sub [0, 1, 2, 3] (lv' := [(0, .ref b_m), (1, .int u1), (2, .int u2), (3, .int u3)]) rfl ?_
  unfold okX11_masked at hok
  refine k_aload_n X dX11_masked_0 rfl 0 rfl rfl ?_
  refine k_cV1 (st := []) (ws' := [(b_m, .inr (10, [.int m_thrown, .ref m_x, .ref b_zV, .ref m_old, .ref m_memory, .ref m_shut, .long m_choices, .int m_vl, .int m_vtype, .int m_vstart, .int m_vxrm, .int m_vxsat, .int m_done, .int m_illegal, .int m_traps, .int m_trapAddress, .int m_word, .int m_vd, .int m_vs1, .int m_vs2, .int m_f3, .int m_f6, .int m_sew, .int m_l8, .int m_unmasked])), (b_zV, .inl (kI, 512, .inl zV))]) (wr := [(b_zV, .inl (kI, 512, .inl zV))]) (ci := 10) (q9 := 0) X [] 0 [0] [1] [1, 0] (kX11_isMaskOpen l D kI kZ b_m m_thrown m_x b_zV m_old m_memory m_shut m_choices m_vl m_vtype m_vstart m_vxrm m_vxsat m_done m_illegal m_traps m_trapAddress m_word m_vd m_vs1 m_vs2 m_f3 m_f6 m_sew m_l8 m_unmasked) vX11_isMaskOpen q31_18 dX11_masked_1 rfl rfl rfl rfl rfl rfl rfl rfl rfl rfl rfl rfl rfl rfl rfl ?_
  refine k_mid2 [(b_m, .inr (10, [.int m_thrown, .ref m_x, .ref b_zV, .ref m_old, .ref m_memory, .ref m_shut, .long m_choices, .int m_vl, .int m_vtype, .int m_vstart, .int m_vxrm, .int m_vxsat, .int m_done, .int m_illegal, .int m_traps, .int m_trapAddress, .int m_word, .int m_vd, .int m_vs1, .int m_vs2, .int m_f3, .int m_f6, .int m_sew, .int m_l8, .int m_unmasked])), (b_zV, .inl (kI, 512, .inl (pX11_masked_14_zV m_choices m_vtype zV u1 u2 u3)))] [(0, .ref b_m), (1, .int u1), (2, .int u2), (3, .int u3)] [] 14 (fun hJ2 => ?_) ?_
  · skip
    refine k_if_eq (tgt := 14) X dX11_masked_4 (by decide) rfl (fun c1 => ?_) (fun c1 => ?_)
    · skip
      have e3 : (pX11_masked_14_zV m_choices m_vtype zV u1 u2 u3) = zV := by rw [pX11_masked_14_zV, if_pos c1]
      rw [e3] at hJ2
      exact k_sub [0, 1, 2, 3] rfl hJ2
    refine k_aload_n X dX11_masked_7 rfl 0 rfl rfl ?_
    refine k_iload_n X dX11_masked_8 rfl 1 rfl rfl ?_
    refine k_iload_n X dX11_masked_9 rfl 2 rfl rfl ?_
    refine k_iload_n X dX11_masked_10 rfl 3 rfl rfl ?_
    refine k_cV0 (st := []) (ws' := [(b_m, .inr (10, [.int m_thrown, .ref m_x, .ref b_zV, .ref m_old, .ref m_memory, .ref m_shut, .long m_choices, .int m_vl, .int m_vtype, .int m_vstart, .int m_vxrm, .int m_vxsat, .int m_done, .int m_illegal, .int m_traps, .int m_trapAddress, .int m_word, .int m_vd, .int m_vs1, .int m_vs2, .int m_f3, .int m_f6, .int m_sew, .int m_l8, .int m_unmasked])), (b_zV, .inl (kI, 512, .inl (fX11_open__zV m_choices zV u1 u2 u3)))]) (wr := []) (ci := 10) (q9 := 0) X [.int u1, .int u2, .int u3] 0 [0, 1] [] [0, 1] (kX11_open l D kI kZ b_m b_zV m_thrown m_x m_old m_memory m_shut m_choices m_vl m_vtype m_vstart m_vxrm m_vxsat m_done m_illegal m_traps m_trapAddress m_word m_vd m_vs1 m_vs2 m_f3 m_f6 m_sew m_l8 m_unmasked zV u1 u2 u3 (hok c1)) vX11_open q31_22 dX11_masked_11 rfl rfl rfl rfl rfl rfl rfl rfl rfl rfl rfl rfl rfl rfl rfl ?_
    have e4 : (pX11_masked_14_zV m_choices m_vtype zV u1 u2 u3) = (fX11_open__zV m_choices zV u1 u2 u3) := by rw [pX11_masked_14_zV, if_neg c1]
    rw [e4] at hJ2
    exact k_sub [0, 1, 2, 3] rfl hJ2
  have e5 : (fX11_masked__zV m_choices m_vtype zV u1 u2 u3) = (pX11_masked_14_zV m_choices m_vtype zV u1 u2 u3) := by rw [fX11_masked__zV]
  exact k_vret X hRt hLk (by rw [e5]) dX11_masked_14
theorem vX11_masked : kVi yX11_masked cX11_masked 4 none 3 := ⟨q31_17, q1_5, q31_15, q31_16, by decide, by decide +kernel⟩
noncomputable def tX11_tail_24 (u2 : Int32) (u3 : Int32) (w_L6 : Int32) (w_zV : Nat → Int32) : Prop := (if (((fX11_registers u3) * (128 : Int32)) / u2) ≤ w_L6 then False else True)
noncomputable def bX11_tail_24_L6 (u2 : Int32) (u3 : Int32) (w_L6 : Int32) (w_zV : Nat → Int32) : Int32 := (if (((fX11_registers u3) * (128 : Int32)) / u2) ≤ w_L6 then w_L6 else (w_L6 + (1 : Int32)))
noncomputable def bX11_tail_24_zV (m_choices : Int64) (u1 : Int32) (u2 : Int32) (u3 : Int32) (w_L6 : Int32) (w_zV : Nat → Int32) : Nat → Int32 := (if (((fX11_registers u3) * (128 : Int32)) / u2) ≤ w_L6 then w_zV else (fX11_open__zV m_choices w_zV u1 u2 w_L6))
noncomputable def LX11_tail_24 (m_choices : Int64) (u1 : Int32) (u2 : Int32) (u3 : Int32) : Nat → Int32 × (Nat → Int32) → Int32 × (Nat → Int32)
  | 0, s => s
  | n + 1, s => LX11_tail_24 m_choices u1 u2 u3 n ((bX11_tail_24_L6 u2 u3 s.1 s.2), (bX11_tail_24_zV m_choices u1 u2 u3 s.1 s.2))
noncomputable def oX11_tail_24 (m_choices : Int64) (u1 : Int32) (u2 : Int32) (u3 : Int32) (w_L6 : Int32) (w_zV : Nat → Int32) : Prop := (¬ ((((fX11_registers u3) * (128 : Int32)) / u2) ≤ w_L6) → okX11_open m_choices w_zV u1 u2 w_L6)
noncomputable def KX11_tail_24 (m_choices : Int64) (u1 : Int32) (u2 : Int32) (u3 : Int32) : Nat → Int32 × (Nat → Int32) → Prop
  | 0, _ => True
  | n + 1, s => (tX11_tail_24 u2 u3 s.1 s.2 ∧ oX11_tail_24 m_choices u1 u2 u3 s.1 s.2) ∧ KX11_tail_24 m_choices u1 u2 u3 n ((bX11_tail_24_L6 u2 u3 s.1 s.2), (bX11_tail_24_zV m_choices u1 u2 u3 s.1 s.2))
theorem itX11_tail_24 (m_choices : Int64) (u1 : Int32) (u2 : Int32) (u3 : Int32) {b9 : Nat} (h9 : (((fX11_registers u3) * (128 : Int32)) / u2) = nI b9) (hb9 : b9 < 2147483648) : ∀ (n a : Nat) (w_zV : Nat → Int32), a + n ≤ b9 → LX11_tail_24 m_choices u1 u2 u3 n (nI a, w_zV) = (nI (a + n), itr (fun k s => ((fX11_open__zV m_choices s u1 u2 (nI k)))) n a (w_zV))
  | 0, a, w_zV, _ => rfl
  | n + 1, a, w_zV, h => by
    have hc : ¬ ((((fX11_registers u3) * (128 : Int32)) / u2) ≤ nI a) := by rw [h9]; exact nI_ge (by omega) hb9
    have e0 : bX11_tail_24_L6 u2 u3 (nI a) w_zV = nI (a + 1) := by rw [bX11_tail_24_L6, if_neg hc, nI_1]
    have e1 : bX11_tail_24_zV m_choices u1 u2 u3 (nI a) w_zV = (fX11_open__zV m_choices w_zV u1 u2 (nI a)) := by rw [bX11_tail_24_zV, if_neg hc]
    show LX11_tail_24 m_choices u1 u2 u3 n (bX11_tail_24_L6 u2 u3 (nI a) w_zV, bX11_tail_24_zV m_choices u1 u2 u3 (nI a) w_zV) = _
    rw [e0, e1, itX11_tail_24 m_choices u1 u2 u3 h9 hb9 n (a + 1) _ (by omega), show a + (n + 1) = a + 1 + n by omega]; rfl
theorem ktX11_tail_24 (m_choices : Int64) (u1 : Int32) (u2 : Int32) (u3 : Int32) {b9 : Nat} (h9 : (((fX11_registers u3) * (128 : Int32)) / u2) = nI b9) (hb9 : b9 < 2147483648) (I : Nat → (Nat → Int32) → Prop) (hI : ∀ (a : Nat) (w_zV : Nat → Int32), I a (w_zV) → a < b9 → oX11_tail_24 m_choices u1 u2 u3 (nI a) w_zV ∧ I (a + 1) ((fX11_open__zV m_choices w_zV u1 u2 (nI a)))) : ∀ (n a : Nat) (w_zV : Nat → Int32), a + n ≤ b9 → I a (w_zV) → KX11_tail_24 m_choices u1 u2 u3 n (nI a, w_zV)
  | 0, a, w_zV, _, _ => True.intro
  | n + 1, a, w_zV, h, hi => by
    have hc : ¬ ((((fX11_registers u3) * (128 : Int32)) / u2) ≤ nI a) := by rw [h9]; exact nI_ge (by omega) hb9
    have e0 : bX11_tail_24_L6 u2 u3 (nI a) w_zV = nI (a + 1) := by rw [bX11_tail_24_L6, if_neg hc, nI_1]
    have e1 : bX11_tail_24_zV m_choices u1 u2 u3 (nI a) w_zV = (fX11_open__zV m_choices w_zV u1 u2 (nI a)) := by rw [bX11_tail_24_zV, if_neg hc]
    obtain ⟨h1, h2⟩ := hI a w_zV hi (by omega)
    show (tX11_tail_24 u2 u3 (nI a) w_zV ∧ oX11_tail_24 m_choices u1 u2 u3 (nI a) w_zV) ∧ KX11_tail_24 m_choices u1 u2 u3 n (bX11_tail_24_L6 u2 u3 (nI a) w_zV, bX11_tail_24_zV m_choices u1 u2 u3 (nI a) w_zV)
    refine ⟨⟨by rw [tX11_tail_24, if_neg hc]; exact True.intro, h1⟩, ?_⟩
    rw [e0, e1]; exact ktX11_tail_24 m_choices u1 u2 u3 h9 hb9 I hI n (a + 1) _ (by omega) h2
theorem ntX11_tail_24 (m_choices : Int64) (u1 : Int32) (u2 : Int32) (u3 : Int32) {b9 : Nat} (h9 : (((fX11_registers u3) * (128 : Int32)) / u2) = nI b9) (hb9 : b9 < 2147483648) (w_zV : Nat → Int32) : ¬ tX11_tail_24 u2 u3 (nI b9) w_zV := by rw [tX11_tail_24, if_pos (by rw [h9]; exact Int32.le_refl _)]; exact id
noncomputable def fX11_tail__zV (m_choices : Int64) (m_vtype : Int32) (zV : Nat → Int32) (u1 : Int32) (u2 : Int32) (u3 : Int32) (u4 : Int32) : Nat → Int32 := (if (fX11_isTailOpen m_vtype) = (0 : Int32) then zV else (LX11_tail_24 m_choices u1 u2 u3 (cnt u4 (((fX11_registers u3) * (128 : Int32)) / u2)) (u4, zV)).2)
noncomputable def okX11_tail (m_choices : Int64) (m_vtype : Int32) (zV : Nat → Int32) (u1 : Int32) (u2 : Int32) (u3 : Int32) (u4 : Int32) : Prop := (¬ ((fX11_isTailOpen m_vtype) = (0 : Int32)) → ¬ u2 = 0) ∧ (¬ ((fX11_isTailOpen m_vtype) = (0 : Int32)) → KX11_tail_24 m_choices u1 u2 u3 (cnt u4 (((fX11_registers u3) * (128 : Int32)) / u2)) (u4, zV)) ∧ (¬ ((fX11_isTailOpen m_vtype) = (0 : Int32)) → ¬ (tX11_tail_24 u2 u3 ((LX11_tail_24 m_choices u1 u2 u3 (cnt u4 (((fX11_registers u3) * (128 : Int32)) / u2)) (u4, zV)).1) ((LX11_tail_24 m_choices u1 u2 u3 (cnt u4 (((fX11_registers u3) * (128 : Int32)) / u2)) (u4, zV)).2))) ∧ (¬ ((fX11_isTailOpen m_vtype) = (0 : Int32)) → ¬ ((((fX11_registers u3) * (128 : Int32)) / u2) ≤ (LX11_tail_24 m_choices u1 u2 u3 (cnt u4 (((fX11_registers u3) * (128 : Int32)) / u2)) (u4, zV)).1) → okX11_open m_choices ((LX11_tail_24 m_choices u1 u2 u3 (cnt u4 (((fX11_registers u3) * (128 : Int32)) / u2)) (u4, zV)).2) u1 u2 ((LX11_tail_24 m_choices u1 u2 u3 (cnt u4 (((fX11_registers u3) * (128 : Int32)) / u2)) (u4, zV)).1))
set_option maxRecDepth 100000 in
set_option maxHeartbeats 4000000 in
theorem kX11_tail (l : Launch) (D : va_G) (kI kZ : ClassId) (b_m : Nat) (b_zV : Nat) (m_thrown : Int32) (m_x : Nat) (m_old : Nat) (m_memory : Nat) (m_shut : Nat) (m_choices : Int64) (m_vl : Int32) (m_vtype : Int32) (m_vstart : Int32) (m_vxrm : Int32) (m_vxsat : Int32) (m_done : Int32) (m_illegal : Int32) (m_traps : Int32) (m_trapAddress : Int32) (m_word : Int32) (m_vd : Int32) (m_vs1 : Int32) (m_vs2 : Int32) (m_f3 : Int32) (m_f6 : Int32) (m_sew : Int32) (m_l8 : Int32) (m_unmasked : Int32) (zV : Nat → Int32) (u1 : Int32) (u2 : Int32) (u3 : Int32) (u4 : Int32) (hok : okX11_tail m_choices m_vtype zV u1 u2 u3 u4) : kM l yX11_tail cX11_tail 7 none 3 45 0 0 D [(kI, .int), (kZ, .boolean)] [.ref b_m, .int u1, .int u2, .int u3, .int u4] [(b_m, .inr (10, [.int m_thrown, .ref m_x, .ref b_zV, .ref m_old, .ref m_memory, .ref m_shut, .long m_choices, .int m_vl, .int m_vtype, .int m_vstart, .int m_vxrm, .int m_vxsat, .int m_done, .int m_illegal, .int m_traps, .int m_trapAddress, .int m_word, .int m_vd, .int m_vs1, .int m_vs2, .int m_f3, .int m_f6, .int m_sew, .int m_l8, .int m_unmasked])), (b_zV, .inl (kI, 512, .inl zV))] none [(b_m, .inr (10, [.int m_thrown, .ref m_x, .ref b_zV, .ref m_old, .ref m_memory, .ref m_shut, .long m_choices, .int m_vl, .int m_vtype, .int m_vstart, .int m_vxrm, .int m_vxsat, .int m_done, .int m_illegal, .int m_traps, .int m_trapAddress, .int m_word, .int m_vd, .int m_vs1, .int m_vs2, .int m_f3, .int m_f6, .int m_sew, .int m_l8, .int m_unmasked])), (b_zV, .inl (kI, 512, .inl (fX11_tail__zV m_choices m_vtype zV u1 u2 u3 u4)))] := by
  refine kM.of (by decide) rfl ?_
  intro p e R s m args below meth c A X _ _ hRt hLk
  refine k_sub [0, 1, 2, 3, 4] (lv' := [(0, .ref b_m), (1, .int u1), (2, .int u2), (3, .int u3), (4, .int u4)]) rfl ?_
  unfold okX11_tail at hok
  refine k_aload_n X dX11_tail_0 rfl 0 rfl rfl ?_
  refine k_cV1 (st := []) (ws' := [(b_m, .inr (10, [.int m_thrown, .ref m_x, .ref b_zV, .ref m_old, .ref m_memory, .ref m_shut, .long m_choices, .int m_vl, .int m_vtype, .int m_vstart, .int m_vxrm, .int m_vxsat, .int m_done, .int m_illegal, .int m_traps, .int m_trapAddress, .int m_word, .int m_vd, .int m_vs1, .int m_vs2, .int m_f3, .int m_f6, .int m_sew, .int m_l8, .int m_unmasked])), (b_zV, .inl (kI, 512, .inl zV))]) (wr := [(b_zV, .inl (kI, 512, .inl zV))]) (ci := 10) (q9 := 0) X [] 0 [0] [1] [1, 0] (kX11_isTailOpen l D kI kZ b_m m_thrown m_x b_zV m_old m_memory m_shut m_choices m_vl m_vtype m_vstart m_vxrm m_vxsat m_done m_illegal m_traps m_trapAddress m_word m_vd m_vs1 m_vs2 m_f3 m_f6 m_sew m_l8 m_unmasked) vX11_isTailOpen q34_15 dX11_tail_1 rfl rfl rfl rfl rfl rfl rfl rfl rfl rfl rfl rfl rfl rfl rfl ?_
  refine k_if_ne (tgt := 8) X dX11_tail_4 (by decide) rfl (fun c1 => ?_) (fun c1 => ?_)
  · skip
    have e4 : (fX11_tail__zV m_choices m_vtype zV u1 u2 u3 u4) = zV := by rw [fX11_tail__zV, if_pos c1]
    exact k_vret X hRt hLk (by rw [e4]) dX11_tail_7
  refine k_iload_n X dX11_tail_8 rfl 3 rfl rfl ?_
  refine k_cS1 (st := []) (ws' := [(b_m, .inr (10, [.int m_thrown, .ref m_x, .ref b_zV, .ref m_old, .ref m_memory, .ref m_shut, .long m_choices, .int m_vl, .int m_vtype, .int m_vstart, .int m_vxrm, .int m_vxsat, .int m_done, .int m_illegal, .int m_traps, .int m_trapAddress, .int m_word, .int m_vd, .int m_vs1, .int m_vs2, .int m_f3, .int m_f6, .int m_sew, .int m_l8, .int m_unmasked])), (b_zV, .inl (kI, 512, .inl zV))]) (wr := [(b_m, .inr (10, [.int m_thrown, .ref m_x, .ref b_zV, .ref m_old, .ref m_memory, .ref m_shut, .long m_choices, .int m_vl, .int m_vtype, .int m_vstart, .int m_vxrm, .int m_vxsat, .int m_done, .int m_illegal, .int m_traps, .int m_trapAddress, .int m_word, .int m_vd, .int m_vs1, .int m_vs2, .int m_f3, .int m_f6, .int m_sew, .int m_l8, .int m_unmasked])), (b_zV, .inl (kI, 512, .inl zV))]) X [.int u3] 0 [] [0, 1] [0, 1] (kX11_registers l D kI kZ u3) vX11_registers q30_13 dX11_tail_9 rfl rfl rfl rfl rfl rfl rfl rfl rfl rfl rfl rfl rfl ?_
  refine k_sipush X dX11_tail_12 kc_s_128 rfl ?_
  refine k_imul X dX11_tail_15 rfl ?_
  refine k_iload_n X dX11_tail_16 rfl 2 rfl rfl ?_
  refine k_idiv X dX11_tail_17 (hok.1 c1) rfl ?_
  refine k_istore (lv' := [(5, .int (((fX11_registers u3) * (128 : Int32)) / u2)), (0, .ref b_m), (1, .int u1), (2, .int u2), (3, .int u3), (4, .int u4)]) X dX11_tail_18 rfl rfl rfl ?_
  refine k_iload X dX11_tail_20 5 rfl rfl ?_
  refine k_istore (lv' := [(6, .int u4), (5, .int (((fX11_registers u3) * (128 : Int32)) / u2)), (0, .ref b_m), (1, .int u1), (2, .int u2), (3, .int u3), (4, .int u4)]) X dX11_tail_22 rfl rfl rfl ?_
  refine k_sub [2, 3, 4, 5, 6, 1, 0] (lv' := [(0, .ref b_m), (1, .int u1), (2, .int u2), (3, .int u3), (4, .int u4), (5, .int (((fX11_registers u3) * (128 : Int32)) / u2)), (6, .int u4)]) rfl ?_
  refine k_loop (KX11_tail_24 m_choices u1 u2 u3) (LX11_tail_24 m_choices u1 u2 u3) (fun s9 => (bX11_tail_24_L6 u2 u3 s9.1 s9.2, bX11_tail_24_zV m_choices u1 u2 u3 s9.1 s9.2)) (fun s9 => tX11_tail_24 u2 u3 s9.1 s9.2 ∧ oX11_tail_24 m_choices u1 u2 u3 s9.1 s9.2) (fun s9 => [(b_m, .inr (10, [.int m_thrown, .ref m_x, .ref b_zV, .ref m_old, .ref m_memory, .ref m_shut, .long m_choices, .int m_vl, .int m_vtype, .int m_vstart, .int m_vxrm, .int m_vxsat, .int m_done, .int m_illegal, .int m_traps, .int m_trapAddress, .int m_word, .int m_vd, .int m_vs1, .int m_vs2, .int m_f3, .int m_f6, .int m_sew, .int m_l8, .int m_unmasked])), (b_zV, .inl (kI, 512, .inl s9.2))]) (fun s9 => [(0, .ref b_m), (1, .int u1), (2, .int u2), (3, .int u3), (4, .int u4), (5, .int (((fX11_registers u3) * (128 : Int32)) / u2)), (6, .int s9.1)]) 24 (fun _ => rfl) (fun _ _ => rfl) (fun _ _ h => h) ?_ (cnt u4 (((fX11_registers u3) * (128 : Int32)) / u2)) (u4, zV) (hok.2.1 c1) ?_
  · rintro ⟨w_L6, w_zV⟩ ⟨hlat, hob⟩ g0
    try dsimp only at hlat hob g0 ⊢
    unfold oX11_tail_24 at hob
    refine k_iload X dX11_tail_24 6 rfl rfl ?_
    refine k_iload X dX11_tail_26 5 rfl rfl ?_
    refine k_icmp_ge (tgt := 45) X dX11_tail_28 (by decide) rfl (fun c2 => ?_) (fun c2 => ?_)
    · skip
      exact absurd hlat (by rw [tX11_tail_24, if_pos c2]; exact id)
    refine k_aload_n X dX11_tail_31 rfl 0 rfl rfl ?_
    refine k_iload_n X dX11_tail_32 rfl 1 rfl rfl ?_
    refine k_iload_n X dX11_tail_33 rfl 2 rfl rfl ?_
    refine k_iload X dX11_tail_34 6 rfl rfl ?_
    refine k_cV0 (st := []) (ws' := [(b_m, .inr (10, [.int m_thrown, .ref m_x, .ref b_zV, .ref m_old, .ref m_memory, .ref m_shut, .long m_choices, .int m_vl, .int m_vtype, .int m_vstart, .int m_vxrm, .int m_vxsat, .int m_done, .int m_illegal, .int m_traps, .int m_trapAddress, .int m_word, .int m_vd, .int m_vs1, .int m_vs2, .int m_f3, .int m_f6, .int m_sew, .int m_l8, .int m_unmasked])), (b_zV, .inl (kI, 512, .inl (fX11_open__zV m_choices w_zV u1 u2 w_L6)))]) (wr := []) (ci := 10) (q9 := 0) X [.int u1, .int u2, .int w_L6] 0 [0, 1] [] [0, 1] (kX11_open l D kI kZ b_m b_zV m_thrown m_x m_old m_memory m_shut m_choices m_vl m_vtype m_vstart m_vxrm m_vxsat m_done m_illegal m_traps m_trapAddress m_word m_vd m_vs1 m_vs2 m_f3 m_f6 m_sew m_l8 m_unmasked w_zV u1 u2 w_L6 (hob c2)) vX11_open q31_22 dX11_tail_36 rfl rfl rfl rfl rfl rfl rfl rfl rfl rfl rfl rfl rfl rfl rfl ?_
    refine k_iinc (lv' := [(6, .int (w_L6 + (1 : Int32))), (0, .ref b_m), (1, .int u1), (2, .int u2), (3, .int u3), (4, .int u4), (5, .int (((fX11_registers u3) * (128 : Int32)) / u2))]) X dX11_tail_39 6 rfl kc_i_1 rfl rfl rfl ?_
    refine k_goto (tgt := 24) X dX11_tail_42 (by decide) ?_
    have e5 : bX11_tail_24_L6 u2 u3 w_L6 w_zV = (w_L6 + (1 : Int32)) := by rw [bX11_tail_24_L6, if_neg c2]
    rw [e5] at g0
    have e6 : bX11_tail_24_zV m_choices u1 u2 u3 w_L6 w_zV = (fX11_open__zV m_choices w_zV u1 u2 w_L6) := by rw [bX11_tail_24_zV, if_neg c2]
    rw [e6] at g0
    exact k_sub [1, 2, 3, 4, 5, 6, 0] rfl g0
  try dsimp only
  refine k_iload X dX11_tail_24 6 rfl rfl ?_
  refine k_iload X dX11_tail_26 5 rfl rfl ?_
  refine k_icmp_ge (tgt := 45) X dX11_tail_28 (by decide) rfl (fun c3 => ?_) (fun c3 => ?_)
  · skip
    have e7 : (fX11_tail__zV m_choices m_vtype zV u1 u2 u3 u4) = (LX11_tail_24 m_choices u1 u2 u3 (cnt u4 (((fX11_registers u3) * (128 : Int32)) / u2)) (u4, zV)).2 := by rw [fX11_tail__zV, if_neg c1]
    exact k_vret X hRt hLk (by rw [e7]) dX11_tail_45
  refine k_aload_n X dX11_tail_31 rfl 0 rfl rfl ?_
  refine k_iload_n X dX11_tail_32 rfl 1 rfl rfl ?_
  refine k_iload_n X dX11_tail_33 rfl 2 rfl rfl ?_
  refine k_iload X dX11_tail_34 6 rfl rfl ?_
  refine k_cV0 (st := []) (ws' := [(b_m, .inr (10, [.int m_thrown, .ref m_x, .ref b_zV, .ref m_old, .ref m_memory, .ref m_shut, .long m_choices, .int m_vl, .int m_vtype, .int m_vstart, .int m_vxrm, .int m_vxsat, .int m_done, .int m_illegal, .int m_traps, .int m_trapAddress, .int m_word, .int m_vd, .int m_vs1, .int m_vs2, .int m_f3, .int m_f6, .int m_sew, .int m_l8, .int m_unmasked])), (b_zV, .inl (kI, 512, .inl (fX11_open__zV m_choices ((LX11_tail_24 m_choices u1 u2 u3 (cnt u4 (((fX11_registers u3) * (128 : Int32)) / u2)) (u4, zV)).2) u1 u2 ((LX11_tail_24 m_choices u1 u2 u3 (cnt u4 (((fX11_registers u3) * (128 : Int32)) / u2)) (u4, zV)).1))))]) (wr := []) (ci := 10) (q9 := 0) X [.int u1, .int u2, .int ((LX11_tail_24 m_choices u1 u2 u3 (cnt u4 (((fX11_registers u3) * (128 : Int32)) / u2)) (u4, zV)).1)] 0 [0, 1] [] [0, 1] (kX11_open l D kI kZ b_m b_zV m_thrown m_x m_old m_memory m_shut m_choices m_vl m_vtype m_vstart m_vxrm m_vxsat m_done m_illegal m_traps m_trapAddress m_word m_vd m_vs1 m_vs2 m_f3 m_f6 m_sew m_l8 m_unmasked ((LX11_tail_24 m_choices u1 u2 u3 (cnt u4 (((fX11_registers u3) * (128 : Int32)) / u2)) (u4, zV)).2) u1 u2 ((LX11_tail_24 m_choices u1 u2 u3 (cnt u4 (((fX11_registers u3) * (128 : Int32)) / u2)) (u4, zV)).1) (hok.2.2.2 c1 c3)) vX11_open q31_22 dX11_tail_36 rfl rfl rfl rfl rfl rfl rfl rfl rfl rfl rfl rfl rfl rfl rfl ?_
  refine k_iinc (lv' := [(6, .int ((LX11_tail_24 m_choices u1 u2 u3 (cnt u4 (((fX11_registers u3) * (128 : Int32)) / u2)) (u4, zV)).1 + (1 : Int32))), (0, .ref b_m), (1, .int u1), (2, .int u2), (3, .int u3), (4, .int u4), (5, .int (((fX11_registers u3) * (128 : Int32)) / u2))]) X dX11_tail_39 6 rfl kc_i_1 rfl rfl rfl ?_
  refine k_goto (tgt := 24) X dX11_tail_42 (by decide) ?_
  exact absurd (show tX11_tail_24 u2 u3 ((LX11_tail_24 m_choices u1 u2 u3 (cnt u4 (((fX11_registers u3) * (128 : Int32)) / u2)) (u4, zV)).1) ((LX11_tail_24 m_choices u1 u2 u3 (cnt u4 (((fX11_registers u3) * (128 : Int32)) / u2)) (u4, zV)).2) from by rw [tX11_tail_24, if_neg c3]; exact True.intro) (hok.2.2.1 c1)
theorem vX11_tail : kVi yX11_tail cX11_tail 7 none 4 := ⟨q34_14, q1_5, q34_12, q34_13, by decide, by decide +kernel⟩
noncomputable def tX11_maskTail_5 (w_L2 : Int32) (w_zV : Nat → Int32) : Prop := (if (128 : Int32) ≤ w_L2 then False else True)
noncomputable def bX11_maskTail_5_L2 (w_L2 : Int32) (w_zV : Nat → Int32) : Int32 := (if (128 : Int32) ≤ w_L2 then w_L2 else (w_L2 + (1 : Int32)))
noncomputable def bX11_maskTail_5_zV (m_choices : Int64) (u1 : Int32) (w_L2 : Int32) (w_zV : Nat → Int32) : Nat → Int32 := (if (128 : Int32) ≤ w_L2 then w_zV else (fX11_openBit__zV m_choices w_zV u1 w_L2))
noncomputable def LX11_maskTail_5 (m_choices : Int64) (u1 : Int32) : Nat → Int32 × (Nat → Int32) → Int32 × (Nat → Int32)
  | 0, s => s
  | n + 1, s => LX11_maskTail_5 m_choices u1 n ((bX11_maskTail_5_L2 s.1 s.2), (bX11_maskTail_5_zV m_choices u1 s.1 s.2))
noncomputable def oX11_maskTail_5 (m_choices : Int64) (u1 : Int32) (w_L2 : Int32) (w_zV : Nat → Int32) : Prop := (¬ ((128 : Int32) ≤ w_L2) → okX11_openBit m_choices u1 w_L2)
noncomputable def KX11_maskTail_5 (m_choices : Int64) (u1 : Int32) : Nat → Int32 × (Nat → Int32) → Prop
  | 0, _ => True
  | n + 1, s => (tX11_maskTail_5 s.1 s.2 ∧ oX11_maskTail_5 m_choices u1 s.1 s.2) ∧ KX11_maskTail_5 m_choices u1 n ((bX11_maskTail_5_L2 s.1 s.2), (bX11_maskTail_5_zV m_choices u1 s.1 s.2))
theorem itX11_maskTail_5 (m_choices : Int64) (u1 : Int32) {b9 : Nat} (h9 : (128 : Int32) = nI b9) (hb9 : b9 < 2147483648) : ∀ (n a : Nat) (w_zV : Nat → Int32), a + n ≤ b9 → LX11_maskTail_5 m_choices u1 n (nI a, w_zV) = (nI (a + n), itr (fun k s => ((fX11_openBit__zV m_choices s u1 (nI k)))) n a (w_zV))
  | 0, a, w_zV, _ => rfl
  | n + 1, a, w_zV, h => by
    have hc : ¬ ((128 : Int32) ≤ nI a) := by rw [h9]; exact nI_ge (by omega) hb9
    have e0 : bX11_maskTail_5_L2 (nI a) w_zV = nI (a + 1) := by rw [bX11_maskTail_5_L2, if_neg hc, nI_1]
    have e1 : bX11_maskTail_5_zV m_choices u1 (nI a) w_zV = (fX11_openBit__zV m_choices w_zV u1 (nI a)) := by rw [bX11_maskTail_5_zV, if_neg hc]
    show LX11_maskTail_5 m_choices u1 n (bX11_maskTail_5_L2 (nI a) w_zV, bX11_maskTail_5_zV m_choices u1 (nI a) w_zV) = _
    rw [e0, e1, itX11_maskTail_5 m_choices u1 h9 hb9 n (a + 1) _ (by omega), show a + (n + 1) = a + 1 + n by omega]; rfl
theorem ktX11_maskTail_5 (m_choices : Int64) (u1 : Int32) {b9 : Nat} (h9 : (128 : Int32) = nI b9) (hb9 : b9 < 2147483648) (I : Nat → (Nat → Int32) → Prop) (hI : ∀ (a : Nat) (w_zV : Nat → Int32), I a (w_zV) → a < b9 → oX11_maskTail_5 m_choices u1 (nI a) w_zV ∧ I (a + 1) ((fX11_openBit__zV m_choices w_zV u1 (nI a)))) : ∀ (n a : Nat) (w_zV : Nat → Int32), a + n ≤ b9 → I a (w_zV) → KX11_maskTail_5 m_choices u1 n (nI a, w_zV)
  | 0, a, w_zV, _, _ => True.intro
  | n + 1, a, w_zV, h, hi => by
    have hc : ¬ ((128 : Int32) ≤ nI a) := by rw [h9]; exact nI_ge (by omega) hb9
    have e0 : bX11_maskTail_5_L2 (nI a) w_zV = nI (a + 1) := by rw [bX11_maskTail_5_L2, if_neg hc, nI_1]
    have e1 : bX11_maskTail_5_zV m_choices u1 (nI a) w_zV = (fX11_openBit__zV m_choices w_zV u1 (nI a)) := by rw [bX11_maskTail_5_zV, if_neg hc]
    obtain ⟨h1, h2⟩ := hI a w_zV hi (by omega)
    show (tX11_maskTail_5 (nI a) w_zV ∧ oX11_maskTail_5 m_choices u1 (nI a) w_zV) ∧ KX11_maskTail_5 m_choices u1 n (bX11_maskTail_5_L2 (nI a) w_zV, bX11_maskTail_5_zV m_choices u1 (nI a) w_zV)
    refine ⟨⟨by rw [tX11_maskTail_5, if_neg hc]; exact True.intro, h1⟩, ?_⟩
    rw [e0, e1]; exact ktX11_maskTail_5 m_choices u1 h9 hb9 I hI n (a + 1) _ (by omega) h2
theorem ntX11_maskTail_5 (m_choices : Int64) (u1 : Int32) {b9 : Nat} (h9 : (128 : Int32) = nI b9) (hb9 : b9 < 2147483648) (w_zV : Nat → Int32) : ¬ tX11_maskTail_5 (nI b9) w_zV := by rw [tX11_maskTail_5, if_pos (by rw [h9]; exact Int32.le_refl _)]; exact id
noncomputable def fX11_maskTail__zV (m_choices : Int64) (m_vl : Int32) (zV : Nat → Int32) (u1 : Int32) : Nat → Int32 := (LX11_maskTail_5 m_choices u1 (cnt m_vl (128 : Int32)) (m_vl, zV)).2
noncomputable def okX11_maskTail (m_choices : Int64) (m_vl : Int32) (zV : Nat → Int32) (u1 : Int32) : Prop := (KX11_maskTail_5 m_choices u1 (cnt m_vl (128 : Int32)) (m_vl, zV)) ∧ (¬ (tX11_maskTail_5 ((LX11_maskTail_5 m_choices u1 (cnt m_vl (128 : Int32)) (m_vl, zV)).1) ((LX11_maskTail_5 m_choices u1 (cnt m_vl (128 : Int32)) (m_vl, zV)).2))) ∧ (¬ ((128 : Int32) ≤ (LX11_maskTail_5 m_choices u1 (cnt m_vl (128 : Int32)) (m_vl, zV)).1) → okX11_openBit m_choices u1 ((LX11_maskTail_5 m_choices u1 (cnt m_vl (128 : Int32)) (m_vl, zV)).1))
set_option maxRecDepth 100000 in
set_option maxHeartbeats 4000000 in
theorem kX11_maskTail (l : Launch) (D : va_G) (kI kZ : ClassId) (b_m : Nat) (b_zV : Nat) (m_thrown : Int32) (m_x : Nat) (m_old : Nat) (m_memory : Nat) (m_shut : Nat) (m_choices : Int64) (m_vl : Int32) (m_vtype : Int32) (m_vstart : Int32) (m_vxrm : Int32) (m_vxsat : Int32) (m_done : Int32) (m_illegal : Int32) (m_traps : Int32) (m_trapAddress : Int32) (m_word : Int32) (m_vd : Int32) (m_vs1 : Int32) (m_vs2 : Int32) (m_f3 : Int32) (m_f6 : Int32) (m_sew : Int32) (m_l8 : Int32) (m_unmasked : Int32) (zV : Nat → Int32) (u1 : Int32) (hok : okX11_maskTail m_choices m_vl zV u1) : kM l yX11_maskTail cX11_maskTail 3 none 2 30 0 0 D [(kI, .int), (kZ, .boolean)] [.ref b_m, .int u1] [(b_m, .inr (10, [.int m_thrown, .ref m_x, .ref b_zV, .ref m_old, .ref m_memory, .ref m_shut, .long m_choices, .int m_vl, .int m_vtype, .int m_vstart, .int m_vxrm, .int m_vxsat, .int m_done, .int m_illegal, .int m_traps, .int m_trapAddress, .int m_word, .int m_vd, .int m_vs1, .int m_vs2, .int m_f3, .int m_f6, .int m_sew, .int m_l8, .int m_unmasked])), (b_zV, .inl (kI, 512, .inl zV))] none [(b_m, .inr (10, [.int m_thrown, .ref m_x, .ref b_zV, .ref m_old, .ref m_memory, .ref m_shut, .long m_choices, .int m_vl, .int m_vtype, .int m_vstart, .int m_vxrm, .int m_vxsat, .int m_done, .int m_illegal, .int m_traps, .int m_trapAddress, .int m_word, .int m_vd, .int m_vs1, .int m_vs2, .int m_f3, .int m_f6, .int m_sew, .int m_l8, .int m_unmasked])), (b_zV, .inl (kI, 512, .inl (fX11_maskTail__zV m_choices m_vl zV u1)))] := by
  refine kM.of (by decide) rfl ?_
  intro p e R s m args below meth c A X _ _ hRt hLk
  refine k_sub [0, 1] (lv' := [(0, .ref b_m), (1, .int u1)]) rfl ?_
  unfold okX11_maskTail at hok
  refine k_aload_n X dX11_maskTail_0 rfl 0 rfl rfl ?_
  refine k_get X i_wsX110 0 7 q28_7 rfl rfl rfl rfl rfl dX11_maskTail_1 rfl ?_
  refine k_istore_n (lv' := [(2, .int m_vl), (0, .ref b_m), (1, .int u1)]) X dX11_maskTail_4 rfl rfl rfl rfl ?_
  refine k_sub [1, 2, 0] (lv' := [(0, .ref b_m), (1, .int u1), (2, .int m_vl)]) rfl ?_
  refine k_loop (KX11_maskTail_5 m_choices u1) (LX11_maskTail_5 m_choices u1) (fun s9 => (bX11_maskTail_5_L2 s9.1 s9.2, bX11_maskTail_5_zV m_choices u1 s9.1 s9.2)) (fun s9 => tX11_maskTail_5 s9.1 s9.2 ∧ oX11_maskTail_5 m_choices u1 s9.1 s9.2) (fun s9 => [(b_m, .inr (10, [.int m_thrown, .ref m_x, .ref b_zV, .ref m_old, .ref m_memory, .ref m_shut, .long m_choices, .int m_vl, .int m_vtype, .int m_vstart, .int m_vxrm, .int m_vxsat, .int m_done, .int m_illegal, .int m_traps, .int m_trapAddress, .int m_word, .int m_vd, .int m_vs1, .int m_vs2, .int m_f3, .int m_f6, .int m_sew, .int m_l8, .int m_unmasked])), (b_zV, .inl (kI, 512, .inl s9.2))]) (fun s9 => [(0, .ref b_m), (1, .int u1), (2, .int s9.1)]) 5 (fun _ => rfl) (fun _ _ => rfl) (fun _ _ h => h) ?_ (cnt m_vl (128 : Int32)) (m_vl, zV) (hok.1) ?_
  · rintro ⟨w_L2, w_zV⟩ ⟨hlat, hob⟩ g0
    try dsimp only at hlat hob g0 ⊢
    unfold oX11_maskTail_5 at hob
    refine k_iload_n X dX11_maskTail_5 rfl 2 rfl rfl ?_
    refine k_sipush X dX11_maskTail_6 kc_s_128 rfl ?_
    refine k_icmp_ge (tgt := 24) X dX11_maskTail_9 (by decide) rfl (fun c1 => ?_) (fun c1 => ?_)
    · skip
      exact absurd hlat (by rw [tX11_maskTail_5, if_pos c1]; exact id)
    refine k_aload_n X dX11_maskTail_12 rfl 0 rfl rfl ?_
    refine k_iload_n X dX11_maskTail_13 rfl 1 rfl rfl ?_
    refine k_iload_n X dX11_maskTail_14 rfl 2 rfl rfl ?_
    refine k_cV0 (st := []) (ws' := [(b_m, .inr (10, [.int m_thrown, .ref m_x, .ref b_zV, .ref m_old, .ref m_memory, .ref m_shut, .long m_choices, .int m_vl, .int m_vtype, .int m_vstart, .int m_vxrm, .int m_vxsat, .int m_done, .int m_illegal, .int m_traps, .int m_trapAddress, .int m_word, .int m_vd, .int m_vs1, .int m_vs2, .int m_f3, .int m_f6, .int m_sew, .int m_l8, .int m_unmasked])), (b_zV, .inl (kI, 512, .inl (fX11_openBit__zV m_choices w_zV u1 w_L2)))]) (wr := []) (ci := 10) (q9 := 0) X [.int u1, .int w_L2] 0 [0, 1] [] [0, 1] (kX11_openBit l D kI kZ b_m b_zV m_thrown m_x m_old m_memory m_shut m_choices m_vl m_vtype m_vstart m_vxrm m_vxsat m_done m_illegal m_traps m_trapAddress m_word m_vd m_vs1 m_vs2 m_f3 m_f6 m_sew m_l8 m_unmasked w_zV u1 w_L2 (hob c1)) vX11_openBit q36_7 dX11_maskTail_15 rfl rfl rfl rfl rfl rfl rfl rfl rfl rfl rfl rfl rfl rfl rfl ?_
    refine k_iinc (lv' := [(2, .int (w_L2 + (1 : Int32))), (0, .ref b_m), (1, .int u1)]) X dX11_maskTail_18 2 rfl kc_i_1 rfl rfl rfl ?_
    refine k_goto (tgt := 5) X dX11_maskTail_21 (by decide) ?_
    have e3 : bX11_maskTail_5_L2 w_L2 w_zV = (w_L2 + (1 : Int32)) := by rw [bX11_maskTail_5_L2, if_neg c1]
    rw [e3] at g0
    have e4 : bX11_maskTail_5_zV m_choices u1 w_L2 w_zV = (fX11_openBit__zV m_choices w_zV u1 w_L2) := by rw [bX11_maskTail_5_zV, if_neg c1]
    rw [e4] at g0
    exact k_sub [1, 2, 0] rfl g0
  try dsimp only
  refine k_iload_n X dX11_maskTail_5 rfl 2 rfl rfl ?_
  refine k_sipush X dX11_maskTail_6 kc_s_128 rfl ?_
  refine k_icmp_ge (tgt := 24) X dX11_maskTail_9 (by decide) rfl (fun c2 => ?_) (fun c2 => ?_)
  · skip
    have e5 : (fX11_maskTail__zV m_choices m_vl zV u1) = (LX11_maskTail_5 m_choices u1 (cnt m_vl (128 : Int32)) (m_vl, zV)).2 := by rw [fX11_maskTail__zV]
    exact k_vret X hRt hLk (by rw [e5]) dX11_maskTail_24
  refine k_aload_n X dX11_maskTail_12 rfl 0 rfl rfl ?_
  refine k_iload_n X dX11_maskTail_13 rfl 1 rfl rfl ?_
  refine k_iload_n X dX11_maskTail_14 rfl 2 rfl rfl ?_
  refine k_cV0 (st := []) (ws' := [(b_m, .inr (10, [.int m_thrown, .ref m_x, .ref b_zV, .ref m_old, .ref m_memory, .ref m_shut, .long m_choices, .int m_vl, .int m_vtype, .int m_vstart, .int m_vxrm, .int m_vxsat, .int m_done, .int m_illegal, .int m_traps, .int m_trapAddress, .int m_word, .int m_vd, .int m_vs1, .int m_vs2, .int m_f3, .int m_f6, .int m_sew, .int m_l8, .int m_unmasked])), (b_zV, .inl (kI, 512, .inl (fX11_openBit__zV m_choices ((LX11_maskTail_5 m_choices u1 (cnt m_vl (128 : Int32)) (m_vl, zV)).2) u1 ((LX11_maskTail_5 m_choices u1 (cnt m_vl (128 : Int32)) (m_vl, zV)).1))))]) (wr := []) (ci := 10) (q9 := 0) X [.int u1, .int ((LX11_maskTail_5 m_choices u1 (cnt m_vl (128 : Int32)) (m_vl, zV)).1)] 0 [0, 1] [] [0, 1] (kX11_openBit l D kI kZ b_m b_zV m_thrown m_x m_old m_memory m_shut m_choices m_vl m_vtype m_vstart m_vxrm m_vxsat m_done m_illegal m_traps m_trapAddress m_word m_vd m_vs1 m_vs2 m_f3 m_f6 m_sew m_l8 m_unmasked ((LX11_maskTail_5 m_choices u1 (cnt m_vl (128 : Int32)) (m_vl, zV)).2) u1 ((LX11_maskTail_5 m_choices u1 (cnt m_vl (128 : Int32)) (m_vl, zV)).1) (hok.2.2 c2)) vX11_openBit q36_7 dX11_maskTail_15 rfl rfl rfl rfl rfl rfl rfl rfl rfl rfl rfl rfl rfl rfl rfl ?_
  refine k_iinc (lv' := [(2, .int ((LX11_maskTail_5 m_choices u1 (cnt m_vl (128 : Int32)) (m_vl, zV)).1 + (1 : Int32))), (0, .ref b_m), (1, .int u1)]) X dX11_maskTail_18 2 rfl kc_i_1 rfl rfl rfl ?_
  refine k_goto (tgt := 5) X dX11_maskTail_21 (by decide) ?_
  exact absurd (show tX11_maskTail_5 ((LX11_maskTail_5 m_choices u1 (cnt m_vl (128 : Int32)) (m_vl, zV)).1) ((LX11_maskTail_5 m_choices u1 (cnt m_vl (128 : Int32)) (m_vl, zV)).2) from by rw [tX11_maskTail_5, if_neg c2]; exact True.intro) (hok.2.1)
theorem vX11_maskTail : kVi yX11_maskTail cX11_maskTail 3 none 1 := ⟨q36_6, q1_5, q36_4, q36_5, by decide, by decide +kernel⟩
noncomputable def pX11_second__44_S1 (m_vs1 : Int32) (m_f3 : Int32) (zX : Nat → Int32) : Int64 := (if (fX11_isX m_f3) = (0 : Int32) then (fX11_immediate m_vs1) else (Int32.toInt64 (zX (Int32.toNatClampNeg m_vs1))))
noncomputable def pX11_second__48_S1 (m_vs1 : Int32) (m_f3 : Int32) (zX : Nat → Int32) (zO : Nat → Int32) (u1 : Int32) (u2 : Int32) : Int64 := (if (fX11_isV m_f3) = (0 : Int32) then (fX11_cut (pX11_second__44_S1 m_vs1 m_f3 zX) u1) else (fX11_get zO m_vs1 u1 u2))
noncomputable def fX11_second_ (m_vs1 : Int32) (m_f3 : Int32) (zX : Nat → Int32) (zO : Nat → Int32) (u1 : Int32) (u2 : Int32) : Int64 := (pX11_second__48_S1 m_vs1 m_f3 zX zO u1 u2)
noncomputable def okX11_second_ (m_vs1 : Int32) (m_f3 : Int32) (zO : Nat → Int32) (u1 : Int32) (u2 : Int32) : Prop := (((fX11_isV m_f3) = (0 : Int32)) → ¬ ((fX11_isX m_f3) = (0 : Int32)) → vp_in m_vs1 32) ∧ (¬ ((fX11_isV m_f3) = (0 : Int32)) → okX11_get zO m_vs1 u1 u2)
set_option maxRecDepth 100000 in
set_option maxHeartbeats 4000000 in
theorem kX11_second_ (l : Launch) (D : va_G) (kI kZ : ClassId) (b_m : Nat) (b_zX : Nat) (b_zO : Nat) (m_thrown : Int32) (m_v : Nat) (m_memory : Nat) (m_shut : Nat) (m_choices : Int64) (m_vl : Int32) (m_vtype : Int32) (m_vstart : Int32) (m_vxrm : Int32) (m_vxsat : Int32) (m_done : Int32) (m_illegal : Int32) (m_traps : Int32) (m_trapAddress : Int32) (m_word : Int32) (m_vd : Int32) (m_vs1 : Int32) (m_vs2 : Int32) (m_f3 : Int32) (m_f6 : Int32) (m_sew : Int32) (m_l8 : Int32) (m_unmasked : Int32) (zX : Nat → Int32) (zO : Nat → Int32) (u1 : Int32) (u2 : Int32) (hok : okX11_second_ m_vs1 m_f3 zO u1 u2) : kM l yX11_second_ cX11_second_ 3 (some .long) 1 19 0 0 D [(kI, .int), (kZ, .boolean)] [.ref b_m, .int u1, .int u2] [(b_m, .inr (10, [.int m_thrown, .ref b_zX, .ref m_v, .ref b_zO, .ref m_memory, .ref m_shut, .long m_choices, .int m_vl, .int m_vtype, .int m_vstart, .int m_vxrm, .int m_vxsat, .int m_done, .int m_illegal, .int m_traps, .int m_trapAddress, .int m_word, .int m_vd, .int m_vs1, .int m_vs2, .int m_f3, .int m_f6, .int m_sew, .int m_l8, .int m_unmasked])), (b_zX, .inl (kI, 32, .inl zX)), (b_zO, .inl (kI, 512, .inl zO))] (some (.long (fX11_second_ m_vs1 m_f3 zX zO u1 u2))) [(b_m, .inr (10, [.int m_thrown, .ref b_zX, .ref m_v, .ref b_zO, .ref m_memory, .ref m_shut, .long m_choices, .int m_vl, .int m_vtype, .int m_vstart, .int m_vxrm, .int m_vxsat, .int m_done, .int m_illegal, .int m_traps, .int m_trapAddress, .int m_word, .int m_vd, .int m_vs1, .int m_vs2, .int m_f3, .int m_f6, .int m_sew, .int m_l8, .int m_unmasked])), (b_zX, .inl (kI, 32, .inl zX)), (b_zO, .inl (kI, 512, .inl zO))] := by
  refine kM.of (by decide) rfl ?_
  intro p e R s m args below meth c A X _ _ hRt hLk
  refine k_sub [0, 1, 2] (lv' := [(0, .ref b_m), (1, .int u1), (2, .int u2)]) rfl ?_
  unfold okX11_second_ at hok
  refine k_aload_n X dX11_second__0 rfl 0 rfl rfl ?_
  refine k_cV1 (st := []) (ws' := [(b_m, .inr (10, [.int m_thrown, .ref b_zX, .ref m_v, .ref b_zO, .ref m_memory, .ref m_shut, .long m_choices, .int m_vl, .int m_vtype, .int m_vstart, .int m_vxrm, .int m_vxsat, .int m_done, .int m_illegal, .int m_traps, .int m_trapAddress, .int m_word, .int m_vd, .int m_vs1, .int m_vs2, .int m_f3, .int m_f6, .int m_sew, .int m_l8, .int m_unmasked])), (b_zX, .inl (kI, 32, .inl zX)), (b_zO, .inl (kI, 512, .inl zO))]) (wr := [(b_zX, .inl (kI, 32, .inl zX)), (b_zO, .inl (kI, 512, .inl zO))]) (ci := 10) (q9 := 0) X [] 0 [0] [1, 2] [2, 0, 1] (kX11_isV l D kI kZ b_m m_thrown b_zX m_v b_zO m_memory m_shut m_choices m_vl m_vtype m_vstart m_vxrm m_vxsat m_done m_illegal m_traps m_trapAddress m_word m_vd m_vs1 m_vs2 m_f3 m_f6 m_sew m_l8 m_unmasked) vX11_isV q29_9 dX11_second__1 rfl rfl rfl rfl rfl rfl rfl rfl rfl rfl rfl rfl rfl rfl rfl ?_
  refine k_mid2 [(b_m, .inr (10, [.int m_thrown, .ref b_zX, .ref m_v, .ref b_zO, .ref m_memory, .ref m_shut, .long m_choices, .int m_vl, .int m_vtype, .int m_vstart, .int m_vxrm, .int m_vxsat, .int m_done, .int m_illegal, .int m_traps, .int m_trapAddress, .int m_word, .int m_vd, .int m_vs1, .int m_vs2, .int m_f3, .int m_f6, .int m_sew, .int m_l8, .int m_unmasked])), (b_zX, .inl (kI, 32, .inl zX)), (b_zO, .inl (kI, 512, .inl zO))] [(0, .ref b_m), (1, .int u1), (2, .int u2)] [.long (pX11_second__48_S1 m_vs1 m_f3 zX zO u1 u2)] 48 (fun hJ4 => ?_) ?_
  · skip
    refine k_if_eq (tgt := 20) X dX11_second__4 (by decide) rfl (fun c1 => ?_) (fun c1 => ?_)
    · skip
      refine k_aload_n X dX11_second__20 rfl 0 rfl rfl ?_
      refine k_cV1 (st := []) (ws' := [(b_m, .inr (10, [.int m_thrown, .ref b_zX, .ref m_v, .ref b_zO, .ref m_memory, .ref m_shut, .long m_choices, .int m_vl, .int m_vtype, .int m_vstart, .int m_vxrm, .int m_vxsat, .int m_done, .int m_illegal, .int m_traps, .int m_trapAddress, .int m_word, .int m_vd, .int m_vs1, .int m_vs2, .int m_f3, .int m_f6, .int m_sew, .int m_l8, .int m_unmasked])), (b_zX, .inl (kI, 32, .inl zX)), (b_zO, .inl (kI, 512, .inl zO))]) (wr := [(b_zX, .inl (kI, 32, .inl zX)), (b_zO, .inl (kI, 512, .inl zO))]) (ci := 10) (q9 := 0) X [] 0 [0] [1, 2] [2, 0, 1] (kX11_isX l D kI kZ b_m m_thrown b_zX m_v b_zO m_memory m_shut m_choices m_vl m_vtype m_vstart m_vxrm m_vxsat m_done m_illegal m_traps m_trapAddress m_word m_vd m_vs1 m_vs2 m_f3 m_f6 m_sew m_l8 m_unmasked) vX11_isX q33_1 dX11_second__21 rfl rfl rfl rfl rfl rfl rfl rfl rfl rfl rfl rfl rfl rfl rfl ?_
      refine k_mid2 [(b_m, .inr (10, [.int m_thrown, .ref b_zX, .ref m_v, .ref b_zO, .ref m_memory, .ref m_shut, .long m_choices, .int m_vl, .int m_vtype, .int m_vstart, .int m_vxrm, .int m_vxsat, .int m_done, .int m_illegal, .int m_traps, .int m_trapAddress, .int m_word, .int m_vd, .int m_vs1, .int m_vs2, .int m_f3, .int m_f6, .int m_sew, .int m_l8, .int m_unmasked])), (b_zX, .inl (kI, 32, .inl zX)), (b_zO, .inl (kI, 512, .inl zO))] [(0, .ref b_m), (1, .int u1), (2, .int u2)] [.long (pX11_second__44_S1 m_vs1 m_f3 zX)] 44 (fun hJ3 => ?_) ?_
      · skip
        refine k_if_eq (tgt := 40) X dX11_second__24 (by decide) rfl (fun c2 => ?_) (fun c2 => ?_)
        · skip
          refine k_aload_n X dX11_second__40 rfl 0 rfl rfl ?_
          refine k_cV1 (st := []) (ws' := [(b_m, .inr (10, [.int m_thrown, .ref b_zX, .ref m_v, .ref b_zO, .ref m_memory, .ref m_shut, .long m_choices, .int m_vl, .int m_vtype, .int m_vstart, .int m_vxrm, .int m_vxsat, .int m_done, .int m_illegal, .int m_traps, .int m_trapAddress, .int m_word, .int m_vd, .int m_vs1, .int m_vs2, .int m_f3, .int m_f6, .int m_sew, .int m_l8, .int m_unmasked])), (b_zX, .inl (kI, 32, .inl zX)), (b_zO, .inl (kI, 512, .inl zO))]) (wr := [(b_zX, .inl (kI, 32, .inl zX)), (b_zO, .inl (kI, 512, .inl zO))]) (ci := 10) (q9 := 0) X [] 0 [0] [1, 2] [2, 0, 1] (kX11_immediate l D kI kZ b_m m_thrown b_zX m_v b_zO m_memory m_shut m_choices m_vl m_vtype m_vstart m_vxrm m_vxsat m_done m_illegal m_traps m_trapAddress m_word m_vd m_vs1 m_vs2 m_f3 m_f6 m_sew m_l8 m_unmasked) vX11_immediate q33_9 dX11_second__41 rfl rfl rfl rfl rfl rfl rfl rfl rfl rfl rfl rfl rfl rfl rfl ?_
          have e5 : (pX11_second__44_S1 m_vs1 m_f3 zX) = (fX11_immediate m_vs1) := by rw [pX11_second__44_S1, if_pos c2]
          rw [e5] at hJ3
          exact k_sub [0, 1, 2] rfl hJ3
        refine k_aload_n X dX11_second__27 rfl 0 rfl rfl ?_
        refine k_get X i_wsX110 0 1 q5_17 rfl rfl rfl rfl rfl dX11_second__28 rfl ?_
        refine k_aload_n X dX11_second__31 rfl 0 rfl rfl ?_
        refine k_get X i_wsX110 0 18 q27_5 rfl rfl rfl rfl rfl dX11_second__32 rfl ?_
        refine k_iald X 1 0 rfl rfl (hok.1 c1 c2) dX11_second__35 rfl ?_
        refine k_i2l X dX11_second__36 rfl ?_
        refine k_goto (tgt := 44) X dX11_second__37 (by decide) ?_
        have e6 : (pX11_second__44_S1 m_vs1 m_f3 zX) = (Int32.toInt64 (zX (Int32.toNatClampNeg m_vs1))) := by rw [pX11_second__44_S1, if_neg c2]
        rw [e6] at hJ3
        exact k_sub [0, 1, 2] rfl hJ3
      refine k_iload_n X dX11_second__44 rfl 1 rfl rfl ?_
      refine k_cS1 (st := []) (ws' := [(b_m, .inr (10, [.int m_thrown, .ref b_zX, .ref m_v, .ref b_zO, .ref m_memory, .ref m_shut, .long m_choices, .int m_vl, .int m_vtype, .int m_vstart, .int m_vxrm, .int m_vxsat, .int m_done, .int m_illegal, .int m_traps, .int m_trapAddress, .int m_word, .int m_vd, .int m_vs1, .int m_vs2, .int m_f3, .int m_f6, .int m_sew, .int m_l8, .int m_unmasked])), (b_zX, .inl (kI, 32, .inl zX)), (b_zO, .inl (kI, 512, .inl zO))]) (wr := [(b_m, .inr (10, [.int m_thrown, .ref b_zX, .ref m_v, .ref b_zO, .ref m_memory, .ref m_shut, .long m_choices, .int m_vl, .int m_vtype, .int m_vstart, .int m_vxrm, .int m_vxsat, .int m_done, .int m_illegal, .int m_traps, .int m_trapAddress, .int m_word, .int m_vd, .int m_vs1, .int m_vs2, .int m_f3, .int m_f6, .int m_sew, .int m_l8, .int m_unmasked])), (b_zX, .inl (kI, 32, .inl zX)), (b_zO, .inl (kI, 512, .inl zO))]) X [.long (pX11_second__44_S1 m_vs1 m_f3 zX), .int u1] 0 [] [0, 1, 2] [0, 1, 2] (kX11_cut l D kI kZ (pX11_second__44_S1 m_vs1 m_f3 zX) u1) vX11_cut q32_10 dX11_second__45 rfl rfl rfl rfl rfl rfl rfl rfl rfl rfl rfl rfl rfl ?_
      have e7 : (pX11_second__48_S1 m_vs1 m_f3 zX zO u1 u2) = (fX11_cut (pX11_second__44_S1 m_vs1 m_f3 zX) u1) := by rw [pX11_second__48_S1, if_pos c1]
      rw [e7] at hJ4
      exact k_sub [0, 1, 2] rfl hJ4
    refine k_aload_n X dX11_second__7 rfl 0 rfl rfl ?_
    refine k_aload_n X dX11_second__8 rfl 0 rfl rfl ?_
    refine k_get X i_wsX110 0 18 q27_5 rfl rfl rfl rfl rfl dX11_second__9 rfl ?_
    refine k_iload_n X dX11_second__12 rfl 1 rfl rfl ?_
    refine k_iload_n X dX11_second__13 rfl 2 rfl rfl ?_
    refine k_cV1 (st := []) (ws' := [(b_m, .inr (10, [.int m_thrown, .ref b_zX, .ref m_v, .ref b_zO, .ref m_memory, .ref m_shut, .long m_choices, .int m_vl, .int m_vtype, .int m_vstart, .int m_vxrm, .int m_vxsat, .int m_done, .int m_illegal, .int m_traps, .int m_trapAddress, .int m_word, .int m_vd, .int m_vs1, .int m_vs2, .int m_f3, .int m_f6, .int m_sew, .int m_l8, .int m_unmasked])), (b_zX, .inl (kI, 32, .inl zX)), (b_zO, .inl (kI, 512, .inl zO))]) (wr := [(b_zX, .inl (kI, 32, .inl zX))]) (ci := 10) (q9 := 0) X [.int m_vs1, .int u1, .int u2] 0 [0, 2] [1] [1, 0, 2] (kX11_get l D kI kZ b_m b_zO m_thrown b_zX m_v m_memory m_shut m_choices m_vl m_vtype m_vstart m_vxrm m_vxsat m_done m_illegal m_traps m_trapAddress m_word m_vd m_vs1 m_vs2 m_f3 m_f6 m_sew m_l8 m_unmasked zO m_vs1 u1 u2 (hok.2 c1)) vX11_get q32_21 dX11_second__14 rfl rfl rfl rfl rfl rfl rfl rfl rfl rfl rfl rfl rfl rfl rfl ?_
    refine k_goto (tgt := 48) X dX11_second__17 (by decide) ?_
    have e8 : (pX11_second__48_S1 m_vs1 m_f3 zX zO u1 u2) = (fX11_get zO m_vs1 u1 u2) := by rw [pX11_second__48_S1, if_neg c1]
    rw [e8] at hJ4
    exact k_sub [0, 1, 2] rfl hJ4
  have e9 : (fX11_second_ m_vs1 m_f3 zX zO u1 u2) = (pX11_second__48_S1 m_vs1 m_f3 zX zO u1 u2) := by rw [fX11_second_]
  exact k_lret9 X hRt hLk e9.symm rfl dX11_second__48
theorem vX11_second_ : kVi yX11_second_ cX11_second_ 3 (some .long) 2 := ⟨q33_8, q1_5, q33_6, q33_7, by decide, by decide +kernel⟩
noncomputable def pX11_shift_45_S1 (m_vs1 : Int32) (m_f3 : Int32) (zX : Nat → Int32) (zO : Nat → Int32) (u1 : Int32) (u3 : Int32) : Int64 := (if (fX11_isV m_f3) = (0 : Int32) then (if (fX11_isX m_f3) = (0 : Int32) then (Int32.toInt64 m_vs1) else (Int32.toInt64 (zX (Int32.toNatClampNeg m_vs1)))) else (fX11_get zO m_vs1 u1 u3))
noncomputable def fX11_shift (m_vs1 : Int32) (m_f3 : Int32) (zX : Nat → Int32) (zO : Nat → Int32) (u1 : Int32) (u2 : Int32) (u3 : Int32) : Int32 := (Int64.toInt32 ((pX11_shift_45_S1 m_vs1 m_f3 zX zO u1 u3) &&& (Int32.toInt64 (u2 - (1 : Int32)))))
noncomputable def okX11_shift (m_vs1 : Int32) (m_f3 : Int32) (zO : Nat → Int32) (u1 : Int32) (u3 : Int32) : Prop := (((fX11_isV m_f3) = (0 : Int32)) → ¬ ((fX11_isX m_f3) = (0 : Int32)) → vp_in m_vs1 32) ∧ (¬ ((fX11_isV m_f3) = (0 : Int32)) → okX11_get zO m_vs1 u1 u3)
set_option maxRecDepth 100000 in
set_option maxHeartbeats 4000000 in
theorem kX11_shift (l : Launch) (D : va_G) (kI kZ : ClassId) (b_m : Nat) (b_zX : Nat) (b_zO : Nat) (m_thrown : Int32) (m_v : Nat) (m_memory : Nat) (m_shut : Nat) (m_choices : Int64) (m_vl : Int32) (m_vtype : Int32) (m_vstart : Int32) (m_vxrm : Int32) (m_vxsat : Int32) (m_done : Int32) (m_illegal : Int32) (m_traps : Int32) (m_trapAddress : Int32) (m_word : Int32) (m_vd : Int32) (m_vs1 : Int32) (m_vs2 : Int32) (m_f3 : Int32) (m_f6 : Int32) (m_sew : Int32) (m_l8 : Int32) (m_unmasked : Int32) (zX : Nat → Int32) (zO : Nat → Int32) (u1 : Int32) (u2 : Int32) (u3 : Int32) (hok : okX11_shift m_vs1 m_f3 zO u1 u3) : kM l yX11_shift cX11_shift 6 (some .int) 1 19 0 0 D [(kI, .int), (kZ, .boolean)] [.ref b_m, .int u1, .int u2, .int u3] [(b_m, .inr (10, [.int m_thrown, .ref b_zX, .ref m_v, .ref b_zO, .ref m_memory, .ref m_shut, .long m_choices, .int m_vl, .int m_vtype, .int m_vstart, .int m_vxrm, .int m_vxsat, .int m_done, .int m_illegal, .int m_traps, .int m_trapAddress, .int m_word, .int m_vd, .int m_vs1, .int m_vs2, .int m_f3, .int m_f6, .int m_sew, .int m_l8, .int m_unmasked])), (b_zX, .inl (kI, 32, .inl zX)), (b_zO, .inl (kI, 512, .inl zO))] (some (.int (fX11_shift m_vs1 m_f3 zX zO u1 u2 u3))) [(b_m, .inr (10, [.int m_thrown, .ref b_zX, .ref m_v, .ref b_zO, .ref m_memory, .ref m_shut, .long m_choices, .int m_vl, .int m_vtype, .int m_vstart, .int m_vxrm, .int m_vxsat, .int m_done, .int m_illegal, .int m_traps, .int m_trapAddress, .int m_word, .int m_vd, .int m_vs1, .int m_vs2, .int m_f3, .int m_f6, .int m_sew, .int m_l8, .int m_unmasked])), (b_zX, .inl (kI, 32, .inl zX)), (b_zO, .inl (kI, 512, .inl zO))] := by
  refine kM.of (by decide) rfl ?_
  intro p e R s m args below meth c A X _ _ hRt hLk
  refine k_sub [0, 1, 2, 3] (lv' := [(0, .ref b_m), (1, .int u1), (2, .int u2), (3, .int u3)]) rfl ?_
  unfold okX11_shift at hok
  refine k_aload_n X dX11_shift_0 rfl 0 rfl rfl ?_
  refine k_cV1 (st := []) (ws' := [(b_m, .inr (10, [.int m_thrown, .ref b_zX, .ref m_v, .ref b_zO, .ref m_memory, .ref m_shut, .long m_choices, .int m_vl, .int m_vtype, .int m_vstart, .int m_vxrm, .int m_vxsat, .int m_done, .int m_illegal, .int m_traps, .int m_trapAddress, .int m_word, .int m_vd, .int m_vs1, .int m_vs2, .int m_f3, .int m_f6, .int m_sew, .int m_l8, .int m_unmasked])), (b_zX, .inl (kI, 32, .inl zX)), (b_zO, .inl (kI, 512, .inl zO))]) (wr := [(b_zX, .inl (kI, 32, .inl zX)), (b_zO, .inl (kI, 512, .inl zO))]) (ci := 10) (q9 := 0) X [] 0 [0] [1, 2] [2, 0, 1] (kX11_isV l D kI kZ b_m m_thrown b_zX m_v b_zO m_memory m_shut m_choices m_vl m_vtype m_vstart m_vxrm m_vxsat m_done m_illegal m_traps m_trapAddress m_word m_vd m_vs1 m_vs2 m_f3 m_f6 m_sew m_l8 m_unmasked) vX11_isV q29_9 dX11_shift_1 rfl rfl rfl rfl rfl rfl rfl rfl rfl rfl rfl rfl rfl rfl rfl ?_
  refine k_mid2 [(b_m, .inr (10, [.int m_thrown, .ref b_zX, .ref m_v, .ref b_zO, .ref m_memory, .ref m_shut, .long m_choices, .int m_vl, .int m_vtype, .int m_vstart, .int m_vxrm, .int m_vxsat, .int m_done, .int m_illegal, .int m_traps, .int m_trapAddress, .int m_word, .int m_vd, .int m_vs1, .int m_vs2, .int m_f3, .int m_f6, .int m_sew, .int m_l8, .int m_unmasked])), (b_zX, .inl (kI, 32, .inl zX)), (b_zO, .inl (kI, 512, .inl zO))] [(0, .ref b_m), (1, .int u1), (2, .int u2), (3, .int u3)] [.long (pX11_shift_45_S1 m_vs1 m_f3 zX zO u1 u3)] 45 (fun hJ3 => ?_) ?_
  · skip
    refine k_if_eq (tgt := 20) X dX11_shift_4 (by decide) rfl (fun c1 => ?_) (fun c1 => ?_)
    · skip
      refine k_aload_n X dX11_shift_20 rfl 0 rfl rfl ?_
      refine k_cV1 (st := []) (ws' := [(b_m, .inr (10, [.int m_thrown, .ref b_zX, .ref m_v, .ref b_zO, .ref m_memory, .ref m_shut, .long m_choices, .int m_vl, .int m_vtype, .int m_vstart, .int m_vxrm, .int m_vxsat, .int m_done, .int m_illegal, .int m_traps, .int m_trapAddress, .int m_word, .int m_vd, .int m_vs1, .int m_vs2, .int m_f3, .int m_f6, .int m_sew, .int m_l8, .int m_unmasked])), (b_zX, .inl (kI, 32, .inl zX)), (b_zO, .inl (kI, 512, .inl zO))]) (wr := [(b_zX, .inl (kI, 32, .inl zX)), (b_zO, .inl (kI, 512, .inl zO))]) (ci := 10) (q9 := 0) X [] 0 [0] [1, 2] [2, 0, 1] (kX11_isX l D kI kZ b_m m_thrown b_zX m_v b_zO m_memory m_shut m_choices m_vl m_vtype m_vstart m_vxrm m_vxsat m_done m_illegal m_traps m_trapAddress m_word m_vd m_vs1 m_vs2 m_f3 m_f6 m_sew m_l8 m_unmasked) vX11_isX q33_1 dX11_shift_21 rfl rfl rfl rfl rfl rfl rfl rfl rfl rfl rfl rfl rfl rfl rfl ?_
      refine k_if_eq (tgt := 40) X dX11_shift_24 (by decide) rfl (fun c2 => ?_) (fun c2 => ?_)
      · skip
        refine k_aload_n X dX11_shift_40 rfl 0 rfl rfl ?_
        refine k_get X i_wsX110 0 18 q27_5 rfl rfl rfl rfl rfl dX11_shift_41 rfl ?_
        refine k_i2l X dX11_shift_44 rfl ?_
        have e4 : (pX11_shift_45_S1 m_vs1 m_f3 zX zO u1 u3) = (Int32.toInt64 m_vs1) := by rw [pX11_shift_45_S1, if_pos c1, if_pos c2]
        rw [e4] at hJ3
        exact k_sub [0, 1, 2, 3] rfl hJ3
      refine k_aload_n X dX11_shift_27 rfl 0 rfl rfl ?_
      refine k_get X i_wsX110 0 1 q5_17 rfl rfl rfl rfl rfl dX11_shift_28 rfl ?_
      refine k_aload_n X dX11_shift_31 rfl 0 rfl rfl ?_
      refine k_get X i_wsX110 0 18 q27_5 rfl rfl rfl rfl rfl dX11_shift_32 rfl ?_
      refine k_iald X 1 0 rfl rfl (hok.1 c1 c2) dX11_shift_35 rfl ?_
      refine k_i2l X dX11_shift_36 rfl ?_
      refine k_goto (tgt := 45) X dX11_shift_37 (by decide) ?_
      have e5 : (pX11_shift_45_S1 m_vs1 m_f3 zX zO u1 u3) = (Int32.toInt64 (zX (Int32.toNatClampNeg m_vs1))) := by rw [pX11_shift_45_S1, if_pos c1, if_neg c2]
      rw [e5] at hJ3
      exact k_sub [0, 1, 2, 3] rfl hJ3
    refine k_aload_n X dX11_shift_7 rfl 0 rfl rfl ?_
    refine k_aload_n X dX11_shift_8 rfl 0 rfl rfl ?_
    refine k_get X i_wsX110 0 18 q27_5 rfl rfl rfl rfl rfl dX11_shift_9 rfl ?_
    refine k_iload_n X dX11_shift_12 rfl 1 rfl rfl ?_
    refine k_iload_n X dX11_shift_13 rfl 3 rfl rfl ?_
    refine k_cV1 (st := []) (ws' := [(b_m, .inr (10, [.int m_thrown, .ref b_zX, .ref m_v, .ref b_zO, .ref m_memory, .ref m_shut, .long m_choices, .int m_vl, .int m_vtype, .int m_vstart, .int m_vxrm, .int m_vxsat, .int m_done, .int m_illegal, .int m_traps, .int m_trapAddress, .int m_word, .int m_vd, .int m_vs1, .int m_vs2, .int m_f3, .int m_f6, .int m_sew, .int m_l8, .int m_unmasked])), (b_zX, .inl (kI, 32, .inl zX)), (b_zO, .inl (kI, 512, .inl zO))]) (wr := [(b_zX, .inl (kI, 32, .inl zX))]) (ci := 10) (q9 := 0) X [.int m_vs1, .int u1, .int u3] 0 [0, 2] [1] [1, 0, 2] (kX11_get l D kI kZ b_m b_zO m_thrown b_zX m_v m_memory m_shut m_choices m_vl m_vtype m_vstart m_vxrm m_vxsat m_done m_illegal m_traps m_trapAddress m_word m_vd m_vs1 m_vs2 m_f3 m_f6 m_sew m_l8 m_unmasked zO m_vs1 u1 u3 (hok.2 c1)) vX11_get q32_21 dX11_shift_14 rfl rfl rfl rfl rfl rfl rfl rfl rfl rfl rfl rfl rfl rfl rfl ?_
    refine k_goto (tgt := 45) X dX11_shift_17 (by decide) ?_
    have e6 : (pX11_shift_45_S1 m_vs1 m_f3 zX zO u1 u3) = (fX11_get zO m_vs1 u1 u3) := by rw [pX11_shift_45_S1, if_neg c1]
    rw [e6] at hJ3
    exact k_sub [0, 1, 2, 3] rfl hJ3
  refine k_lstore (lv' := [(4, .long (pX11_shift_45_S1 m_vs1 m_f3 zX zO u1 u3)), (0, .ref b_m), (1, .int u1), (2, .int u2), (3, .int u3)]) X dX11_shift_45 rfl rfl rfl ?_
  refine k_lload X dX11_shift_47 0 rfl rfl ?_
  refine k_iload_n X dX11_shift_49 rfl 3 rfl rfl ?_
  refine k_iconst X dX11_shift_50 kc_i_1 rfl ?_
  refine k_isub X dX11_shift_51 rfl ?_
  refine k_i2l X dX11_shift_52 rfl ?_
  refine k_land X dX11_shift_53 rfl ?_
  refine k_l2i X dX11_shift_54 rfl ?_
  have e7 : (fX11_shift m_vs1 m_f3 zX zO u1 u2 u3) = (Int64.toInt32 ((pX11_shift_45_S1 m_vs1 m_f3 zX zO u1 u3) &&& (Int32.toInt64 (u2 - (1 : Int32))))) := by rw [fX11_shift]
  exact k_iret9 X hRt hLk e7.symm rfl dX11_shift_55
theorem vX11_shift : kVi yX11_shift cX11_shift 6 (some .int) 3 := ⟨q32_20, q1_5, q32_18, q32_19, by decide, by decide +kernel⟩
noncomputable def pX11_x_20_S1 (zX : Nat → Int32) (u1 : Int32) : Int32 := (if (fX11_lacks u1 (31 : Int32)) = (0 : Int32) then (zX (Int32.toNatClampNeg u1)) else (0 : Int32))
noncomputable def fX11_x (zX : Nat → Int32) (u1 : Int32) : Int32 := (pX11_x_20_S1 zX u1)
noncomputable def fX11_x__m_thrown (u1 : Int32) : Int32 := (fX11_lacks__m_thrown u1 (31 : Int32))
noncomputable def okX11_x (u1 : Int32) : Prop := (((fX11_lacks u1 (31 : Int32)) = (0 : Int32)) → vp_in u1 32)
set_option maxRecDepth 100000 in
set_option maxHeartbeats 4000000 in
theorem kX11_x (l : Launch) (D : va_G) (kI kZ : ClassId) (b_m : Nat) (b_zX : Nat) (m_thrown : Int32) (m_v : Nat) (m_old : Nat) (m_memory : Nat) (m_shut : Nat) (m_choices : Int64) (m_vl : Int32) (m_vtype : Int32) (m_vstart : Int32) (m_vxrm : Int32) (m_vxsat : Int32) (m_done : Int32) (m_illegal : Int32) (m_traps : Int32) (m_trapAddress : Int32) (m_word : Int32) (m_vd : Int32) (m_vs1 : Int32) (m_vs2 : Int32) (m_f3 : Int32) (m_f6 : Int32) (m_sew : Int32) (m_l8 : Int32) (m_unmasked : Int32) (zX : Nat → Int32) (u1 : Int32) (hok : okX11_x u1) : kM l yX11_x cX11_x 2 (some .int) 1 14 0 0 D [(kI, .int), (kZ, .boolean)] [.ref b_m, .int u1] [(b_m, .inr (10, [.int m_thrown, .ref b_zX, .ref m_v, .ref m_old, .ref m_memory, .ref m_shut, .long m_choices, .int m_vl, .int m_vtype, .int m_vstart, .int m_vxrm, .int m_vxsat, .int m_done, .int m_illegal, .int m_traps, .int m_trapAddress, .int m_word, .int m_vd, .int m_vs1, .int m_vs2, .int m_f3, .int m_f6, .int m_sew, .int m_l8, .int m_unmasked])), (b_zX, .inl (kI, 32, .inl zX))] (some (.int (fX11_x zX u1))) [(b_m, .inr (10, [.int (fX11_x__m_thrown u1), .ref b_zX, .ref m_v, .ref m_old, .ref m_memory, .ref m_shut, .long m_choices, .int m_vl, .int m_vtype, .int m_vstart, .int m_vxrm, .int m_vxsat, .int m_done, .int m_illegal, .int m_traps, .int m_trapAddress, .int m_word, .int m_vd, .int m_vs1, .int m_vs2, .int m_f3, .int m_f6, .int m_sew, .int m_l8, .int m_unmasked])), (b_zX, .inl (kI, 32, .inl zX))] := by
  refine kM.of (by decide) rfl ?_
  intro p e R s m args below meth c A X _ _ hRt hLk
  refine k_sub [0, 1] (lv' := [(0, .ref b_m), (1, .int u1)]) rfl ?_
  unfold okX11_x at hok
  refine k_aload_n X dX11_x_0 rfl 0 rfl rfl ?_
  refine k_iload_n X dX11_x_1 rfl 1 rfl rfl ?_
  refine k_bipush X dX11_x_2 kc_b_31 rfl ?_
  refine k_cV1 (st := []) (ws' := [(b_m, .inr (10, [.int (fX11_lacks__m_thrown u1 (31 : Int32)), .ref b_zX, .ref m_v, .ref m_old, .ref m_memory, .ref m_shut, .long m_choices, .int m_vl, .int m_vtype, .int m_vstart, .int m_vxrm, .int m_vxsat, .int m_done, .int m_illegal, .int m_traps, .int m_trapAddress, .int m_word, .int m_vd, .int m_vs1, .int m_vs2, .int m_f3, .int m_f6, .int m_sew, .int m_l8, .int m_unmasked])), (b_zX, .inl (kI, 32, .inl zX))]) (wr := [(b_zX, .inl (kI, 32, .inl zX))]) (ci := 10) (q9 := 0) X [.int u1, .int (31 : Int32)] 0 [0] [1] [1, 0] (kX11_lacks l D kI kZ b_m m_thrown b_zX m_v m_old m_memory m_shut m_choices m_vl m_vtype m_vstart m_vxrm m_vxsat m_done m_illegal m_traps m_trapAddress m_word m_vd m_vs1 m_vs2 m_f3 m_f6 m_sew m_l8 m_unmasked u1 (31 : Int32)) vX11_lacks q41_5 dX11_x_4 rfl rfl rfl rfl rfl rfl rfl rfl rfl rfl rfl rfl rfl rfl rfl ?_
  refine k_mid2 [(b_m, .inr (10, [.int (fX11_lacks__m_thrown u1 (31 : Int32)), .ref b_zX, .ref m_v, .ref m_old, .ref m_memory, .ref m_shut, .long m_choices, .int m_vl, .int m_vtype, .int m_vstart, .int m_vxrm, .int m_vxsat, .int m_done, .int m_illegal, .int m_traps, .int m_trapAddress, .int m_word, .int m_vd, .int m_vs1, .int m_vs2, .int m_f3, .int m_f6, .int m_sew, .int m_l8, .int m_unmasked])), (b_zX, .inl (kI, 32, .inl zX))] [(0, .ref b_m), (1, .int u1)] [.int (pX11_x_20_S1 zX u1)] 20 (fun hJ2 => ?_) ?_
  · skip
    refine k_if_eq (tgt := 14) X dX11_x_7 (by decide) rfl (fun c1 => ?_) (fun c1 => ?_)
    · skip
      refine k_aload_n X dX11_x_14 rfl 0 rfl rfl ?_
      refine k_get X i_wsX110 0 1 q5_17 rfl rfl rfl rfl rfl dX11_x_15 rfl ?_
      refine k_iload_n X dX11_x_18 rfl 1 rfl rfl ?_
      refine k_iald X 1 0 rfl rfl (hok c1) dX11_x_19 rfl ?_
      have e3 : (pX11_x_20_S1 zX u1) = (zX (Int32.toNatClampNeg u1)) := by rw [pX11_x_20_S1, if_pos c1]
      rw [e3] at hJ2
      exact k_sub [0, 1] rfl hJ2
    refine k_iconst X dX11_x_10 kc_i_0 rfl ?_
    refine k_goto (tgt := 20) X dX11_x_11 (by decide) ?_
    have e4 : (pX11_x_20_S1 zX u1) = (0 : Int32) := by rw [pX11_x_20_S1, if_neg c1]
    rw [e4] at hJ2
    exact k_sub [0, 1] rfl hJ2
  have e5 : (fX11_x zX u1) = (pX11_x_20_S1 zX u1) := by rw [fX11_x]
  have e6 : (fX11_x__m_thrown u1) = (fX11_lacks__m_thrown u1 (31 : Int32)) := by rw [fX11_x__m_thrown]
  exact k_iret9 X hRt hLk e5.symm (by rw [e6]) dX11_x_20
theorem vX11_x : kVi yX11_x cX11_x 2 (some .int) 1 := ⟨q41_4, q1_5, q41_2, q41_3, by decide, by decide +kernel⟩
noncomputable def fX11_setX__m_thrown (u1 : Int32) : Int32 := (fX11_lacks__m_thrown u1 (31 : Int32))
noncomputable def fX11_setX__zX (zX : Nat → Int32) (u1 : Int32) (u2 : Int32) : Nat → Int32 := (if (fX11_lacks u1 (31 : Int32)) = (0 : Int32) then (if u1 = (0 : Int32) then zX else (upd zX (Int32.toNatClampNeg u1) u2)) else zX)
noncomputable def okX11_setX (u1 : Int32) : Prop := (((fX11_lacks u1 (31 : Int32)) = (0 : Int32)) → ¬ (u1 = (0 : Int32)) → vp_in u1 32)
set_option maxRecDepth 100000 in
set_option maxHeartbeats 4000000 in
theorem kX11_setX (l : Launch) (D : va_G) (kI kZ : ClassId) (b_m : Nat) (b_zX : Nat) (m_thrown : Int32) (m_v : Nat) (m_old : Nat) (m_memory : Nat) (m_shut : Nat) (m_choices : Int64) (m_vl : Int32) (m_vtype : Int32) (m_vstart : Int32) (m_vxrm : Int32) (m_vxsat : Int32) (m_done : Int32) (m_illegal : Int32) (m_traps : Int32) (m_trapAddress : Int32) (m_word : Int32) (m_vd : Int32) (m_vs1 : Int32) (m_vs2 : Int32) (m_f3 : Int32) (m_f6 : Int32) (m_sew : Int32) (m_l8 : Int32) (m_unmasked : Int32) (zX : Nat → Int32) (u1 : Int32) (u2 : Int32) (hok : okX11_setX u1) : kM l yX11_setX cX11_setX 3 none 1 14 0 0 D [(kI, .int), (kZ, .boolean)] [.ref b_m, .int u1, .int u2] [(b_m, .inr (10, [.int m_thrown, .ref b_zX, .ref m_v, .ref m_old, .ref m_memory, .ref m_shut, .long m_choices, .int m_vl, .int m_vtype, .int m_vstart, .int m_vxrm, .int m_vxsat, .int m_done, .int m_illegal, .int m_traps, .int m_trapAddress, .int m_word, .int m_vd, .int m_vs1, .int m_vs2, .int m_f3, .int m_f6, .int m_sew, .int m_l8, .int m_unmasked])), (b_zX, .inl (kI, 32, .inl zX))] none [(b_m, .inr (10, [.int (fX11_setX__m_thrown u1), .ref b_zX, .ref m_v, .ref m_old, .ref m_memory, .ref m_shut, .long m_choices, .int m_vl, .int m_vtype, .int m_vstart, .int m_vxrm, .int m_vxsat, .int m_done, .int m_illegal, .int m_traps, .int m_trapAddress, .int m_word, .int m_vd, .int m_vs1, .int m_vs2, .int m_f3, .int m_f6, .int m_sew, .int m_l8, .int m_unmasked])), (b_zX, .inl (kI, 32, .inl (fX11_setX__zX zX u1 u2)))] := by
  refine kM.of (by decide) rfl ?_
  intro p e R s m args below meth c A X _ _ hRt hLk
  refine k_sub [0, 1, 2] (lv' := [(0, .ref b_m), (1, .int u1), (2, .int u2)]) rfl ?_
  unfold okX11_setX at hok
  refine k_aload_n X dX11_setX_0 rfl 0 rfl rfl ?_
  refine k_iload_n X dX11_setX_1 rfl 1 rfl rfl ?_
  refine k_bipush X dX11_setX_2 kc_b_31 rfl ?_
  refine k_cV1 (st := []) (ws' := [(b_m, .inr (10, [.int (fX11_lacks__m_thrown u1 (31 : Int32)), .ref b_zX, .ref m_v, .ref m_old, .ref m_memory, .ref m_shut, .long m_choices, .int m_vl, .int m_vtype, .int m_vstart, .int m_vxrm, .int m_vxsat, .int m_done, .int m_illegal, .int m_traps, .int m_trapAddress, .int m_word, .int m_vd, .int m_vs1, .int m_vs2, .int m_f3, .int m_f6, .int m_sew, .int m_l8, .int m_unmasked])), (b_zX, .inl (kI, 32, .inl zX))]) (wr := [(b_zX, .inl (kI, 32, .inl zX))]) (ci := 10) (q9 := 0) X [.int u1, .int (31 : Int32)] 0 [0] [1] [1, 0] (kX11_lacks l D kI kZ b_m m_thrown b_zX m_v m_old m_memory m_shut m_choices m_vl m_vtype m_vstart m_vxrm m_vxsat m_done m_illegal m_traps m_trapAddress m_word m_vd m_vs1 m_vs2 m_f3 m_f6 m_sew m_l8 m_unmasked u1 (31 : Int32)) vX11_lacks q41_5 dX11_setX_4 rfl rfl rfl rfl rfl rfl rfl rfl rfl rfl rfl rfl rfl rfl rfl ?_
  refine k_if_ne (tgt := 14) X dX11_setX_7 (by decide) rfl (fun c1 => ?_) (fun c1 => ?_)
  · skip
    refine k_iload_n X dX11_setX_10 rfl 1 rfl rfl ?_
    refine k_if_ne (tgt := 15) X dX11_setX_11 (by decide) rfl (fun c2 => ?_) (fun c2 => ?_)
    · skip
      have e3 : (fX11_setX__m_thrown u1) = (fX11_lacks__m_thrown u1 (31 : Int32)) := by rw [fX11_setX__m_thrown]
      have e4 : (fX11_setX__zX zX u1 u2) = zX := by rw [fX11_setX__zX, if_pos c1, if_pos c2]
      exact k_vret X hRt hLk (by rw [e3, e4]) dX11_setX_14
    refine k_aload_n X dX11_setX_15 rfl 0 rfl rfl ?_
    refine k_get X i_wsX110 0 1 q5_17 rfl rfl rfl rfl rfl dX11_setX_16 rfl ?_
    refine k_iload_n X dX11_setX_19 rfl 1 rfl rfl ?_
    refine k_iload_n X dX11_setX_20 rfl 2 rfl rfl ?_
    refine k_iast (ws' := [(b_m, .inr (10, [.int (fX11_lacks__m_thrown u1 (31 : Int32)), .ref b_zX, .ref m_v, .ref m_old, .ref m_memory, .ref m_shut, .long m_choices, .int m_vl, .int m_vtype, .int m_vstart, .int m_vxrm, .int m_vxsat, .int m_done, .int m_illegal, .int m_traps, .int m_trapAddress, .int m_word, .int m_vd, .int m_vs1, .int m_vs2, .int m_f3, .int m_f6, .int m_sew, .int m_l8, .int m_unmasked])), (b_zX, .inl (kI, 32, .inl (upd zX (Int32.toNatClampNeg u1) u2)))]) X 1 0 rfl rfl (hok c1 c2) rfl dX11_setX_21 rfl ?_
    have e5 : (fX11_setX__m_thrown u1) = (fX11_lacks__m_thrown u1 (31 : Int32)) := by rw [fX11_setX__m_thrown]
    have e6 : (fX11_setX__zX zX u1 u2) = (upd zX (Int32.toNatClampNeg u1) u2) := by rw [fX11_setX__zX, if_pos c1, if_neg c2]
    exact k_vret X hRt hLk (by rw [e5, e6]) dX11_setX_22
  have e7 : (fX11_setX__m_thrown u1) = (fX11_lacks__m_thrown u1 (31 : Int32)) := by rw [fX11_setX__m_thrown]
  have e8 : (fX11_setX__zX zX u1 u2) = zX := by rw [fX11_setX__zX, if_neg c1]
  exact k_vret X hRt hLk (by rw [e7, e8]) dX11_setX_14
theorem vX11_setX : kVi yX11_setX cX11_setX 3 none 2 := ⟨q42_0, q1_5, q41_22, q41_23, by decide, by decide +kernel⟩
noncomputable def pX11_v_22_S1 (zV : Nat → Int32) (u1 : Int32) : Int32 := (if (fX11_lacks u1 (127 : Int32)) = (0 : Int32) then (fX11_four zV u1) else (0 : Int32))
noncomputable def fX11_v (zV : Nat → Int32) (u1 : Int32) : Int32 := (pX11_v_22_S1 zV u1)
noncomputable def fX11_v__m_thrown (u1 : Int32) : Int32 := (fX11_lacks__m_thrown u1 (127 : Int32))
noncomputable def okX11_v (u1 : Int32) : Prop := (((fX11_lacks u1 (127 : Int32)) = (0 : Int32)) → okX11_four 512 u1)
set_option maxRecDepth 100000 in
set_option maxHeartbeats 4000000 in
theorem kX11_v (l : Launch) (D : va_G) (kI kZ : ClassId) (b_m : Nat) (b_zV : Nat) (m_thrown : Int32) (m_x : Nat) (m_old : Nat) (m_memory : Nat) (m_shut : Nat) (m_choices : Int64) (m_vl : Int32) (m_vtype : Int32) (m_vstart : Int32) (m_vxrm : Int32) (m_vxsat : Int32) (m_done : Int32) (m_illegal : Int32) (m_traps : Int32) (m_trapAddress : Int32) (m_word : Int32) (m_vd : Int32) (m_vs1 : Int32) (m_vs2 : Int32) (m_f3 : Int32) (m_f6 : Int32) (m_sew : Int32) (m_l8 : Int32) (m_unmasked : Int32) (zV : Nat → Int32) (u1 : Int32) (hok : okX11_v u1) : kM l yX11_v cX11_v 2 (some .int) 1 14 0 0 D [(kI, .int), (kZ, .boolean)] [.ref b_m, .int u1] [(b_m, .inr (10, [.int m_thrown, .ref m_x, .ref b_zV, .ref m_old, .ref m_memory, .ref m_shut, .long m_choices, .int m_vl, .int m_vtype, .int m_vstart, .int m_vxrm, .int m_vxsat, .int m_done, .int m_illegal, .int m_traps, .int m_trapAddress, .int m_word, .int m_vd, .int m_vs1, .int m_vs2, .int m_f3, .int m_f6, .int m_sew, .int m_l8, .int m_unmasked])), (b_zV, .inl (kI, 512, .inl zV))] (some (.int (fX11_v zV u1))) [(b_m, .inr (10, [.int (fX11_v__m_thrown u1), .ref m_x, .ref b_zV, .ref m_old, .ref m_memory, .ref m_shut, .long m_choices, .int m_vl, .int m_vtype, .int m_vstart, .int m_vxrm, .int m_vxsat, .int m_done, .int m_illegal, .int m_traps, .int m_trapAddress, .int m_word, .int m_vd, .int m_vs1, .int m_vs2, .int m_f3, .int m_f6, .int m_sew, .int m_l8, .int m_unmasked])), (b_zV, .inl (kI, 512, .inl zV))] := by
  refine kM.of (by decide) rfl ?_
  intro p e R s m args below meth c A X _ _ hRt hLk
  refine k_sub [0, 1] (lv' := [(0, .ref b_m), (1, .int u1)]) rfl ?_
  unfold okX11_v at hok
  refine k_aload_n X dX11_v_0 rfl 0 rfl rfl ?_
  refine k_iload_n X dX11_v_1 rfl 1 rfl rfl ?_
  refine k_bipush X dX11_v_2 kc_b_127 rfl ?_
  refine k_cV1 (st := []) (ws' := [(b_m, .inr (10, [.int (fX11_lacks__m_thrown u1 (127 : Int32)), .ref m_x, .ref b_zV, .ref m_old, .ref m_memory, .ref m_shut, .long m_choices, .int m_vl, .int m_vtype, .int m_vstart, .int m_vxrm, .int m_vxsat, .int m_done, .int m_illegal, .int m_traps, .int m_trapAddress, .int m_word, .int m_vd, .int m_vs1, .int m_vs2, .int m_f3, .int m_f6, .int m_sew, .int m_l8, .int m_unmasked])), (b_zV, .inl (kI, 512, .inl zV))]) (wr := [(b_zV, .inl (kI, 512, .inl zV))]) (ci := 10) (q9 := 0) X [.int u1, .int (127 : Int32)] 0 [0] [1] [1, 0] (kX11_lacks l D kI kZ b_m m_thrown m_x b_zV m_old m_memory m_shut m_choices m_vl m_vtype m_vstart m_vxrm m_vxsat m_done m_illegal m_traps m_trapAddress m_word m_vd m_vs1 m_vs2 m_f3 m_f6 m_sew m_l8 m_unmasked u1 (127 : Int32)) vX11_lacks q41_5 dX11_v_4 rfl rfl rfl rfl rfl rfl rfl rfl rfl rfl rfl rfl rfl rfl rfl ?_
  refine k_mid2 [(b_m, .inr (10, [.int (fX11_lacks__m_thrown u1 (127 : Int32)), .ref m_x, .ref b_zV, .ref m_old, .ref m_memory, .ref m_shut, .long m_choices, .int m_vl, .int m_vtype, .int m_vstart, .int m_vxrm, .int m_vxsat, .int m_done, .int m_illegal, .int m_traps, .int m_trapAddress, .int m_word, .int m_vd, .int m_vs1, .int m_vs2, .int m_f3, .int m_f6, .int m_sew, .int m_l8, .int m_unmasked])), (b_zV, .inl (kI, 512, .inl zV))] [(0, .ref b_m), (1, .int u1)] [.int (pX11_v_22_S1 zV u1)] 22 (fun hJ2 => ?_) ?_
  · skip
    refine k_if_eq (tgt := 14) X dX11_v_7 (by decide) rfl (fun c1 => ?_) (fun c1 => ?_)
    · skip
      refine k_aload_n X dX11_v_14 rfl 0 rfl rfl ?_
      refine k_get X i_wsX110 0 2 q5_18 rfl rfl rfl rfl rfl dX11_v_15 rfl ?_
      refine k_iload_n X dX11_v_18 rfl 1 rfl rfl ?_
      refine k_cS1 (st := []) (ws' := [(b_m, .inr (10, [.int (fX11_lacks__m_thrown u1 (127 : Int32)), .ref m_x, .ref b_zV, .ref m_old, .ref m_memory, .ref m_shut, .long m_choices, .int m_vl, .int m_vtype, .int m_vstart, .int m_vxrm, .int m_vxsat, .int m_done, .int m_illegal, .int m_traps, .int m_trapAddress, .int m_word, .int m_vd, .int m_vs1, .int m_vs2, .int m_f3, .int m_f6, .int m_sew, .int m_l8, .int m_unmasked])), (b_zV, .inl (kI, 512, .inl zV))]) (wr := [(b_m, .inr (10, [.int (fX11_lacks__m_thrown u1 (127 : Int32)), .ref m_x, .ref b_zV, .ref m_old, .ref m_memory, .ref m_shut, .long m_choices, .int m_vl, .int m_vtype, .int m_vstart, .int m_vxrm, .int m_vxsat, .int m_done, .int m_illegal, .int m_traps, .int m_trapAddress, .int m_word, .int m_vd, .int m_vs1, .int m_vs2, .int m_f3, .int m_f6, .int m_sew, .int m_l8, .int m_unmasked]))]) X [.ref b_zV, .int u1] 0 [1] [0] [0, 1] (kX11_four l D kI kZ b_zV 512 zV u1 (hok c1)) vX11_four q42_13 dX11_v_19 rfl rfl rfl rfl rfl rfl rfl rfl rfl rfl rfl rfl rfl ?_
      have e3 : (pX11_v_22_S1 zV u1) = (fX11_four zV u1) := by rw [pX11_v_22_S1, if_pos c1]
      rw [e3] at hJ2
      exact k_sub [0, 1] rfl hJ2
    refine k_iconst X dX11_v_10 kc_i_0 rfl ?_
    refine k_goto (tgt := 22) X dX11_v_11 (by decide) ?_
    have e4 : (pX11_v_22_S1 zV u1) = (0 : Int32) := by rw [pX11_v_22_S1, if_neg c1]
    rw [e4] at hJ2
    exact k_sub [0, 1] rfl hJ2
  have e5 : (fX11_v zV u1) = (pX11_v_22_S1 zV u1) := by rw [fX11_v]
  have e6 : (fX11_v__m_thrown u1) = (fX11_lacks__m_thrown u1 (127 : Int32)) := by rw [fX11_v__m_thrown]
  exact k_iret9 X hRt hLk e5.symm (by rw [e6]) dX11_v_22
theorem vX11_v : kVi yX11_v cX11_v 2 (some .int) 1 := ⟨q42_12, q1_5, q42_10, q42_11, by decide, by decide +kernel⟩
noncomputable def fX11_setV__m_thrown (u1 : Int32) : Int32 := (fX11_lacks__m_thrown u1 (127 : Int32))
noncomputable def fX11_setV__zV (zV : Nat → Int32) (u1 : Int32) (u2 : Int32) : Nat → Int32 := (if (fX11_lacks u1 (127 : Int32)) = (0 : Int32) then (fX11_putFour__zA zV u1 u2) else zV)
noncomputable def okX11_setV (zV : Nat → Int32) (u1 : Int32) (u2 : Int32) : Prop := (((fX11_lacks u1 (127 : Int32)) = (0 : Int32)) → okX11_putFour 512 zV u1 u2)
set_option maxRecDepth 100000 in
set_option maxHeartbeats 4000000 in
theorem kX11_setV (l : Launch) (D : va_G) (kI kZ : ClassId) (b_m : Nat) (b_zV : Nat) (m_thrown : Int32) (m_x : Nat) (m_old : Nat) (m_memory : Nat) (m_shut : Nat) (m_choices : Int64) (m_vl : Int32) (m_vtype : Int32) (m_vstart : Int32) (m_vxrm : Int32) (m_vxsat : Int32) (m_done : Int32) (m_illegal : Int32) (m_traps : Int32) (m_trapAddress : Int32) (m_word : Int32) (m_vd : Int32) (m_vs1 : Int32) (m_vs2 : Int32) (m_f3 : Int32) (m_f6 : Int32) (m_sew : Int32) (m_l8 : Int32) (m_unmasked : Int32) (zV : Nat → Int32) (u1 : Int32) (u2 : Int32) (hok : okX11_setV zV u1 u2) : kM l yX11_setV cX11_setV 3 none 1 15 0 0 D [(kI, .int), (kZ, .boolean)] [.ref b_m, .int u1, .int u2] [(b_m, .inr (10, [.int m_thrown, .ref m_x, .ref b_zV, .ref m_old, .ref m_memory, .ref m_shut, .long m_choices, .int m_vl, .int m_vtype, .int m_vstart, .int m_vxrm, .int m_vxsat, .int m_done, .int m_illegal, .int m_traps, .int m_trapAddress, .int m_word, .int m_vd, .int m_vs1, .int m_vs2, .int m_f3, .int m_f6, .int m_sew, .int m_l8, .int m_unmasked])), (b_zV, .inl (kI, 512, .inl zV))] none [(b_m, .inr (10, [.int (fX11_setV__m_thrown u1), .ref m_x, .ref b_zV, .ref m_old, .ref m_memory, .ref m_shut, .long m_choices, .int m_vl, .int m_vtype, .int m_vstart, .int m_vxrm, .int m_vxsat, .int m_done, .int m_illegal, .int m_traps, .int m_trapAddress, .int m_word, .int m_vd, .int m_vs1, .int m_vs2, .int m_f3, .int m_f6, .int m_sew, .int m_l8, .int m_unmasked])), (b_zV, .inl (kI, 512, .inl (fX11_setV__zV zV u1 u2)))] := by
  refine kM.of (by decide) rfl ?_
  intro p e R s m args below meth c A X _ _ hRt hLk
  refine k_sub [0, 1, 2] (lv' := [(0, .ref b_m), (1, .int u1), (2, .int u2)]) rfl ?_
  unfold okX11_setV at hok
  refine k_aload_n X dX11_setV_0 rfl 0 rfl rfl ?_
  refine k_iload_n X dX11_setV_1 rfl 1 rfl rfl ?_
  refine k_bipush X dX11_setV_2 kc_b_127 rfl ?_
  refine k_cV1 (st := []) (ws' := [(b_m, .inr (10, [.int (fX11_lacks__m_thrown u1 (127 : Int32)), .ref m_x, .ref b_zV, .ref m_old, .ref m_memory, .ref m_shut, .long m_choices, .int m_vl, .int m_vtype, .int m_vstart, .int m_vxrm, .int m_vxsat, .int m_done, .int m_illegal, .int m_traps, .int m_trapAddress, .int m_word, .int m_vd, .int m_vs1, .int m_vs2, .int m_f3, .int m_f6, .int m_sew, .int m_l8, .int m_unmasked])), (b_zV, .inl (kI, 512, .inl zV))]) (wr := [(b_zV, .inl (kI, 512, .inl zV))]) (ci := 10) (q9 := 0) X [.int u1, .int (127 : Int32)] 0 [0] [1] [1, 0] (kX11_lacks l D kI kZ b_m m_thrown m_x b_zV m_old m_memory m_shut m_choices m_vl m_vtype m_vstart m_vxrm m_vxsat m_done m_illegal m_traps m_trapAddress m_word m_vd m_vs1 m_vs2 m_f3 m_f6 m_sew m_l8 m_unmasked u1 (127 : Int32)) vX11_lacks q41_5 dX11_setV_4 rfl rfl rfl rfl rfl rfl rfl rfl rfl rfl rfl rfl rfl rfl rfl ?_
  refine k_if_eq (tgt := 11) X dX11_setV_7 (by decide) rfl (fun c1 => ?_) (fun c1 => ?_)
  · skip
    refine k_aload_n X dX11_setV_11 rfl 0 rfl rfl ?_
    refine k_get X i_wsX110 0 2 q5_18 rfl rfl rfl rfl rfl dX11_setV_12 rfl ?_
    refine k_iload_n X dX11_setV_15 rfl 1 rfl rfl ?_
    refine k_iload_n X dX11_setV_16 rfl 2 rfl rfl ?_
    refine k_cS0 (st := []) (ws' := [(b_m, .inr (10, [.int (fX11_lacks__m_thrown u1 (127 : Int32)), .ref m_x, .ref b_zV, .ref m_old, .ref m_memory, .ref m_shut, .long m_choices, .int m_vl, .int m_vtype, .int m_vstart, .int m_vxrm, .int m_vxsat, .int m_done, .int m_illegal, .int m_traps, .int m_trapAddress, .int m_word, .int m_vd, .int m_vs1, .int m_vs2, .int m_f3, .int m_f6, .int m_sew, .int m_l8, .int m_unmasked])), (b_zV, .inl (kI, 512, .inl (fX11_putFour__zA zV u1 u2)))]) (wr := [(b_m, .inr (10, [.int (fX11_lacks__m_thrown u1 (127 : Int32)), .ref m_x, .ref b_zV, .ref m_old, .ref m_memory, .ref m_shut, .long m_choices, .int m_vl, .int m_vtype, .int m_vstart, .int m_vxrm, .int m_vxsat, .int m_done, .int m_illegal, .int m_traps, .int m_trapAddress, .int m_word, .int m_vd, .int m_vs1, .int m_vs2, .int m_f3, .int m_f6, .int m_sew, .int m_l8, .int m_unmasked]))]) X [.ref b_zV, .int u1, .int u2] 0 [1] [0] [0, 1] (kX11_putFour l D kI kZ b_zV 512 zV u1 u2 (hok c1)) vX11_putFour q43_3 dX11_setV_17 rfl rfl rfl rfl rfl rfl rfl rfl rfl rfl rfl rfl rfl ?_
    have e2 : (fX11_setV__m_thrown u1) = (fX11_lacks__m_thrown u1 (127 : Int32)) := by rw [fX11_setV__m_thrown]
    have e3 : (fX11_setV__zV zV u1 u2) = (fX11_putFour__zA zV u1 u2) := by rw [fX11_setV__zV, if_pos c1]
    exact k_vret X hRt hLk (by rw [e2, e3]) dX11_setV_20
  have e4 : (fX11_setV__m_thrown u1) = (fX11_lacks__m_thrown u1 (127 : Int32)) := by rw [fX11_setV__m_thrown]
  have e5 : (fX11_setV__zV zV u1 u2) = zV := by rw [fX11_setV__zV, if_neg c1]
  exact k_vret X hRt hLk (by rw [e4, e5]) dX11_setV_10
theorem vX11_setV : kVi yX11_setV cX11_setV 3 none 2 := ⟨q43_2, q1_5, q43_0, q43_1, by decide, by decide +kernel⟩
noncomputable def pX11_word_23_S1 (zM : Nat → Int32) (u1 : Int32) : Int32 := (if (fX11_lacks u1 (255 : Int32)) = (0 : Int32) then (fX11_four zM u1) else (0 : Int32))
noncomputable def fX11_word (zM : Nat → Int32) (u1 : Int32) : Int32 := (pX11_word_23_S1 zM u1)
noncomputable def fX11_word__m_thrown (u1 : Int32) : Int32 := (fX11_lacks__m_thrown u1 (255 : Int32))
noncomputable def okX11_word (u1 : Int32) : Prop := (((fX11_lacks u1 (255 : Int32)) = (0 : Int32)) → okX11_four 1024 u1)
set_option maxRecDepth 100000 in
set_option maxHeartbeats 4000000 in
theorem kX11_word (l : Launch) (D : va_G) (kI kZ : ClassId) (b_m : Nat) (b_zM : Nat) (m_thrown : Int32) (m_x : Nat) (m_v : Nat) (m_old : Nat) (m_shut : Nat) (m_choices : Int64) (m_vl : Int32) (m_vtype : Int32) (m_vstart : Int32) (m_vxrm : Int32) (m_vxsat : Int32) (m_done : Int32) (m_illegal : Int32) (m_traps : Int32) (m_trapAddress : Int32) (m_word : Int32) (m_vd : Int32) (m_vs1 : Int32) (m_vs2 : Int32) (m_f3 : Int32) (m_f6 : Int32) (m_sew : Int32) (m_l8 : Int32) (m_unmasked : Int32) (zM : Nat → Int32) (u1 : Int32) (hok : okX11_word u1) : kM l yX11_word cX11_word 2 (some .int) 1 14 0 0 D [(kI, .int), (kZ, .boolean)] [.ref b_m, .int u1] [(b_m, .inr (10, [.int m_thrown, .ref m_x, .ref m_v, .ref m_old, .ref b_zM, .ref m_shut, .long m_choices, .int m_vl, .int m_vtype, .int m_vstart, .int m_vxrm, .int m_vxsat, .int m_done, .int m_illegal, .int m_traps, .int m_trapAddress, .int m_word, .int m_vd, .int m_vs1, .int m_vs2, .int m_f3, .int m_f6, .int m_sew, .int m_l8, .int m_unmasked])), (b_zM, .inl (kI, 1024, .inl zM))] (some (.int (fX11_word zM u1))) [(b_m, .inr (10, [.int (fX11_word__m_thrown u1), .ref m_x, .ref m_v, .ref m_old, .ref b_zM, .ref m_shut, .long m_choices, .int m_vl, .int m_vtype, .int m_vstart, .int m_vxrm, .int m_vxsat, .int m_done, .int m_illegal, .int m_traps, .int m_trapAddress, .int m_word, .int m_vd, .int m_vs1, .int m_vs2, .int m_f3, .int m_f6, .int m_sew, .int m_l8, .int m_unmasked])), (b_zM, .inl (kI, 1024, .inl zM))] := by
  refine kM.of (by decide) rfl ?_
  intro p e R s m args below meth c A X _ _ hRt hLk
  refine k_sub [0, 1] (lv' := [(0, .ref b_m), (1, .int u1)]) rfl ?_
  unfold okX11_word at hok
  refine k_aload_n X dX11_word_0 rfl 0 rfl rfl ?_
  refine k_iload_n X dX11_word_1 rfl 1 rfl rfl ?_
  refine k_sipush X dX11_word_2 kc_s_255 rfl ?_
  refine k_cV1 (st := []) (ws' := [(b_m, .inr (10, [.int (fX11_lacks__m_thrown u1 (255 : Int32)), .ref m_x, .ref m_v, .ref m_old, .ref b_zM, .ref m_shut, .long m_choices, .int m_vl, .int m_vtype, .int m_vstart, .int m_vxrm, .int m_vxsat, .int m_done, .int m_illegal, .int m_traps, .int m_trapAddress, .int m_word, .int m_vd, .int m_vs1, .int m_vs2, .int m_f3, .int m_f6, .int m_sew, .int m_l8, .int m_unmasked])), (b_zM, .inl (kI, 1024, .inl zM))]) (wr := [(b_zM, .inl (kI, 1024, .inl zM))]) (ci := 10) (q9 := 0) X [.int u1, .int (255 : Int32)] 0 [0] [1] [1, 0] (kX11_lacks l D kI kZ b_m m_thrown m_x m_v m_old b_zM m_shut m_choices m_vl m_vtype m_vstart m_vxrm m_vxsat m_done m_illegal m_traps m_trapAddress m_word m_vd m_vs1 m_vs2 m_f3 m_f6 m_sew m_l8 m_unmasked u1 (255 : Int32)) vX11_lacks q41_5 dX11_word_5 rfl rfl rfl rfl rfl rfl rfl rfl rfl rfl rfl rfl rfl rfl rfl ?_
  refine k_mid2 [(b_m, .inr (10, [.int (fX11_lacks__m_thrown u1 (255 : Int32)), .ref m_x, .ref m_v, .ref m_old, .ref b_zM, .ref m_shut, .long m_choices, .int m_vl, .int m_vtype, .int m_vstart, .int m_vxrm, .int m_vxsat, .int m_done, .int m_illegal, .int m_traps, .int m_trapAddress, .int m_word, .int m_vd, .int m_vs1, .int m_vs2, .int m_f3, .int m_f6, .int m_sew, .int m_l8, .int m_unmasked])), (b_zM, .inl (kI, 1024, .inl zM))] [(0, .ref b_m), (1, .int u1)] [.int (pX11_word_23_S1 zM u1)] 23 (fun hJ2 => ?_) ?_
  · skip
    refine k_if_eq (tgt := 15) X dX11_word_8 (by decide) rfl (fun c1 => ?_) (fun c1 => ?_)
    · skip
      refine k_aload_n X dX11_word_15 rfl 0 rfl rfl ?_
      refine k_get X i_wsX110 0 4 q5_20 rfl rfl rfl rfl rfl dX11_word_16 rfl ?_
      refine k_iload_n X dX11_word_19 rfl 1 rfl rfl ?_
      refine k_cS1 (st := []) (ws' := [(b_m, .inr (10, [.int (fX11_lacks__m_thrown u1 (255 : Int32)), .ref m_x, .ref m_v, .ref m_old, .ref b_zM, .ref m_shut, .long m_choices, .int m_vl, .int m_vtype, .int m_vstart, .int m_vxrm, .int m_vxsat, .int m_done, .int m_illegal, .int m_traps, .int m_trapAddress, .int m_word, .int m_vd, .int m_vs1, .int m_vs2, .int m_f3, .int m_f6, .int m_sew, .int m_l8, .int m_unmasked])), (b_zM, .inl (kI, 1024, .inl zM))]) (wr := [(b_m, .inr (10, [.int (fX11_lacks__m_thrown u1 (255 : Int32)), .ref m_x, .ref m_v, .ref m_old, .ref b_zM, .ref m_shut, .long m_choices, .int m_vl, .int m_vtype, .int m_vstart, .int m_vxrm, .int m_vxsat, .int m_done, .int m_illegal, .int m_traps, .int m_trapAddress, .int m_word, .int m_vd, .int m_vs1, .int m_vs2, .int m_f3, .int m_f6, .int m_sew, .int m_l8, .int m_unmasked]))]) X [.ref b_zM, .int u1] 0 [1] [0] [0, 1] (kX11_four l D kI kZ b_zM 1024 zM u1 (hok c1)) vX11_four q42_13 dX11_word_20 rfl rfl rfl rfl rfl rfl rfl rfl rfl rfl rfl rfl rfl ?_
      have e3 : (pX11_word_23_S1 zM u1) = (fX11_four zM u1) := by rw [pX11_word_23_S1, if_pos c1]
      rw [e3] at hJ2
      exact k_sub [0, 1] rfl hJ2
    refine k_iconst X dX11_word_11 kc_i_0 rfl ?_
    refine k_goto (tgt := 23) X dX11_word_12 (by decide) ?_
    have e4 : (pX11_word_23_S1 zM u1) = (0 : Int32) := by rw [pX11_word_23_S1, if_neg c1]
    rw [e4] at hJ2
    exact k_sub [0, 1] rfl hJ2
  have e5 : (fX11_word zM u1) = (pX11_word_23_S1 zM u1) := by rw [fX11_word]
  have e6 : (fX11_word__m_thrown u1) = (fX11_lacks__m_thrown u1 (255 : Int32)) := by rw [fX11_word__m_thrown]
  exact k_iret9 X hRt hLk e5.symm (by rw [e6]) dX11_word_23
theorem vX11_word : kVi yX11_word cX11_word 2 (some .int) 1 := ⟨q43_17, q1_5, q43_15, q43_16, by decide, by decide +kernel⟩
noncomputable def fX11_setWord__m_thrown (u1 : Int32) : Int32 := (fX11_lacks__m_thrown u1 (255 : Int32))
noncomputable def fX11_setWord__zM (zM : Nat → Int32) (u1 : Int32) (u2 : Int32) : Nat → Int32 := (if (fX11_lacks u1 (255 : Int32)) = (0 : Int32) then (fX11_putFour__zA zM u1 u2) else zM)
noncomputable def okX11_setWord (zM : Nat → Int32) (u1 : Int32) (u2 : Int32) : Prop := (((fX11_lacks u1 (255 : Int32)) = (0 : Int32)) → okX11_putFour 1024 zM u1 u2)
set_option maxRecDepth 100000 in
set_option maxHeartbeats 4000000 in
theorem kX11_setWord (l : Launch) (D : va_G) (kI kZ : ClassId) (b_m : Nat) (b_zM : Nat) (m_thrown : Int32) (m_x : Nat) (m_v : Nat) (m_old : Nat) (m_shut : Nat) (m_choices : Int64) (m_vl : Int32) (m_vtype : Int32) (m_vstart : Int32) (m_vxrm : Int32) (m_vxsat : Int32) (m_done : Int32) (m_illegal : Int32) (m_traps : Int32) (m_trapAddress : Int32) (m_word : Int32) (m_vd : Int32) (m_vs1 : Int32) (m_vs2 : Int32) (m_f3 : Int32) (m_f6 : Int32) (m_sew : Int32) (m_l8 : Int32) (m_unmasked : Int32) (zM : Nat → Int32) (u1 : Int32) (u2 : Int32) (hok : okX11_setWord zM u1 u2) : kM l yX11_setWord cX11_setWord 3 none 1 15 0 0 D [(kI, .int), (kZ, .boolean)] [.ref b_m, .int u1, .int u2] [(b_m, .inr (10, [.int m_thrown, .ref m_x, .ref m_v, .ref m_old, .ref b_zM, .ref m_shut, .long m_choices, .int m_vl, .int m_vtype, .int m_vstart, .int m_vxrm, .int m_vxsat, .int m_done, .int m_illegal, .int m_traps, .int m_trapAddress, .int m_word, .int m_vd, .int m_vs1, .int m_vs2, .int m_f3, .int m_f6, .int m_sew, .int m_l8, .int m_unmasked])), (b_zM, .inl (kI, 1024, .inl zM))] none [(b_m, .inr (10, [.int (fX11_setWord__m_thrown u1), .ref m_x, .ref m_v, .ref m_old, .ref b_zM, .ref m_shut, .long m_choices, .int m_vl, .int m_vtype, .int m_vstart, .int m_vxrm, .int m_vxsat, .int m_done, .int m_illegal, .int m_traps, .int m_trapAddress, .int m_word, .int m_vd, .int m_vs1, .int m_vs2, .int m_f3, .int m_f6, .int m_sew, .int m_l8, .int m_unmasked])), (b_zM, .inl (kI, 1024, .inl (fX11_setWord__zM zM u1 u2)))] := by
  refine kM.of (by decide) rfl ?_
  intro p e R s m args below meth c A X _ _ hRt hLk
  refine k_sub [0, 1, 2] (lv' := [(0, .ref b_m), (1, .int u1), (2, .int u2)]) rfl ?_
  unfold okX11_setWord at hok
  refine k_aload_n X dX11_setWord_0 rfl 0 rfl rfl ?_
  refine k_iload_n X dX11_setWord_1 rfl 1 rfl rfl ?_
  refine k_sipush X dX11_setWord_2 kc_s_255 rfl ?_
  refine k_cV1 (st := []) (ws' := [(b_m, .inr (10, [.int (fX11_lacks__m_thrown u1 (255 : Int32)), .ref m_x, .ref m_v, .ref m_old, .ref b_zM, .ref m_shut, .long m_choices, .int m_vl, .int m_vtype, .int m_vstart, .int m_vxrm, .int m_vxsat, .int m_done, .int m_illegal, .int m_traps, .int m_trapAddress, .int m_word, .int m_vd, .int m_vs1, .int m_vs2, .int m_f3, .int m_f6, .int m_sew, .int m_l8, .int m_unmasked])), (b_zM, .inl (kI, 1024, .inl zM))]) (wr := [(b_zM, .inl (kI, 1024, .inl zM))]) (ci := 10) (q9 := 0) X [.int u1, .int (255 : Int32)] 0 [0] [1] [1, 0] (kX11_lacks l D kI kZ b_m m_thrown m_x m_v m_old b_zM m_shut m_choices m_vl m_vtype m_vstart m_vxrm m_vxsat m_done m_illegal m_traps m_trapAddress m_word m_vd m_vs1 m_vs2 m_f3 m_f6 m_sew m_l8 m_unmasked u1 (255 : Int32)) vX11_lacks q41_5 dX11_setWord_5 rfl rfl rfl rfl rfl rfl rfl rfl rfl rfl rfl rfl rfl rfl rfl ?_
  refine k_if_eq (tgt := 12) X dX11_setWord_8 (by decide) rfl (fun c1 => ?_) (fun c1 => ?_)
  · skip
    refine k_aload_n X dX11_setWord_12 rfl 0 rfl rfl ?_
    refine k_get X i_wsX110 0 4 q5_20 rfl rfl rfl rfl rfl dX11_setWord_13 rfl ?_
    refine k_iload_n X dX11_setWord_16 rfl 1 rfl rfl ?_
    refine k_iload_n X dX11_setWord_17 rfl 2 rfl rfl ?_
    refine k_cS0 (st := []) (ws' := [(b_m, .inr (10, [.int (fX11_lacks__m_thrown u1 (255 : Int32)), .ref m_x, .ref m_v, .ref m_old, .ref b_zM, .ref m_shut, .long m_choices, .int m_vl, .int m_vtype, .int m_vstart, .int m_vxrm, .int m_vxsat, .int m_done, .int m_illegal, .int m_traps, .int m_trapAddress, .int m_word, .int m_vd, .int m_vs1, .int m_vs2, .int m_f3, .int m_f6, .int m_sew, .int m_l8, .int m_unmasked])), (b_zM, .inl (kI, 1024, .inl (fX11_putFour__zA zM u1 u2)))]) (wr := [(b_m, .inr (10, [.int (fX11_lacks__m_thrown u1 (255 : Int32)), .ref m_x, .ref m_v, .ref m_old, .ref b_zM, .ref m_shut, .long m_choices, .int m_vl, .int m_vtype, .int m_vstart, .int m_vxrm, .int m_vxsat, .int m_done, .int m_illegal, .int m_traps, .int m_trapAddress, .int m_word, .int m_vd, .int m_vs1, .int m_vs2, .int m_f3, .int m_f6, .int m_sew, .int m_l8, .int m_unmasked]))]) X [.ref b_zM, .int u1, .int u2] 0 [1] [0] [0, 1] (kX11_putFour l D kI kZ b_zM 1024 zM u1 u2 (hok c1)) vX11_putFour q43_3 dX11_setWord_18 rfl rfl rfl rfl rfl rfl rfl rfl rfl rfl rfl rfl rfl ?_
    have e2 : (fX11_setWord__m_thrown u1) = (fX11_lacks__m_thrown u1 (255 : Int32)) := by rw [fX11_setWord__m_thrown]
    have e3 : (fX11_setWord__zM zM u1 u2) = (fX11_putFour__zA zM u1 u2) := by rw [fX11_setWord__zM, if_pos c1]
    exact k_vret X hRt hLk (by rw [e2, e3]) dX11_setWord_21
  have e4 : (fX11_setWord__m_thrown u1) = (fX11_lacks__m_thrown u1 (255 : Int32)) := by rw [fX11_setWord__m_thrown]
  have e5 : (fX11_setWord__zM zM u1 u2) = zM := by rw [fX11_setWord__zM, if_neg c1]
  exact k_vret X hRt hLk (by rw [e4, e5]) dX11_setWord_11
theorem vX11_setWord : kVi yX11_setWord cX11_setWord 3 none 2 := ⟨q44_4, q1_5, q44_2, q44_3, by decide, by decide +kernel⟩
noncomputable def fX11_shut__m_thrown (u1 : Int32) : Int32 := (fX11_lacks__m_thrown u1 (15 : Int32))
noncomputable def fX11_shut__zS (zS : Nat → Int32) (u1 : Int32) (u2 : Int32) : Nat → Int32 := (if (fX11_lacks u1 (15 : Int32)) = (0 : Int32) then (upd zS (Int32.toNatClampNeg u1) (vp_nar .boolean u2)) else zS)
noncomputable def okX11_shut (u1 : Int32) : Prop := (((fX11_lacks u1 (15 : Int32)) = (0 : Int32)) → vp_in u1 16)
set_option maxRecDepth 100000 in
set_option maxHeartbeats 4000000 in
theorem kX11_shut (l : Launch) (D : va_G) (kI kZ : ClassId) (b_m : Nat) (b_zS : Nat) (m_thrown : Int32) (m_x : Nat) (m_v : Nat) (m_old : Nat) (m_memory : Nat) (m_choices : Int64) (m_vl : Int32) (m_vtype : Int32) (m_vstart : Int32) (m_vxrm : Int32) (m_vxsat : Int32) (m_done : Int32) (m_illegal : Int32) (m_traps : Int32) (m_trapAddress : Int32) (m_word : Int32) (m_vd : Int32) (m_vs1 : Int32) (m_vs2 : Int32) (m_f3 : Int32) (m_f6 : Int32) (m_sew : Int32) (m_l8 : Int32) (m_unmasked : Int32) (zS : Nat → Int32) (u1 : Int32) (u2 : Int32) (hok : okX11_shut u1) : kM l yX11_shut cX11_shut 3 none 1 14 0 0 D [(kI, .int), (kZ, .boolean)] [.ref b_m, .int u1, .int u2] [(b_m, .inr (10, [.int m_thrown, .ref m_x, .ref m_v, .ref m_old, .ref m_memory, .ref b_zS, .long m_choices, .int m_vl, .int m_vtype, .int m_vstart, .int m_vxrm, .int m_vxsat, .int m_done, .int m_illegal, .int m_traps, .int m_trapAddress, .int m_word, .int m_vd, .int m_vs1, .int m_vs2, .int m_f3, .int m_f6, .int m_sew, .int m_l8, .int m_unmasked])), (b_zS, .inl (kZ, 16, .inl zS))] none [(b_m, .inr (10, [.int (fX11_shut__m_thrown u1), .ref m_x, .ref m_v, .ref m_old, .ref m_memory, .ref b_zS, .long m_choices, .int m_vl, .int m_vtype, .int m_vstart, .int m_vxrm, .int m_vxsat, .int m_done, .int m_illegal, .int m_traps, .int m_trapAddress, .int m_word, .int m_vd, .int m_vs1, .int m_vs2, .int m_f3, .int m_f6, .int m_sew, .int m_l8, .int m_unmasked])), (b_zS, .inl (kZ, 16, .inl (fX11_shut__zS zS u1 u2)))] := by
  refine kM.of (by decide) rfl ?_
  intro p e R s m args below meth c A X _ _ hRt hLk
  refine k_sub [0, 1, 2] (lv' := [(0, .ref b_m), (1, .int u1), (2, .int u2)]) rfl ?_
  unfold okX11_shut at hok
  refine k_aload_n X dX11_shut_0 rfl 0 rfl rfl ?_
  refine k_iload_n X dX11_shut_1 rfl 1 rfl rfl ?_
  refine k_bipush X dX11_shut_2 kc_b_15 rfl ?_
  refine k_cV1 (st := []) (ws' := [(b_m, .inr (10, [.int (fX11_lacks__m_thrown u1 (15 : Int32)), .ref m_x, .ref m_v, .ref m_old, .ref m_memory, .ref b_zS, .long m_choices, .int m_vl, .int m_vtype, .int m_vstart, .int m_vxrm, .int m_vxsat, .int m_done, .int m_illegal, .int m_traps, .int m_trapAddress, .int m_word, .int m_vd, .int m_vs1, .int m_vs2, .int m_f3, .int m_f6, .int m_sew, .int m_l8, .int m_unmasked])), (b_zS, .inl (kZ, 16, .inl zS))]) (wr := [(b_zS, .inl (kZ, 16, .inl zS))]) (ci := 10) (q9 := 0) X [.int u1, .int (15 : Int32)] 0 [0] [1] [1, 0] (kX11_lacks l D kI kZ b_m m_thrown m_x m_v m_old m_memory b_zS m_choices m_vl m_vtype m_vstart m_vxrm m_vxsat m_done m_illegal m_traps m_trapAddress m_word m_vd m_vs1 m_vs2 m_f3 m_f6 m_sew m_l8 m_unmasked u1 (15 : Int32)) vX11_lacks q41_5 dX11_shut_4 rfl rfl rfl rfl rfl rfl rfl rfl rfl rfl rfl rfl rfl rfl rfl ?_
  refine k_if_eq (tgt := 11) X dX11_shut_7 (by decide) rfl (fun c1 => ?_) (fun c1 => ?_)
  · skip
    refine k_aload_n X dX11_shut_11 rfl 0 rfl rfl ?_
    refine k_get X i_wsX110 0 5 q5_22 rfl rfl rfl rfl rfl dX11_shut_12 rfl ?_
    refine k_iload_n X dX11_shut_15 rfl 1 rfl rfl ?_
    refine k_iload_n X dX11_shut_16 rfl 2 rfl rfl ?_
    refine k_zast (ws' := [(b_m, .inr (10, [.int (fX11_lacks__m_thrown u1 (15 : Int32)), .ref m_x, .ref m_v, .ref m_old, .ref m_memory, .ref b_zS, .long m_choices, .int m_vl, .int m_vtype, .int m_vstart, .int m_vxrm, .int m_vxsat, .int m_done, .int m_illegal, .int m_traps, .int m_trapAddress, .int m_word, .int m_vd, .int m_vs1, .int m_vs2, .int m_f3, .int m_f6, .int m_sew, .int m_l8, .int m_unmasked])), (b_zS, .inl (kZ, 16, .inl (upd zS (Int32.toNatClampNeg u1) (vp_nar .boolean u2))))]) X 1 1 rfl rfl (hok c1) rfl dX11_shut_17 rfl ?_
    have e2 : (fX11_shut__m_thrown u1) = (fX11_lacks__m_thrown u1 (15 : Int32)) := by rw [fX11_shut__m_thrown]
    have e3 : (fX11_shut__zS zS u1 u2) = (upd zS (Int32.toNatClampNeg u1) (vp_nar .boolean u2)) := by rw [fX11_shut__zS, if_pos c1]
    exact k_vret X hRt hLk (by rw [e2, e3]) dX11_shut_18
  have e4 : (fX11_shut__m_thrown u1) = (fX11_lacks__m_thrown u1 (15 : Int32)) := by rw [fX11_shut__m_thrown]
  have e5 : (fX11_shut__zS zS u1 u2) = zS := by rw [fX11_shut__zS, if_neg c1]
  exact k_vret X hRt hLk (by rw [e4, e5]) dX11_shut_10
theorem vX11_shut : kVi yX11_shut cX11_shut 3 none 2 := ⟨q44_19, q1_5, q44_17, q44_18, by decide, by decide +kernel⟩
noncomputable def tX11_sum_9 (w_L2 : Int32) (w_L1 : Int32) : Prop := (if (128 : Int32) ≤ w_L2 then False else True)
noncomputable def bX11_sum_9_L2 (w_L2 : Int32) (w_L1 : Int32) : Int32 := (if (128 : Int32) ≤ w_L2 then w_L2 else (w_L2 + (1 : Int32)))
noncomputable def bX11_sum_9_L1 (zV : Nat → Int32) (w_L2 : Int32) (w_L1 : Int32) : Int32 := (if (128 : Int32) ≤ w_L2 then w_L1 else (((31 : Int32) * w_L1) + (fX11_four zV w_L2)))
noncomputable def LX11_sum_9 (zV : Nat → Int32) : Nat → Int32 × Int32 → Int32 × Int32
  | 0, s => s
  | n + 1, s => LX11_sum_9 zV n ((bX11_sum_9_L2 s.1 s.2), (bX11_sum_9_L1 zV s.1 s.2))
noncomputable def oX11_sum_9 (w_L2 : Int32) (w_L1 : Int32) : Prop := (¬ ((128 : Int32) ≤ w_L2) → okX11_four 512 w_L2)
noncomputable def KX11_sum_9 (zV : Nat → Int32) : Nat → Int32 × Int32 → Prop
  | 0, _ => True
  | n + 1, s => (tX11_sum_9 s.1 s.2 ∧ oX11_sum_9 s.1 s.2) ∧ KX11_sum_9 zV n ((bX11_sum_9_L2 s.1 s.2), (bX11_sum_9_L1 zV s.1 s.2))
theorem itX11_sum_9 (zV : Nat → Int32) {b9 : Nat} (h9 : (128 : Int32) = nI b9) (hb9 : b9 < 2147483648) : ∀ (n a : Nat) (w_L1 : Int32), a + n ≤ b9 → LX11_sum_9 zV n (nI a, w_L1) = (nI (a + n), itr (fun k s => ((((31 : Int32) * s) + (fX11_four zV (nI k))))) n a (w_L1))
  | 0, a, w_L1, _ => rfl
  | n + 1, a, w_L1, h => by
    have hc : ¬ ((128 : Int32) ≤ nI a) := by rw [h9]; exact nI_ge (by omega) hb9
    have e0 : bX11_sum_9_L2 (nI a) w_L1 = nI (a + 1) := by rw [bX11_sum_9_L2, if_neg hc, nI_1]
    have e1 : bX11_sum_9_L1 zV (nI a) w_L1 = (((31 : Int32) * w_L1) + (fX11_four zV (nI a))) := by rw [bX11_sum_9_L1, if_neg hc]
    show LX11_sum_9 zV n (bX11_sum_9_L2 (nI a) w_L1, bX11_sum_9_L1 zV (nI a) w_L1) = _
    rw [e0, e1, itX11_sum_9 zV h9 hb9 n (a + 1) _ (by omega), show a + (n + 1) = a + 1 + n by omega]; rfl
theorem ktX11_sum_9 (zV : Nat → Int32) {b9 : Nat} (h9 : (128 : Int32) = nI b9) (hb9 : b9 < 2147483648) (I : Nat → Int32 → Prop) (hI : ∀ (a : Nat) (w_L1 : Int32), I a (w_L1) → a < b9 → oX11_sum_9 (nI a) w_L1 ∧ I (a + 1) ((((31 : Int32) * w_L1) + (fX11_four zV (nI a))))) : ∀ (n a : Nat) (w_L1 : Int32), a + n ≤ b9 → I a (w_L1) → KX11_sum_9 zV n (nI a, w_L1)
  | 0, a, w_L1, _, _ => True.intro
  | n + 1, a, w_L1, h, hi => by
    have hc : ¬ ((128 : Int32) ≤ nI a) := by rw [h9]; exact nI_ge (by omega) hb9
    have e0 : bX11_sum_9_L2 (nI a) w_L1 = nI (a + 1) := by rw [bX11_sum_9_L2, if_neg hc, nI_1]
    have e1 : bX11_sum_9_L1 zV (nI a) w_L1 = (((31 : Int32) * w_L1) + (fX11_four zV (nI a))) := by rw [bX11_sum_9_L1, if_neg hc]
    obtain ⟨h1, h2⟩ := hI a w_L1 hi (by omega)
    show (tX11_sum_9 (nI a) w_L1 ∧ oX11_sum_9 (nI a) w_L1) ∧ KX11_sum_9 zV n (bX11_sum_9_L2 (nI a) w_L1, bX11_sum_9_L1 zV (nI a) w_L1)
    refine ⟨⟨by rw [tX11_sum_9, if_neg hc]; exact True.intro, h1⟩, ?_⟩
    rw [e0, e1]; exact ktX11_sum_9 zV h9 hb9 I hI n (a + 1) _ (by omega) h2
theorem ntX11_sum_9 (zV : Nat → Int32) {b9 : Nat} (h9 : (128 : Int32) = nI b9) (hb9 : b9 < 2147483648) (w_L1 : Int32) : ¬ tX11_sum_9 (nI b9) w_L1 := by rw [tX11_sum_9, if_pos (by rw [h9]; exact Int32.le_refl _)]; exact id
noncomputable def fX11_sum (zV : Nat → Int32) : Int32 := (LX11_sum_9 zV (kN 128) ((0 : Int32), (0 : Int32))).2
noncomputable def fX11_sum__m_thrown : Int32 := (0 : Int32)
noncomputable def okX11_sum (zV : Nat → Int32) : Prop := (KX11_sum_9 zV (kN 128) ((0 : Int32), (0 : Int32))) ∧ (¬ (tX11_sum_9 ((LX11_sum_9 zV (kN 128) ((0 : Int32), (0 : Int32))).1) ((LX11_sum_9 zV (kN 128) ((0 : Int32), (0 : Int32))).2))) ∧ (¬ ((128 : Int32) ≤ (LX11_sum_9 zV (kN 128) ((0 : Int32), (0 : Int32))).1) → okX11_four 512 ((LX11_sum_9 zV (kN 128) ((0 : Int32), (0 : Int32))).1))
set_option maxRecDepth 100000 in
set_option maxHeartbeats 4000000 in
theorem kX11_sum (l : Launch) (D : va_G) (kI kZ : ClassId) (b_m : Nat) (b_zV : Nat) (m_thrown : Int32) (m_x : Nat) (m_old : Nat) (m_memory : Nat) (m_shut : Nat) (m_choices : Int64) (m_vl : Int32) (m_vtype : Int32) (m_vstart : Int32) (m_vxrm : Int32) (m_vxsat : Int32) (m_done : Int32) (m_illegal : Int32) (m_traps : Int32) (m_trapAddress : Int32) (m_word : Int32) (m_vd : Int32) (m_vs1 : Int32) (m_vs2 : Int32) (m_f3 : Int32) (m_f6 : Int32) (m_sew : Int32) (m_l8 : Int32) (m_unmasked : Int32) (zV : Nat → Int32) (hok : okX11_sum zV) : kM l yX11_sum cX11_sum 3 (some .int) 1 14 0 0 D [(kI, .int), (kZ, .boolean)] [.ref b_m] [(b_m, .inr (10, [.int m_thrown, .ref m_x, .ref b_zV, .ref m_old, .ref m_memory, .ref m_shut, .long m_choices, .int m_vl, .int m_vtype, .int m_vstart, .int m_vxrm, .int m_vxsat, .int m_done, .int m_illegal, .int m_traps, .int m_trapAddress, .int m_word, .int m_vd, .int m_vs1, .int m_vs2, .int m_f3, .int m_f6, .int m_sew, .int m_l8, .int m_unmasked])), (b_zV, .inl (kI, 512, .inl zV))] (some (.int (fX11_sum zV))) [(b_m, .inr (10, [.int fX11_sum__m_thrown, .ref m_x, .ref b_zV, .ref m_old, .ref m_memory, .ref m_shut, .long m_choices, .int m_vl, .int m_vtype, .int m_vstart, .int m_vxrm, .int m_vxsat, .int m_done, .int m_illegal, .int m_traps, .int m_trapAddress, .int m_word, .int m_vd, .int m_vs1, .int m_vs2, .int m_f3, .int m_f6, .int m_sew, .int m_l8, .int m_unmasked])), (b_zV, .inl (kI, 512, .inl zV))] := by
  refine kM.of (by decide) rfl ?_
  intro p e R s m args below meth c A X _ _ hRt hLk
  refine k_sub [0] (lv' := [(0, .ref b_m)]) rfl ?_
  unfold okX11_sum at hok
  refine k_aload_n X dX11_sum_0 rfl 0 rfl rfl ?_
  refine k_iconst X dX11_sum_1 kc_i_0 rfl ?_
  refine k_put (ws' := [(b_m, .inr (10, [.int (0 : Int32), .ref m_x, .ref b_zV, .ref m_old, .ref m_memory, .ref m_shut, .long m_choices, .int m_vl, .int m_vtype, .int m_vstart, .int m_vxrm, .int m_vxsat, .int m_done, .int m_illegal, .int m_traps, .int m_trapAddress, .int m_word, .int m_vd, .int m_vs1, .int m_vs2, .int m_f3, .int m_f6, .int m_sew, .int m_l8, .int m_unmasked])), (b_zV, .inl (kI, 512, .inl zV))]) X i_wsX110 tyX11 tyX11_ok nmX11 0 0 q27_1 rfl rfl rfl rfl rfl rfl rfl rfl rfl dX11_sum_2 rfl ?_
  refine k_iconst X dX11_sum_5 kc_i_0 rfl ?_
  refine k_istore_n (lv' := [(1, .int (0 : Int32)), (0, .ref b_m)]) X dX11_sum_6 rfl rfl rfl rfl ?_
  refine k_iconst X dX11_sum_7 kc_i_0 rfl ?_
  refine k_istore_n (lv' := [(2, .int (0 : Int32)), (1, .int (0 : Int32)), (0, .ref b_m)]) X dX11_sum_8 rfl rfl rfl rfl ?_
  refine k_sub [2, 1, 0] (lv' := [(0, .ref b_m), (1, .int (0 : Int32)), (2, .int (0 : Int32))]) rfl ?_
  refine k_loop (KX11_sum_9 zV) (LX11_sum_9 zV) (fun s9 => (bX11_sum_9_L2 s9.1 s9.2, bX11_sum_9_L1 zV s9.1 s9.2)) (fun s9 => tX11_sum_9 s9.1 s9.2 ∧ oX11_sum_9 s9.1 s9.2) (fun s9 => [(b_m, .inr (10, [.int (0 : Int32), .ref m_x, .ref b_zV, .ref m_old, .ref m_memory, .ref m_shut, .long m_choices, .int m_vl, .int m_vtype, .int m_vstart, .int m_vxrm, .int m_vxsat, .int m_done, .int m_illegal, .int m_traps, .int m_trapAddress, .int m_word, .int m_vd, .int m_vs1, .int m_vs2, .int m_f3, .int m_f6, .int m_sew, .int m_l8, .int m_unmasked])), (b_zV, .inl (kI, 512, .inl zV))]) (fun s9 => [(0, .ref b_m), (1, .int s9.2), (2, .int s9.1)]) 9 (fun _ => rfl) (fun _ _ => rfl) (fun _ _ h => h) ?_ (kN 128) ((0 : Int32), (0 : Int32)) (hok.1) ?_
  · rintro ⟨w_L2, w_L1⟩ ⟨hlat, hob⟩ g0
    try dsimp only at hlat hob g0 ⊢
    unfold oX11_sum_9 at hob
    refine k_iload_n X dX11_sum_9 rfl 2 rfl rfl ?_
    refine k_sipush X dX11_sum_10 kc_s_128 rfl ?_
    refine k_icmp_ge (tgt := 36) X dX11_sum_13 (by decide) rfl (fun c1 => ?_) (fun c1 => ?_)
    · skip
      exact absurd hlat (by rw [tX11_sum_9, if_pos c1]; exact id)
    refine k_bipush X dX11_sum_16 kc_b_31 rfl ?_
    refine k_iload_n X dX11_sum_18 rfl 1 rfl rfl ?_
    refine k_imul X dX11_sum_19 rfl ?_
    refine k_aload_n X dX11_sum_20 rfl 0 rfl rfl ?_
    refine k_get X i_wsX110 0 2 q5_18 rfl rfl rfl rfl rfl dX11_sum_21 rfl ?_
    refine k_iload_n X dX11_sum_24 rfl 2 rfl rfl ?_
    refine k_cS1 (st := [.int ((31 : Int32) * w_L1)]) (ws' := [(b_m, .inr (10, [.int (0 : Int32), .ref m_x, .ref b_zV, .ref m_old, .ref m_memory, .ref m_shut, .long m_choices, .int m_vl, .int m_vtype, .int m_vstart, .int m_vxrm, .int m_vxsat, .int m_done, .int m_illegal, .int m_traps, .int m_trapAddress, .int m_word, .int m_vd, .int m_vs1, .int m_vs2, .int m_f3, .int m_f6, .int m_sew, .int m_l8, .int m_unmasked])), (b_zV, .inl (kI, 512, .inl zV))]) (wr := [(b_m, .inr (10, [.int (0 : Int32), .ref m_x, .ref b_zV, .ref m_old, .ref m_memory, .ref m_shut, .long m_choices, .int m_vl, .int m_vtype, .int m_vstart, .int m_vxrm, .int m_vxsat, .int m_done, .int m_illegal, .int m_traps, .int m_trapAddress, .int m_word, .int m_vd, .int m_vs1, .int m_vs2, .int m_f3, .int m_f6, .int m_sew, .int m_l8, .int m_unmasked]))]) X [.ref b_zV, .int w_L2] 1 [1] [0] [0, 1] (kX11_four l D kI kZ b_zV 512 zV w_L2 (hob c1)) vX11_four q42_13 dX11_sum_25 rfl rfl rfl rfl rfl rfl rfl rfl rfl rfl rfl rfl rfl ?_
    refine k_iadd X dX11_sum_28 rfl ?_
    refine k_istore_n (lv' := [(1, .int (((31 : Int32) * w_L1) + (fX11_four zV w_L2))), (0, .ref b_m), (2, .int w_L2)]) X dX11_sum_29 rfl rfl rfl rfl ?_
    refine k_iinc (lv' := [(2, .int (w_L2 + (1 : Int32))), (1, .int (((31 : Int32) * w_L1) + (fX11_four zV w_L2))), (0, .ref b_m)]) X dX11_sum_30 2 rfl kc_i_1 rfl rfl rfl ?_
    refine k_goto (tgt := 9) X dX11_sum_33 (by decide) ?_
    have e3 : bX11_sum_9_L2 w_L2 w_L1 = (w_L2 + (1 : Int32)) := by rw [bX11_sum_9_L2, if_neg c1]
    rw [e3] at g0
    have e4 : bX11_sum_9_L1 zV w_L2 w_L1 = (((31 : Int32) * w_L1) + (fX11_four zV w_L2)) := by rw [bX11_sum_9_L1, if_neg c1]
    rw [e4] at g0
    exact k_sub [2, 1, 0] rfl g0
  try dsimp only
  refine k_iload_n X dX11_sum_9 rfl 2 rfl rfl ?_
  refine k_sipush X dX11_sum_10 kc_s_128 rfl ?_
  refine k_icmp_ge (tgt := 36) X dX11_sum_13 (by decide) rfl (fun c2 => ?_) (fun c2 => ?_)
  · skip
    refine k_iload_n X dX11_sum_36 rfl 1 rfl rfl ?_
    have e5 : (fX11_sum zV) = (LX11_sum_9 zV (kN 128) ((0 : Int32), (0 : Int32))).2 := by rw [fX11_sum]
    have e6 : fX11_sum__m_thrown = (0 : Int32) := by rw [fX11_sum__m_thrown]
    exact k_iret9 X hRt hLk e5.symm (by rw [e6]) dX11_sum_37
  refine k_bipush X dX11_sum_16 kc_b_31 rfl ?_
  refine k_iload_n X dX11_sum_18 rfl 1 rfl rfl ?_
  refine k_imul X dX11_sum_19 rfl ?_
  refine k_aload_n X dX11_sum_20 rfl 0 rfl rfl ?_
  refine k_get X i_wsX110 0 2 q5_18 rfl rfl rfl rfl rfl dX11_sum_21 rfl ?_
  refine k_iload_n X dX11_sum_24 rfl 2 rfl rfl ?_
  refine k_cS1 (st := [.int ((31 : Int32) * (LX11_sum_9 zV (kN 128) ((0 : Int32), (0 : Int32))).2)]) (ws' := [(b_m, .inr (10, [.int (0 : Int32), .ref m_x, .ref b_zV, .ref m_old, .ref m_memory, .ref m_shut, .long m_choices, .int m_vl, .int m_vtype, .int m_vstart, .int m_vxrm, .int m_vxsat, .int m_done, .int m_illegal, .int m_traps, .int m_trapAddress, .int m_word, .int m_vd, .int m_vs1, .int m_vs2, .int m_f3, .int m_f6, .int m_sew, .int m_l8, .int m_unmasked])), (b_zV, .inl (kI, 512, .inl zV))]) (wr := [(b_m, .inr (10, [.int (0 : Int32), .ref m_x, .ref b_zV, .ref m_old, .ref m_memory, .ref m_shut, .long m_choices, .int m_vl, .int m_vtype, .int m_vstart, .int m_vxrm, .int m_vxsat, .int m_done, .int m_illegal, .int m_traps, .int m_trapAddress, .int m_word, .int m_vd, .int m_vs1, .int m_vs2, .int m_f3, .int m_f6, .int m_sew, .int m_l8, .int m_unmasked]))]) X [.ref b_zV, .int ((LX11_sum_9 zV (kN 128) ((0 : Int32), (0 : Int32))).1)] 1 [1] [0] [0, 1] (kX11_four l D kI kZ b_zV 512 zV ((LX11_sum_9 zV (kN 128) ((0 : Int32), (0 : Int32))).1) (hok.2.2 c2)) vX11_four q42_13 dX11_sum_25 rfl rfl rfl rfl rfl rfl rfl rfl rfl rfl rfl rfl rfl ?_
  refine k_iadd X dX11_sum_28 rfl ?_
  refine k_istore_n (lv' := [(1, .int (((31 : Int32) * (LX11_sum_9 zV (kN 128) ((0 : Int32), (0 : Int32))).2) + (fX11_four zV ((LX11_sum_9 zV (kN 128) ((0 : Int32), (0 : Int32))).1)))), (0, .ref b_m), (2, .int ((LX11_sum_9 zV (kN 128) ((0 : Int32), (0 : Int32))).1))]) X dX11_sum_29 rfl rfl rfl rfl ?_
  refine k_iinc (lv' := [(2, .int ((LX11_sum_9 zV (kN 128) ((0 : Int32), (0 : Int32))).1 + (1 : Int32))), (1, .int (((31 : Int32) * (LX11_sum_9 zV (kN 128) ((0 : Int32), (0 : Int32))).2) + (fX11_four zV ((LX11_sum_9 zV (kN 128) ((0 : Int32), (0 : Int32))).1)))), (0, .ref b_m)]) X dX11_sum_30 2 rfl kc_i_1 rfl rfl rfl ?_
  refine k_goto (tgt := 9) X dX11_sum_33 (by decide) ?_
  exact absurd (show tX11_sum_9 ((LX11_sum_9 zV (kN 128) ((0 : Int32), (0 : Int32))).1) ((LX11_sum_9 zV (kN 128) ((0 : Int32), (0 : Int32))).2) from by rw [tX11_sum_9, if_neg c2]; exact True.intro) (hok.2.1)
theorem vX11_sum : kVi yX11_sum cX11_sum 3 (some .int) 0 := ⟨q46_2, q1_5, q46_0, q46_1, by decide, by decide +kernel⟩
