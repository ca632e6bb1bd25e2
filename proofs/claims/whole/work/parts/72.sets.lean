/-! ===== fields of an instruction word ===== -/
def fld (u : Int32) (k n : Nat) : Nat := u.toBitVec.toNat / 2 ^ k % 2 ^ n
theorem bt_nI {n j : Nat} (hj : j < 32) : bt (nI n) j = n.testBit j := by
  unfold bt
  show (BitVec.ofNat 32 n).getLsbD j = _
  rw [BitVec.getLsbD_ofNat]; simp [hj]
theorem fld_lt (u : Int32) (k n : Nat) : fld u k n < 2 ^ n := Nat.mod_lt _ (Nat.two_pow_pos n)
theorem bt_fld {u : Int32} {k n j : Nat} (hj : j < 32) : bt (nI (fld u k n)) j = (decide (j < n) && bt u (k + j)) := by
  rw [bt_nI hj]
  unfold fld
  rw [Nat.testBit_mod_two_pow, Nat.testBit_div_two_pow, Nat.add_comm j k]
  rfl
theorem fld_u {u : Int32} {k n : Nat} (hk : k < 32) : sru u (nI k) &&& nI (2 ^ n - 1) = nI (fld u k n) := by
  refine b_ext (fun j hj => ?_)
  rw [bt_fld hj, b_and, b_sruF k hk, bt_nI hj, Nat.testBit_two_pow_sub_one, Bool.and_comm]
theorem fld_s {u : Int32} {k n : Nat} (hk : k < 32) (hn : k + n ≤ 32) : shr u (nI k) &&& nI (2 ^ n - 1) = nI (fld u k n) := by
  refine b_ext (fun j hj => ?_)
  rw [bt_fld hj, b_and, b_shrF k hk u hj, bt_nI hj, Nat.testBit_two_pow_sub_one, Bool.and_comm]
  by_cases q : j < n
  · rw [if_pos (by omega)]
  · simp [q]
theorem fld_top {u : Int32} {k n : Nat} (hk : k < 32) (hn : k + n = 32) : sru u (nI k) = nI (fld u k n) := by
  refine b_ext (fun j hj => ?_)
  rw [bt_fld hj, b_sruF k hk]
  by_cases q : j < n
  · simp [q]
  · rw [b_big (by omega)]; simp [q]
theorem c_rd (u : Int32) : fX3_take__i_rd u = nI (fld u 7 5) := fld_u (u := u) (k := 7) (n := 5) (by decide)
theorem c_form (u : Int32) : fX3_take__i_form u = nI (fld u 12 3) := fld_u (u := u) (k := 12) (n := 3) (by decide)
theorem c_rs1 (u : Int32) : fX3_take__i_rs1 u = nI (fld u 15 5) := fld_u (u := u) (k := 15) (n := 5) (by decide)
theorem c_rs2 (u : Int32) : fX3_take__i_rs2 u = nI (fld u 20 5) := fld_u (u := u) (k := 20) (n := 5) (by decide)
theorem c_high (u : Int32) : fX3_take__i_high u = nI (fld u 26 6) := fld_top (u := u) (k := 26) (n := 6) (by decide) (by decide)
theorem c_masked (u : Int32) : fX3_take__i_masked u = if fld u 25 1 = 0 then 1 else 0 := by
  have e : sru u 25 &&& 1 = nI (fld u 25 1) := fld_u (u := u) (k := 25) (n := 1) (by decide)
  unfold fX3_take__i_masked pX3_take_72_S2
  rw [e]
  have := fld_lt u 25 1
  by_cases q : fld u 25 1 = 0
  · rw [q]; decide
  · rw [if_neg q, if_neg (nI_ne0 (by omega) (by omega))]
/-! ===== vset: LengthUnit and sets ===== -/
/-- what is asked for: in the class, in the reference -/
def Ask (a b : Int64) : Prop := (∃ n, n < 2 ^ 32 ∧ a = lN n ∧ b = lN n) ∨ (a = lN (2 ^ 32) ∧ b = (2305843009213693951 : Int64))
theorem granted_eq {a b : Int64} (h : Ask a b) {C M : Nat} (hC : C < 2 ^ 64) (hM : M ≤ 128) : ∃ L, L ≤ M ∧ fX5_granted (lN C) a (nI M) = nI L ∧ (if Int32.toInt64 (nI M) < b then (if b < (2 : Int64) * Int32.toInt64 (nI M) then Int64.toInt32 (((b + 1) / 2) + fJ13_remainderUnsigned_f86c9 (lN C) ((Int32.toInt64 (nI M) - ((b + 1) / 2)) + 1)) else nI M) else Int64.toInt32 b) = nI L ∧ okX5_granted a (nI M) ∧ ((Int32.toInt64 (nI M) < b) → (b < (2 : Int64) * Int32.toInt64 (nI M)) → okJ13_remainderUnsigned_f86c9 ((Int32.toInt64 (nI M) - ((b + 1) / 2)) + 1)) := by
  have e2 : (2 : Int64) * lN M = lN (2 * M) := by rw [ltwo, lN_mul]
  unfold fX5_granted okX5_granted
  rw [nI_l (by omega), e2]
  rcases h with ⟨n, hn, rfl, rfl⟩ | ⟨rfl, rfl⟩
  · by_cases q1 : M < n
    · have q1' : lN M < lN n := (pk_lLT (by omega) (by omega)).mpr q1
      rw [if_pos q1', if_pos q1']
      by_cases q2 : n < 2 * M
      · have q2' : lN n < lN (2 * M) := (pk_lLT (by omega) (by omega)).mpr q2
        have e3 : (lN n + 1) / 2 = lN ((n + 1) / 2) := by rw [lone, ltwo, lN_add, pk_lDiv (by omega) (by decide) (by decide)]
        have hk : (n + 1) / 2 ≤ M := by omega
        have e4 : nI M - nI ((n + 1) / 2) + 1 = nI (M - (n + 1) / 2 + 1) := by
          rw [show (1 : Int32) = nI 1 by decide, pk_sub hk, nI_add]
        have e5 : lN M - lN ((n + 1) / 2) + 1 = lN (M - (n + 1) / 2 + 1) := by rw [lone, lN_sub hk, lN_add]
        rw [if_pos q2', if_pos q2', e3, lN_i, e4, e5, rem_ref hC (by omega) (by omega), lN_add, lN_i]
        have hmod : C % (M - (n + 1) / 2 + 1) < M - (n + 1) / 2 + 1 := Nat.mod_lt _ (by omega)
        refine ⟨(n + 1) / 2 + C % (M - (n + 1) / 2 + 1), by omega, ?_, rfl, fun _ _ _ => ?_, fun _ _ _ => ?_⟩
        · unfold fX5_choicesModulo
          rw [if_pos (show (1 : Int32) ≤ nI (M - (n + 1) / 2 + 1) from nI_le (a := 1) (by omega) (by omega)), nI_l (by omega), rem_cls hC (by omega) (by omega), lN_i, nI_add]
        · rw [nI_l (by omega), lzero]
          exact fun w => absurd ((pk_lEQ (by omega) (by omega)).mp w) (by omega)
        · rw [lzero]
          exact fun w => absurd ((pk_lEQ (by omega) (by omega)).mp w) (by omega)
      · have q2' : ¬ lN n < lN (2 * M) := fun w => q2 ((pk_lLT (by omega) (by omega)).mp w)
        rw [if_neg q2', if_neg q2']
        exact ⟨M, Nat.le_refl _, rfl, rfl, fun _ w => absurd w q2', fun _ w => absurd w q2'⟩
    · have q1' : ¬ lN M < lN n := fun w => q1 ((pk_lLT (by omega) (by omega)).mp w)
      rw [if_neg q1', if_neg q1', lN_i]
      exact ⟨n, by omega, rfl, rfl, fun w => absurd w q1', fun w => absurd w q1'⟩
  · have h1 : lN M < lN (2 ^ 32) := (pk_lLT (by omega) (by omega)).mpr (by omega)
    have h2 : ¬ lN (2 ^ 32) < lN (2 * M) := fun w => absurd ((pk_lLT (by omega) (by omega)).mp w) (by omega)
    have e : (2305843009213693951 : Int64) = lN 2305843009213693951 := by decide
    rw [e]
    have h3 : lN M < lN 2305843009213693951 := (pk_lLT (by omega) (by omega)).mpr (by omega)
    have h4 : ¬ lN 2305843009213693951 < lN (2 * M) := fun w => absurd ((pk_lLT (by omega) (by omega)).mp w) (by omega)
    rw [if_pos h1, if_neg h2, if_pos h3, if_neg h4]
    exact ⟨M, Nat.le_refl _, rfl, rfl, fun _ w => absurd w h2, fun _ w => absurd w h4⟩
/-- the new VTYPE and VL -/
theorem grant_eq {vt tb ts te tm tt tk : Int32} (hT : TI vt tb ts te tm tt tk) {C L : Nat} (hC : C < 2 ^ 64) (hL : VLok vt L) (told : Int32) {a b : Int64} {ke : Int32} (hk : (a = -1 ∧ ¬ ke = 0) ∨ (¬ a = -1 ∧ ke = 0 ∧ Ask a b)) {nv : Int32} (hnv : nv = if ke = 0 then fX11_typed told else (if vt < 0 then (-2147483648) else (if fX11_typed told < 0 then (-2147483648) else (if fX11_most vt = fX11_most (fX11_typed told) then fX11_typed told else (-2147483648))))) :
    TI nv (fX5_grant__t_bits tm told a) (fX5_grant__t_sew tm told a) (fX5_grant__t_eighths tm told a) (fX5_grant__t_most tm told a) (fX5_grant__t_tailOpen tm told a) (fX5_grant__t_maskedOpen tm told a) ∧
    (∃ L2, VLok nv L2 ∧ fX5_grant__r_length (nI L) (lN C) tm told a = nI L2 ∧ (if 0 ≤ nv then (if ke = 0 then (if Int32.toInt64 (fX11_most nv) < b then (if b < (2 : Int64) * Int32.toInt64 (fX11_most nv) then Int64.toInt32 (((b + 1) / 2) + fJ13_remainderUnsigned_f86c9 (lN C) ((Int32.toInt64 (fX11_most nv) - ((b + 1) / 2)) + 1)) else fX11_most nv) else Int64.toInt32 b) else nI L) else 0) = nI L2) ∧
    ((fX9_isIll (pX5_grant_56_t_bits tm told a) = 0) → ¬ (a = -1) → okX5_granted a (pX5_grant_56_t_most tm told a)) ∧
    ((0 ≤ nv) → (ke = 0) → (Int32.toInt64 (fX11_most nv) < b) → (b < (2 : Int64) * Int32.toInt64 (fX11_most nv)) → okJ13_remainderUnsigned_f86c9 ((Int32.toInt64 (fX11_most nv) - ((b + 1) / 2)) + 1)) := by
  have hB := TI.become told
  have hTm := hT.most
  have hBm := hB.most
  -- the type
  have key : TI nv (pX5_grant_56_t_bits tm told a) (pX5_grant_56_t_sew tm told a) (pX5_grant_56_t_eighths tm told a) (pX5_grant_56_t_most tm told a) (pX5_grant_56_t_tailOpen tm told a) (pX5_grant_56_t_maskedOpen tm told a) ∧ (¬ ke = 0 → 0 ≤ nv → fX11_most nv = fX11_most vt) := by
    unfold pX5_grant_56_t_bits pX5_grant_56_t_sew pX5_grant_56_t_eighths pX5_grant_56_t_most pX5_grant_56_t_tailOpen pX5_grant_56_t_maskedOpen
    rcases hk with ⟨rfl, k1⟩ | ⟨k0, k1, _⟩
    · rw [if_neg k1] at hnv
      simp only [if_true]
      have hc : (fX9_become__t_most told = tm) ↔ fX11_most (fX11_typed told) = fX11_most vt := by rw [hBm, hTm]
      simp only [hc]
      by_cases q1 : vt < 0
      · rw [if_pos q1] at hnv
        rw [hnv]
        refine ⟨?_, fun _ w => absurd w (by decide)⟩
        have hv := hT.none q1
        have hm0 : fX11_most vt = 0 := by rw [hv]; decide
        rw [hm0]
        rcases hB.2 with ⟨h1, h2⟩ | ⟨v, hv, hl, h1, _⟩
        · have hm1 : fX11_most (fX11_typed told) = 0 := by rw [h1]; decide
          simp only [hm1, if_true]
          have := hB
          rw [h1] at this; exact this
        · have hm1 : ¬ fX11_most (fX11_typed told) = 0 := by
            rw [h1, (ty_ref v hv hl).2.2.1]
            obtain ⟨_, _, _, n1, n2, _⟩ := ty_nums v hv hl
            exact nI_ne0 (by omega) (by omega)
          simp only [hm1, if_false]
          exact TI.ill
      · rw [if_neg q1] at hnv
        by_cases q2 : fX11_typed told < 0
        · rw [if_pos q2] at hnv
          rw [hnv]
          refine ⟨?_, fun _ w => absurd w (by decide)⟩
          have h1 := hB.none q2
          split
          · have := hB
            rw [h1] at this; exact this
          · exact TI.ill
        · rw [if_neg q2] at hnv
          by_cases q3 : fX11_most vt = fX11_most (fX11_typed told)
          · rw [if_pos q3] at hnv
            rw [hnv]
            simp only [q3, if_true]
            exact ⟨hB, fun _ _ => trivial⟩
          · rw [if_neg q3] at hnv
            rw [hnv]
            have q4 : ¬ fX11_most (fX11_typed told) = fX11_most vt := fun w => q3 w.symm
            simp only [q4, if_false]
            exact ⟨TI.ill, fun _ w => absurd w (by decide)⟩
    · rw [if_pos k1] at hnv
      rw [hnv]
      simp only [if_neg k0]
      exact ⟨hB, fun w => absurd k1 w⟩
  obtain ⟨key, key2⟩ := key
  have kn := key.neg
  have km := key.most
  refine ⟨key, ?_⟩
  unfold fX5_grant__r_length pX5_grant_110_r_length
  rw [km]
  by_cases q : nv < 0
  · have q1 := kn.mp q
    have q2 : ¬ (0 : Int32) ≤ nv := Int32.not_le.mpr q
    rw [if_neg q1, if_neg q2]
    exact ⟨⟨0, ⟨0, by rw [key.none q]; decide, by decide, Nat.le_refl 0⟩, nI_0.symm, nI_0.symm⟩, fun w => absurd w q1, fun w => absurd w q2⟩
  · have q1 : fX9_isIll (pX5_grant_56_t_bits tm told a) = 0 := Classical.byContradiction (fun w => q (kn.mpr w))
    have q2 : (0 : Int32) ≤ nv := Int32.not_lt.mp q
    obtain ⟨M, hM1, hM2⟩ : ∃ M, fX11_most nv = nI M ∧ M ≤ 128 := by
      rcases key.kind with h | ⟨v, hv, hl, h⟩
      · exact absurd (show nv < 0 by rw [h]; decide) q
      · obtain ⟨_, _, _, _, n2, _⟩ := ty_nums v hv hl
        exact ⟨tyM v, by rw [h]; exact (ty_ref v hv hl).2.2.1, n2⟩
    rw [if_pos q1, if_pos q2, hM1]
    rcases hk with ⟨rfl, k1⟩ | ⟨k0, k1, k2⟩
    · rw [if_pos rfl, if_neg k1]
      have hm := key2 k1 q2
      obtain ⟨M', m1, m2, m3⟩ := hL
      exact ⟨⟨L, ⟨M', by rw [hm]; exact m1, m2, m3⟩, rfl, rfl⟩, fun _ w => absurd rfl w, fun _ w => absurd w k1⟩
    · rw [if_neg k0, if_pos k1]
      obtain ⟨L2, g1, g2, g3, g4, g5⟩ := granted_eq k2 hC hM2
      exact ⟨⟨L2, ⟨M, hM1, hM2, g1⟩, g2, g3⟩, fun _ _ => g4, fun _ _ => g5⟩
