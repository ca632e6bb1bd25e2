/-! ===== VTYPE: finitely many ===== -/
def tyS (v : Nat) : Nat := 8 * 2 ^ (v / 8 % 8)
def tyE (v : Nat) : Nat := if v % 8 < 4 then 8 * 2 ^ (v % 8) else if v % 8 = 7 then 4 else if v % 8 = 6 then 2 else 0
def tyM (v : Nat) : Nat := 16 * tyE v / tyS v
def legalT (v : Nat) : Bool := decide (tyS v ≤ 32) && decide (0 < tyE v) && decide (tyS v ≤ 4 * tyE v)
theorem ty_nums : ∀ v, v < 256 → legalT v = true → (tyS v = 8 ∨ tyS v = 16 ∨ tyS v = 32) ∧ tyM v * tyS v = 16 * tyE v ∧ (tyE v = 2 ∨ tyE v = 4 ∨ tyE v = 8 ∨ tyE v = 16 ∨ tyE v = 32 ∨ tyE v = 64) ∧ 1 ≤ tyM v ∧ tyM v ≤ 128 ∧ tyS v ≤ 4 * tyE v := by decide +kernel
theorem ty_ref : ∀ v, v < 256 → legalT v = true → fX11_width (nI v) = nI (tyS v) ∧ fX11_eighths (nI v) = nI (tyE v) ∧ fX11_most (nI v) = nI (tyM v) ∧ fX11_typed (nI v) = nI v := by decide +kernel
theorem ty_cls : ∀ v, v < 256 → legalT v = true → fX9_become__t_bits (nI v) = nI v ∧ fX9_become__t_sew (nI v) = nI (tyS v) ∧ fX9_become__t_eighths (nI v) = nI (tyE v) ∧ fX9_become__t_most (nI v) = nI (tyM v) ∧ fX9_become__t_tailOpen (nI v) = fX11_isTailOpen (nI v) ∧ fX9_become__t_maskedOpen (nI v) = fX11_isMaskOpen (nI v) := by decide +kernel
theorem ty_ill : ∀ v, v < 256 → legalT v = false → fX11_typed (nI v) = (-2147483648) ∧ fX9_become__t_bits (nI v) = (-2147483648) ∧ fX9_become__t_sew (nI v) = 0 ∧ fX9_become__t_eighths (nI v) = 0 ∧ fX9_become__t_most (nI v) = 0 ∧ fX9_become__t_tailOpen (nI v) = 0 ∧ fX9_become__t_maskedOpen (nI v) = 0 := by decide +kernel
theorem and256 : ∀ v, v < 256 → nI v &&& (-256 : Int32) = 0 := by decide +kernel
theorem b_m256 : ∀ j, j < 32 → bt (-256) j = decide (8 ≤ j) := by decide +kernel
theorem sru8_0 {u : Int32} (h : sru u 8 = 0) : ∃ v, v < 256 ∧ u = nI v := by
  have hb : ∀ j, 8 ≤ j → bt u j = false := by
    intro j hj
    have := congrArg (fun y => bt y (j - 8)) h
    simp only [show (8 : Int32) = nI 8 from nI8, b_sruF 8 (by decide), b_0] at this
    rw [show 8 + (j - 8) = j by omega] at this
    exact this
  refine ⟨u.toBitVec.toNat % 256, Nat.mod_lt _ (by decide), b_ext (fun j hj => ?_)⟩
  have e : bt (nI (u.toBitVec.toNat % 256)) j = (u.toBitVec.toNat % 256).testBit j := by
    unfold bt
    show (BitVec.ofNat 32 (u.toBitVec.toNat % 256)).getLsbD j = _
    rw [BitVec.getLsbD_ofNat]; simp [hj]
  rw [e, show (256 : Nat) = 2 ^ 8 by decide, Nat.testBit_mod_two_pow]
  by_cases q : j < 8
  · simp [q]; rfl
  · rw [hb j (by omega)]; simp [q]
theorem and_sru {u : Int32} (h : u &&& (-256 : Int32) = 0) : sru u 8 = 0 := by
  refine b_ext (fun j hj => ?_)
  rw [nI8, b_sruF 8 (by decide), b_0]
  rcases Nat.lt_or_ge (8 + j) 32 with q | q
  · have := congrArg (fun y => bt y (8 + j)) h
    simp only [b_and, b_m256 _ q, b_0] at this
    simpa using this
  · exact b_big q
/-- VTYPE of the reference, and the class's fields -/
def TI (vt tb ts te tm tt tk : Int32) : Prop := tb = vt ∧ ((vt = (-2147483648) ∧ ts = 0 ∧ te = 0 ∧ tm = 0 ∧ tt = 0 ∧ tk = 0) ∨ ∃ v, v < 256 ∧ legalT v = true ∧ vt = nI v ∧ ts = nI (tyS v) ∧ te = nI (tyE v) ∧ tm = nI (tyM v) ∧ tt = fX11_isTailOpen vt ∧ tk = fX11_isMaskOpen vt)
theorem TI.ill : TI (-2147483648) fX9_becomeIll__t_bits fX9_becomeIll__t_sew fX9_becomeIll__t_eighths fX9_becomeIll__t_most fX9_becomeIll__t_tailOpen fX9_becomeIll__t_maskedOpen := ⟨rfl, Or.inl ⟨rfl, rfl, rfl, rfl, rfl, rfl⟩⟩
theorem TI.become (u : Int32) : TI (fX11_typed u) (fX9_become__t_bits u) (fX9_become__t_sew u) (fX9_become__t_eighths u) (fX9_become__t_most u) (fX9_become__t_tailOpen u) (fX9_become__t_maskedOpen u) := by
  by_cases h : sru u 8 = 0
  · obtain ⟨v, hv, rfl⟩ := sru8_0 h
    cases hl : legalT v
    · obtain ⟨a1, a2, a3, a4, a5, a6, a7⟩ := ty_ill v hv hl
      rw [a1, a2]
      exact ⟨rfl, Or.inl ⟨rfl, a3, a4, a5, a6, a7⟩⟩
    · obtain ⟨a1, a2, a3, a4, a5, a6⟩ := ty_cls v hv hl
      obtain ⟨b1, b2, b3, b4⟩ := ty_ref v hv hl
      rw [b4, a1]
      exact ⟨rfl, Or.inr ⟨v, hv, hl, rfl, a2, a3, a4, a5, a6⟩⟩
  · have e1 : fX11_typed u = (-2147483648) := by
      unfold fX11_typed pX11_typed_55_S1 pX11_typed_44_S1
      rw [if_neg (fun w => h (and_sru w)), if_pos rfl]
    unfold fX9_become__t_bits fX9_become__t_sew fX9_become__t_eighths fX9_become__t_most fX9_become__t_tailOpen fX9_become__t_maskedOpen
    rw [e1, if_neg h, if_neg h, if_neg h, if_neg h, if_neg h, if_neg h]
    exact TI.ill
theorem TI.most {vt tb ts te tm tt tk : Int32} (h : TI vt tb ts te tm tt tk) : tm = fX11_most vt := by
  rcases h.2 with ⟨rfl, _, _, rfl, _⟩ | ⟨v, hv, hl, rfl, _, _, rfl, _⟩
  · decide
  · exact (ty_ref v hv hl).2.2.1.symm
theorem TI.neg {vt tb ts te tm tt tk : Int32} (h : TI vt tb ts te tm tt tk) : vt < 0 ↔ ¬ fX9_isIll tb = 0 := by
  have e := h.1
  rcases h.2 with ⟨rfl, _⟩ | ⟨v, hv, hl, rfl, _⟩
  · rw [e]; decide
  · rw [e]
    refine ⟨fun w => absurd w (nI_pos (by omega)), fun w => ?_⟩
    refine absurd ?_ w
    unfold fX9_isIll pX9_isIll_14_S1
    refine if_neg (fun q => ?_)
    exact absurd (show nI v < 0 by rw [q]; decide) (nI_pos (by omega))
theorem TI.none {vt tb ts te tm tt tk : Int32} (h : TI vt tb ts te tm tt tk) (hn : vt < 0) : vt = (-2147483648) := by
  rcases h.2 with ⟨h, _⟩ | ⟨v, hv, hl, rfl, _⟩
  · exact h
  · exact absurd hn (nI_pos (by omega))
/-- VL stays within VLMAX -/
def VLok (vt : Int32) (L : Nat) : Prop := ∃ M, fX11_most vt = nI M ∧ M ≤ 128 ∧ L ≤ M
theorem ok_become (u : Int32) : okX9_become u := by
  intro h _ _ _
  obtain ⟨v, hv, rfl⟩ := sru8_0 h
  exact (by decide +kernel : ∀ v, v < 256 → ¬ shl 8 (sru (nI v) 3 &&& 7) = 0) v hv
theorem ok_most {vt : Int32} (h : vt = (-2147483648) ∨ ∃ v, v < 256 ∧ legalT v = true ∧ vt = nI v) : okX11_most vt := by
  rcases h with rfl | ⟨v, hv, hl, rfl⟩
  · intro h; exact absurd h (by decide)
  · intro _
    obtain ⟨h1, _⟩ := ty_ref v hv hl
    obtain ⟨h2, _⟩ := ty_nums v hv hl
    rw [h1]; exact nI_ne0 (by omega) (by omega)
theorem TI.kind {vt tb ts te tm tt tk : Int32} (h : TI vt tb ts te tm tt tk) : vt = (-2147483648) ∨ ∃ v, v < 256 ∧ legalT v = true ∧ vt = nI v := by
  rcases h.2 with ⟨h, _⟩ | ⟨v, hv, hl, h, _⟩
  · exact Or.inl h
  · exact Or.inr ⟨v, hv, hl, h⟩
/-! ===== remainders without sign ===== -/
theorem lN_wrap (n : Nat) : lN (2 ^ 64 + n) = lN n := by
  refine l_ext (fun j hj => ?_)
  rw [lb_lN _ hj, lb_lN _ hj, Nat.testBit_two_pow_add_gt hj]
theorem lsru1 (C : Nat) (hC : C < 2 ^ 64) : lsru (lN C) 1 = lN (C / 2) := by
  refine l_ext (fun j hj => ?_)
  rw [show (1 : Int32) = nI 1 by decide, l_ushr 1 (by decide), lb_lN _ hj, show C / 2 = C / 2 ^ 1 by omega, Nat.testBit_div_two_pow]
  rcases Nat.lt_or_ge (1 + j) 64 with q | q
  · rw [lb_lN _ q, Nat.add_comm]
  · rw [l_big q, Nat.testBit_lt_two_pow]
    exact Nat.lt_of_lt_of_le hC (Nat.pow_le_pow_right (by decide) (by omega))
theorem lshl1' (q : Nat) : lshl (lN q) 1 = lN (2 * q) := by
  refine l_ext (fun j hj => ?_)
  rw [show (1 : Int32) = nI 1 by decide, l_shl 1 (by decide) _ hj, lb_lN _ hj]
  cases j with
  | zero => rw [Nat.testBit_zero]; simp
  | succ j => rw [Nat.testBit_succ, show 2 * q / 2 = q by omega, lb_lN _ (by omega)]; simp
theorem land1 (C : Nat) : lN C &&& 1 = lN (C % 2) := by
  have := lmask C (k := 1) (by decide)
  rw [show (1 : Int64) = lN (2 ^ 1 - 1) by decide]; exact this
theorem rem_cls {C k : Nat} (hC : C < 2 ^ 64) (hk : 0 < k) (hk2 : k < 2 ^ 31) : lrem (((2 : Int64) * lrem (lsru (lN C) 1) (lN k)) + (lN C &&& 1)) (lN k) = lN (C % k) := by
  unfold lrem
  have hm : C / 2 % k < k := Nat.mod_lt _ hk
  rw [lsru1 C hC, pk_lRem (by omega) hk (by omega), land1, ltwo, lN_mul, lN_add, pk_lRem (by omega) hk (by omega)]
  congr 1
  have : C = 2 * (C / 2) + C % 2 := by omega
  conv => rhs; rw [this, Nat.add_mod, Nat.mul_mod]
  rw [Nat.add_mod, Nat.mul_mod]
  simp
theorem rem_ref {C k : Nat} (hC : C < 2 ^ 64) (hk : 0 < k) (hk2 : k < 2 ^ 31) : fJ13_remainderUnsigned_f86c9 (lN C) (lN k) = lN (C % k) := by
  unfold fJ13_remainderUnsigned_f86c9
  rw [lzero, if_neg (fun w => absurd ((pk_lLT (by omega) (by omega)).mp w) (by omega))]
  have hdm : k * (C / 2 / k) + C / 2 % k = C / 2 := Nat.div_add_mod _ _
  have hm : C / 2 % k < k := Nat.mod_lt _ hk
  have e1 : 2 * (C / 2 / k) * k = 2 * (k * (C / 2 / k)) := by rw [Nat.mul_assoc, Nat.mul_comm (C / 2 / k) k]
  rw [lsru1 C hC, pk_lDiv (by omega) hk (by omega), lshl1', lN_mul, lN_sub (by omega), e1]
  have hr : C - 2 * (k * (C / 2 / k)) = 2 * (C / 2 % k) + C % 2 := by omega
  rw [hr]
  have hCk : C % k = (2 * (C / 2 % k) + C % 2) % k := by
    have : C = 2 * (C / 2) + C % 2 := by omega
    conv => lhs; rw [this, Nat.add_mod, Nat.mul_mod]
    rw [Nat.add_mod (2 * (C / 2 % k)), Nat.mul_mod 2 (C / 2 % k)]
    simp
  rw [hCk]
  generalize 2 * (C / 2 % k) + C % 2 = r at *
  have hr2 : r < 2 * k := by omega
  have sg : ∀ (y : Int64) (b : Bool), lb y 63 = b → (lshr (y ^^^ (-1 : Int64)) 63 &&& lN k) = if b = true then lN 0 else lN k := by
    intro y b hb
    have h63 : (63 : Int32) = nI 63 := by decide
    refine l_ext (fun j hj => ?_)
    rw [l_and, h63, l_sshr 63 (by decide) _ hj]
    have hx : (if 63 + j < 64 then lb (y ^^^ (-1 : Int64)) (63 + j) else lb (y ^^^ (-1 : Int64)) 63) = !b := by
      split
      · have : j = 0 := by omega
        subst this
        rw [Nat.add_zero, l_xor, hb, l_m1 63 (by decide)]; cases b <;> rfl
      · rw [l_xor, hb, l_m1 63 (by decide)]; cases b <;> rfl
    rw [hx]
    cases b
    · simp
    · simp [← lzero, l_0]
  rcases Nat.lt_or_ge r k with q | q
  · have ey : lN r - lN k = lN (2 ^ 64 + r - k) := by
      rw [← lN_wrap r, lN_sub (by omega)]
    have hb : lb (lN r - lN k) 63 = true := by
      rw [ey, lb_lN _ (by decide), Nat.testBit_eq_decide_div_mod_eq]
      have : (2 ^ 64 + r - k) / 2 ^ 63 = 1 := by omega
      rw [this]; decide
    rw [sg _ _ hb, if_pos rfl, Nat.mod_eq_of_lt q, lN_sub (Nat.zero_le _)]; rfl
  · have hb : lb (lN r - lN k) 63 = false := by
      rw [lN_sub q, lb_lN _ (by decide), Nat.testBit_eq_decide_div_mod_eq]
      have : (r - k) / 2 ^ 63 = 0 := by omega
      rw [this]; decide
    rw [sg _ _ hb, if_neg (by decide), lN_sub q, Nat.mod_eq_sub_mod q, Nat.mod_eq_of_lt (by omega)]
