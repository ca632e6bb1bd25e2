/-! ===== one element read and written: of the class (Group.element, Group.put), of the reference (get, put) ===== -/
theorem nI128 : (128 : Int32) = nI 128 := by decide
theorem nI16 : (16 : Int32) = nI 16 := by decide
theorem nI8 : (8 : Int32) = nI 8 := by decide
theorem nI5 : (5 : Int32) = nI 5 := by decide
theorem pos_e (f e i : Nat) : nI f * 128 + nI i * nI e = nI (f * 128 + i * e) := by rw [nI128, pk_mul, pk_mul, nI_add]
theorem pos_at {B : Nat} (h : B < 2 ^ 31) : shr (nI B) 5 = nI (B / 32) := by
  unfold shr; exact pk_shrN h _ 5 (by decide)
theorem pos_in {B : Nat} (h : B < 2 ^ 32) : nI B &&& 31 = nI (B % 32) := pk_andN h 5 (by decide)
def okE (e : Nat) : Prop := e = 1 ∨ e = 8 ∨ e = 16 ∨ e = 32
theorem l_onesE {e : Nat} (he : okE e) {i : Nat} (hi : i < 64) : lb (fX10_ones (nI e)) i = decide (i < e) := by
  rcases he with rfl | rfl | rfl | rfl
  · exact l_ones1 i hi
  · exact l_ones8 i hi
  · exact l_ones16 i hi
  · exact l_ones32 i hi
theorem el_in {f e i j : Nat} (he : okE e) (hj : j < e) : (f * 128 + i * e) % 32 + j < 32 := by
  rcases he with rfl | rfl | rfl | rfl <;> omega
theorem el_lb (xV : Nat → Int32) {f e i j : Nat} (he : okE e) (hB : f * 128 + i * e < 4096) (hj : j < 64) : lb (fX2_element (nI f) (nI e) (fX10_ones (nI e)) xV (nI i)) j = (decide (j < e) && vb xV (f * 128 + i * e + j)) := by
  have hin := fun h => el_in (f := f) (i := i) he (j := j) h
  unfold fX2_element
  rw [pos_e]
  generalize hBe : f * 128 + i * e = B at *
  rw [pos_at (by omega), pos_in (by omega), if_neg (nI_pos (by omega)), if_pos (by rw [nI128]; exact nI_lt (by omega) (by decide)), nI_clamp (by omega), l_and, l_onesE he hj, l_i2l _ hj]
  by_cases h : j < e
  · have h2 := hin h
    have h32 : j < 32 := by omega
    rw [if_pos h32, b_sruF _ (by omega)]
    unfold vb
    rw [show (B + j) / 32 = B / 32 by omega, show (B + j) % 32 = B % 32 + j by omega]
    simp [h]
  · simp [h]
theorem put_vb (xV : Nat → Int32) {f e i : Nat} (he : okE e) (hB : f * 128 + i * e < 4096) (x : Int64) (n : Nat) : vb (fX2_put__xV (nI f) (nI e) (fX10_ones (nI e)) xV (nI i) x) n = vset (vb xV) (f * 128 + i * e) e x n := by
  have hin := fun j h => el_in (f := f) (i := i) he (j := j) h
  unfold fX2_put__xV eX2_put_90 eX2_put_48 eX2_put_58
  rw [pos_e]
  generalize hBe : f * 128 + i * e = B at *
  rw [pos_at (by omega), pos_in (by omega), if_neg (nI_pos (by omega)), if_pos (by rw [nI128]; exact nI_lt (by omega) (by decide)), nI_clamp (by omega)]
  unfold vset
  have hk : n % 32 < 32 := Nat.mod_lt _ (by decide)
  have he32 : e ≤ 32 := by rcases he with rfl | rfl | rfl | rfl <;> decide
  by_cases hw : n / 32 = B / 32
  · have e1 : vb (upd xV (B / 32) ((xV (B / 32) &&& (shl (Int64.toInt32 (fX10_ones (nI e))) (nI (B % 32)) ^^^ (-1 : Int32))) ||| (shl (Int64.toInt32 x) (nI (B % 32)) &&& shl (Int64.toInt32 (fX10_ones (nI e))) (nI (B % 32))))) n = bt ((xV (B / 32) &&& (shl (Int64.toInt32 (fX10_ones (nI e))) (nI (B % 32)) ^^^ (-1 : Int32))) ||| (shl (Int64.toInt32 x) (nI (B % 32)) &&& shl (Int64.toInt32 (fX10_ones (nI e))) (nI (B % 32)))) (n % 32) := by
      unfold vb; rw [hw, pk_us]
    rw [e1, b_or, b_and, b_xor, b_and, b_shlF _ (by omega) _ hk, b_shlF _ (by omega) _ hk, b_m1 _ hk, b_l2i _ (by omega), b_l2i _ (by omega), l_onesE he (by omega)]
    by_cases h : B ≤ n ∧ n < B + e
    · rw [if_pos h]
      have h1 : B % 32 ≤ n % 32 := by omega
      have h2 : n % 32 - B % 32 < e := by omega
      have h3 : n % 32 - B % 32 = n - B := by omega
      rw [h3] at h2 ⊢
      simp [h1, h2]
    · rw [if_neg h]
      by_cases h1 : B % 32 ≤ n % 32
      · have h2 : ¬ n % 32 - B % 32 < e := by omega
        simp [h1, h2, vb, hw]
      · simp [h1, vb, hw]
  · rw [if_neg (by
      intro h
      have := hin (n - B) (by omega)
      omega)]
    unfold vb; rw [pk_un hw]
/-- the reference's get, by its bits -/
theorem get_loop (zO : Nat → Int32) (hz : zB zO) {r e i F : Nat} (hF : (16 : Int32) * nI r + nI i * nI e / 8 = nI F) (hF2 : F + 8 < 2 ^ 30) : ∀ (n : Nat) (a : Int64) (j : Nat), n ≤ 8 → j < 64 → lb (LX11_get_24 zO (nI r) (nI e) (nI i) n (a, nI n - 1)).1 j = if j < 8 * n then zb zO (8 * F + j) else lb a (j - 8 * n)
  | 0, a, j, _, _ => by simp [LX11_get_24]
  | n + 1, a, j, hn, hj => by
    rw [LX11_get_24]
    dsimp only
    unfold bX11_get_24_L4 bX11_get_24_L7
    rw [nI_pred, if_neg (nI_pos (by omega)), if_neg (nI_pos (by omega)), ← Int32.sub_eq_add_neg, get_loop zO hz hF hF2 n _ j (by omega) hj]
    by_cases h : j < 8 * n
    · rw [if_pos h, if_pos (by omega)]
    · rw [if_neg h]
      unfold eX11_get_46
      rw [hF, nI_add, nI_clamp (by omega), nI8, l_or, l_shl 8 (by decide) _ (by omega), l_i2l _ (by omega)]
      by_cases h2 : j < 8 * (n + 1)
      · rw [if_pos h2, if_pos (by omega)]
        unfold zb
        rw [show (8 * F + j) / 8 = F + n by omega, show (8 * F + j) % 8 = j - 8 * n by omega]
        simp [show ¬ 8 ≤ j - 8 * n by omega]
      · rw [if_neg h2]
        have e1 : (if j - 8 * n < 32 then bt (zO (F + n)) (j - 8 * n) else bt (zO (F + n)) 31) = false := by
          split
          · exact hz _ _ (by omega)
          · exact hz _ _ (by omega)
        rw [e1]
        simp [show 8 ≤ j - 8 * n by omega, show j - 8 * n - 8 = j - 8 * (n + 1) by omega]
def okB (e : Nat) : Prop := e = 8 ∨ e = 16 ∨ e = 32
theorem okB.E {e : Nat} (h : okB e) : okE e := Or.inr h
theorem get_from {r e i : Nat} (he : okB e) (hr : r < 64) (hi : i < 4096) : (16 : Int32) * nI r + nI i * nI e / 8 = nI (16 * r + i * e / 8) := by
  rw [nI16, nI8, pk_mul, pk_mul, pk_div (by rcases he with rfl | rfl | rfl <;> omega) (by decide) (by decide), nI_add]
theorem get_lb (zO : Nat → Int32) (hz : zB zO) {r e i j : Nat} (he : okB e) (hr : r < 64) (hi : i < 4096) (hj : j < 64) : lb (fX11_get zO (nI r) (nI e) (nI i)) j = (decide (j < e) && zb zO (r * 128 + i * e + j)) := by
  unfold fX11_get
  have hF := get_from he hr hi
  have key : ∀ n, (Int32.toInt ((nI e / (8 : Int32)) - (1 : Int32)) + 1).toNat = n → (nI e / (8 : Int32)) - (1 : Int32) = nI n - 1 → n ≤ 8 → 8 * n = e → lb (LX11_get_24 zO (nI r) (nI e) (nI i) ((Int32.toInt ((nI e / (8 : Int32)) - (1 : Int32)) + 1).toNat) ((0 : Int64), ((nI e / (8 : Int32)) - (1 : Int32)))).1 j = (decide (j < e) && zb zO (r * 128 + i * e + j)) := by
    intro n h1 h2 h3 h4
    rw [h1, h2, get_loop zO hz hF (by rcases he with rfl | rfl | rfl <;> omega) n 0 j h3 hj, h4]
    by_cases h : j < e
    · rw [if_pos h, show 8 * (16 * r + i * e / 8) + j = r * 128 + i * e + j by rcases he with rfl | rfl | rfl <;> omega]
      simp [h]
    · rw [if_neg h, l_0]; simp [h]
  rcases he with rfl | rfl | rfl
  · exact key 1 (by decide) (by decide) (by decide) rfl
  · exact key 2 (by decide) (by decide) (by decide) rfl
  · exact key 4 (by decide) (by decide) (by decide) rfl
