/-! ===== rounding: the class's and the reference's are one function ===== -/
theorem lb_lN (m : Nat) {j : Nat} (hj : j < 64) : lb (lN m) j = m.testBit j := by
  unfold lb lN
  show (BitVec.ofNat 64 m).getLsbD j = _
  rw [BitVec.getLsbD_ofNat]; simp [hj]
theorem lN_of (x : Int64) : ∃ n, n < 2 ^ 64 ∧ x = lN n := ⟨x.toBitVec.toNat, x.toBitVec.isLt, by
  apply Int64.toBitVec_inj.mp
  show x.toBitVec = BitVec.ofNat 64 _
  simp⟩
theorem lone : (1 : Int64) = lN 1 := by decide
theorem lzero : (0 : Int64) = lN 0 := by decide
theorem ltwo : (2 : Int64) = lN 2 := by decide
theorem lb_1 {j : Nat} (hj : j < 64) : lb (1 : Int64) j = decide (j = 0) := (by decide +kernel : ∀ j, j < 64 → lb (1 : Int64) j = decide (j = 0)) j hj
theorem lshl1 {m : Nat} (hm : m < 64) : lshl (1 : Int64) (nI m) = lN (2 ^ m) := by
  refine l_ext (fun j hj => ?_)
  rw [l_shl m hm _ hj, lb_lN _ hj, Nat.testBit_two_pow]
  by_cases h : m ≤ j
  · rw [lb_1 (by omega)]
    by_cases e : m = j
    · simp [e]
    · simp [h, e]; omega
  · simp [h]; omega
theorem lmask (N : Nat) {k : Nat} (hk : k < 64) : lN N &&& lN (2 ^ k - 1) = lN (N % 2 ^ k) := by
  refine l_ext (fun j hj => ?_)
  rw [l_and, lb_lN _ hj, lb_lN _ hj, lb_lN _ hj, Nat.testBit_two_pow_sub_one, Nat.testBit_mod_two_pow, Bool.and_comm]
theorem lhalf {m : Nat} (hm : m + 1 < 63) : ((2 : Int64) * lN (2 ^ m)) - (1 : Int64) = lN (2 ^ (m + 1) - 1) := by
  have hp : 0 < 2 ^ m := Nat.two_pow_pos m
  rw [ltwo, lone, lN_mul, lN_sub (by omega), Nat.pow_succ, Nat.mul_comm]
theorem l_or1 (x : Int64) : x ||| 1 = if lb x 0 = true then x else x + 1 := by
  obtain ⟨n, hn, rfl⟩ := lN_of x
  rw [lb_lN _ (by decide), Nat.testBit_zero]
  have h2 : n % 2 = 0 ∨ n % 2 = 1 := by omega
  by_cases h : n % 2 = 1
  · rw [if_pos (by simpa using h)]
    refine l_ext (fun j hj => ?_)
    rw [l_or, lb_1 hj, lb_lN _ hj]
    by_cases e : j = 0
    · subst e; rw [Nat.testBit_zero]; simp [h]
    · simp [e]
  · rw [if_neg (by simpa using h), lone, lN_add]
    refine l_ext (fun j hj => ?_)
    rw [l_or, ← lone, lb_1 hj, lb_lN _ hj, lb_lN _ hj]
    cases j with
    | zero => rw [Nat.testBit_zero, Nat.testBit_zero]; simp; omega
    | succ j =>
      rw [Nat.testBit_succ, Nat.testBit_succ, show (n + 1) / 2 = n / 2 by omega]; simp
theorem and1_of {x : Int64} {b : Bool} (h : lb x 0 = b) : x &&& (1 : Int64) = if b = true then 1 else 0 := by
  refine l_ext (fun j hj => ?_)
  rw [l_and, lb_1 hj]
  by_cases e : j = 0
  · subst e; rw [h]; cases b <;> decide
  · cases b <;> simp [e, l_0, lb_1 hj]
theorem rounded_eq (x : Int64) {k md : Nat} (hk : k ≤ 61) (hmd : md < 4) : fX0_rounded (nI md) x (nI k) = fX11_rounded x (nI k) (nI md) := by
  unfold fX0_rounded fX11_rounded
  cases k with
  | zero => rw [if_neg (by decide), if_pos (by decide)]
  | succ m =>
    have h1 : (1 : Int32) ≤ nI (m + 1) := nI_le (a := 1) (by omega) (by omega)
    have h2 : ¬ nI (m + 1) = (0 : Int32) := nI_ne0 (by omega) (by omega)
    rw [if_pos h1, if_neg h2]
    unfold pX0_rounded_85_S1 pX0_rounded_120_S1 pX0_rounded_137_S1 eX0_rounded_29 pX11_rounded_134_S1 pX11_rounded_58_S1 pX11_rounded_39_S1
    rw [nI_pred, lshl1 (by omega), lhalf (by omega)]
    have hP : (0 : Nat) < 2 ^ m := Nat.two_pow_pos m
    have hP2 : 2 ^ (m + 1) = 2 ^ m * 2 := Nat.pow_succ ..
    have hPb : 2 ^ m ≤ 2 ^ 61 := Nat.pow_le_pow_right (by decide) (by omega)
    -- the bits that count
    obtain ⟨N, hN, hxN⟩ := lN_of x
    have hb : lb x m = decide (N / 2 ^ m % 2 = 1) := by rw [hxN, lb_lN _ (by omega), Nat.testBit_eq_decide_div_mod_eq]
    have e1 : lshr x (nI m) &&& (1 : Int64) = if decide (N / 2 ^ m % 2 = 1) = true then 1 else 0 := and1_of (by rw [l_sshr _ (by omega) _ (by decide), if_pos (by omega), Nat.add_zero, hb])
    obtain ⟨od, hod⟩ : ∃ b, lb (lshr x (nI (m + 1))) 0 = b := ⟨_, rfl⟩
    have e2 : lshr x (nI (m + 1)) &&& (1 : Int64) = if od = true then 1 else 0 := and1_of hod
    have e3 := l_or1 (lshr x (nI (m + 1)))
    rw [hod] at e3
    have e4 : x &&& lN (2 ^ (m + 1) - 1) = lN (N % 2 ^ (m + 1)) := by rw [hxN]; exact lmask N (by omega)
    have e5 : x &&& (lN (2 ^ m) - 1) = lN (N % 2 ^ m) := by rw [lone, lN_sub (by omega), hxN]; exact lmask N (by omega)
    have e6 : N % 2 ^ (m + 1) = N % 2 ^ m + 2 ^ m * (N / 2 ^ m % 2) := by rw [hP2, Nat.mod_mul]
    have hr : N % 2 ^ m < 2 ^ m := Nat.mod_lt _ hP
    have hq : N / 2 ^ m % 2 = 0 ∨ N / 2 ^ m % 2 = 1 := by omega
    have e7 : nI (m + 1) ≤ (1 : Int32) ↔ m = 0 := by
      show nI (m + 1) ≤ nI 1 ↔ _
      rw [nI_leI (by omega) (by decide)]; omega
    have hz : m = 0 → N % 2 ^ m = 0 := by intro h; subst h; omega
    rw [e1, e2, e3, e4, e5]
    generalize lshr x (nI (m + 1)) = K
    generalize N % 2 ^ (m + 1) = L at *
    generalize N % 2 ^ m = r at *
    generalize N / 2 ^ m % 2 = q at *
    generalize 2 ^ m = P at *
    have hmd2 : md = 0 ∨ md = 1 ∨ md = 2 ∨ md = 3 := by omega
    have cLT : ∀ {a b : Nat}, a < 2 ^ 63 → b < 2 ^ 63 → (lN a < lN b ↔ a < b) := fun ha hb => pk_lLT ha hb
    have cEQ : ∀ {a b : Nat}, a < 2 ^ 63 → b < 2 ^ 63 → (lN a = lN b ↔ a = b) := fun ha hb => pk_lEQ ha hb
    have hL : L < 2 ^ 63 := by rcases hq with h | h <;> rw [h] at e6 <;> omega
    have k1 : lN L < lN P ↔ q = 0 := by rw [cLT (by omega) (by omega)]; rcases hq with h | h <;> rw [h] at e6 <;> omega
    have k2 : lN P < lN L ↔ q = 1 ∧ ¬ r = 0 := by rw [cLT (by omega) (by omega)]; rcases hq with h | h <;> rw [h] at e6 <;> omega
    have k3 : lN L = lN P ↔ q = 1 ∧ r = 0 := by rw [cEQ (by omega) (by omega)]; rcases hq with h | h <;> rw [h] at e6 <;> omega
    have k4 : lN L = (0 : Int64) ↔ q = 0 ∧ r = 0 := by rw [lzero, cEQ (by omega) (by omega)]; rcases hq with h | h <;> rw [h] at e6 <;> omega
    have k5 : lN r = (0 : Int64) ↔ r = 0 := by rw [lzero, cEQ (by omega) (by omega)]
    have z1 : K + (0 : Int64) = K := Int64.add_zero K
    have d0 : nI 0 = (0 : Int32) := by decide
    have d1 : nI 1 = (1 : Int32) := by decide
    have d2 : nI 2 = (2 : Int32) := by decide
    have d3 : nI 3 = (3 : Int32) := by decide
    have p10 : ¬ (1 : Int32) = 0 := by decide
    have p20 : ¬ (2 : Int32) = 0 := by decide
    have p21 : ¬ (2 : Int32) = 1 := by decide
    have p23 : ¬ (2 : Int32) = 3 := by decide
    have p30 : ¬ (3 : Int32) = 0 := by decide
    have p31 : ¬ (3 : Int32) = 1 := by decide
    have p32 : ¬ (3 : Int32) = 2 := by decide
    have pl : ¬ (0 : Int64) = 1 := by decide
    have pl2 : ¬ (1 : Int64) = 0 := by decide
    simp only [k1, k2, k3, k4, k5, e7]
    rcases hmd2 with rfl | rfl | rfl | rfl <;> rcases hq with h | h <;> subst h <;> cases od <;> by_cases hr0 : r = 0 <;> by_cases hm0 : m = 0 <;> simp [d0, d1, d2, d3, p10, p20, p21, p23, p30, p31, p32, pl, pl2, hr0, hm0, z1] <;> first | (exact absurd (hz hm0) hr0) | skip
