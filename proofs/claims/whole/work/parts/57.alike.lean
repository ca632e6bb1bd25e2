/-! ===== the second operand, shifts, and the loop of the alike operations ===== -/
def SX (xS zX : Nat → Int32) : Prop := zX 0 = 0 ∧ ∀ k, 1 ≤ k → k < 32 → xS k = zX k
theorem SX.scalar {xS zX : Nat → Int32} (h : SX xS zX) {k : Nat} (hk : k < 32) : fX8_scalar xS (nI k) = zX k := by
  unfold fX8_scalar pX8_scalar_20_S1
  by_cases q : k = 0
  · subst q; rw [if_pos (by decide), h.1]
  · rw [if_neg (nI_nle (by omega) (by omega)), if_neg (show ¬ (32 : Int32) ≤ nI k from nI_ge (a := k) (b := 32) (by omega) (by decide)), nI_clamp (by omega), h.2 k (by omega) hk]
theorem imm_eq : ∀ s, s < 32 → fX10_signed (Int32.toInt64 (nI s)) (5 : Int32) = fX11_immediate (nI s) := by decide +kernel
theorem imm_lo : ∀ s, s < 32 → ∀ j, j < 5 → lb (fX11_immediate (nI s)) j = lb (Int32.toInt64 (nI s)) j := by decide +kernel
def okF (F : Int32) : Prop := F = 0 ∨ F = 2 ∨ F = 3 ∨ F = 4 ∨ F = 6
theorem cut_eq (a : Int64) {S : Nat} (hS : okB S) : fX11_cut a (nI S) = a &&& fX10_ones (nI S) := by
  unfold fX11_cut pX11_cut_17_S1
  rw [if_neg (by rcases hS with rfl | rfl | rfl <;> decide)]; rfl
theorem low_get (z : Nat → Int32) (hz : zB z) {r e i : Nat} (he : okB e) (hr : r < 64) (hi : i < 4096) : low e (fX11_get z (nI r) (nI e) (nI i)) := by
  intro j hj
  rcases Nat.lt_or_ge j 64 with q | q
  · rw [get_lb z hz he hr hi q]; simp [Nat.not_lt.mpr hj]
  · exact l_big q
theorem low_cut (a : Int64) {S : Nat} (hS : okB S) : low S (fX11_cut a (nI S)) := by
  intro j hj
  rcases Nat.lt_or_ge j 64 with q | q
  · rw [cut_eq a hS, l_and, l_onesE hS.E q]; simp [Nat.not_lt.mpr hj]
  · exact l_big q
theorem low_second (z zX : Nat → Int32) (hz : zB z) {s1 S i : Nat} (hS : okB S) (h1 : s1 < 32) (hi : i < 4096) (F : Int32) : low S (fX11_second_ (nI s1) F zX z (nI S) (nI i)) := by
  unfold fX11_second_ pX11_second__48_S1
  split
  · exact low_cut _ hS
  · exact low_get z hz hS (by omega) hi
/-- the second operand is the same -/
theorem right_eq {D w st i : Nat} {x zO xS zX : Nat → Int32} (hz : zB zO) (h : Iv D w st zO i x) (hX : SX xS zX) {s1 S : Nat} (hS : okB S) (h1 : s1 < 32) {F hr : Int32} (hF : okF F) (hhr : hr = fX3_takesVector F) (hV : ¬ hr = 0 → s1 * 128 + i * S + S ≤ 4096 ∧ (s1 * 128 + i * S + S ≤ D + st * w ∨ D + i * w ≤ s1 * 128 + i * S)) : fX4_rightAt hr (fX4_prepare__n_second (nI S) xS F (nI s1)) x (nI s1) (nI S) (fX10_ones (nI S)) (nI i) = fX11_second_ (nI s1) F zX zO (nI S) (nI i) := by
  unfold fX4_rightAt pX4_rightAt_22_S1 fX11_second_ pX11_second__48_S1
  have hvv : fX3_takesVector F = fX11_isV F := rfl
  rw [← hvv, ← hhr]
  by_cases q : hr = 0
  · rw [if_pos q, if_pos q, cut_eq _ hS]
    unfold fX4_prepare__n_second pX4_prepare_88_S1 pX11_second__44_S1
    rw [hX.scalar h1, nI_clamp (by omega)]
    rw [hhr] at q
    rcases hF with rfl | rfl | rfl | rfl | rfl
    · exact absurd q (by decide)
    · exact absurd q (by decide)
    · rw [if_neg (by decide), if_pos (by decide), imm_eq s1 h1]
    · rw [if_pos (by decide), if_neg (by decide)]
    · rw [if_pos (by decide), if_neg (by decide)]
  · rw [if_neg q, if_neg q]
    exact rd hz h hS (hV q).1 (hV q).2
theorem sh_bits {S : Nat} (hS : okB S) : ∀ j, j < 32 → bt (nI S - (1 : Int32)) j = true → j < 5 := by rcases hS with rfl | rfl | rfl <;> decide +kernel
theorem sh_sign {S : Nat} (hS : okB S) : ∀ j, j < 64 → lb (Int32.toInt64 (nI S - (1 : Int32))) j = (decide (j < 32) && bt (nI S - (1 : Int32)) j) := by rcases hS with rfl | rfl | rfl <;> decide +kernel
/-- a shift's number is the same -/
theorem shift_eq (z zX : Nat → Int32) {s1 S i : Nat} (hS : okB S) (h1 : s1 < 32) {F : Int32} (hF : okF F) : (Int64.toInt32 (fX11_second_ (nI s1) F zX z (nI S) (nI i))) &&& (nI S - (1 : Int32)) = Int64.toInt32 (Int32.toInt64 (fX11_shift (nI s1) F zX z (nI S) (nI S) (nI i)) &&& (Int32.toInt64 (nI S - (1 : Int32)))) := by
  have hle := hS.le
  refine b_ext (fun j hj => ?_)
  rw [b_and, b_l2i _ hj, b_l2i _ hj, l_and, l_i2l _ (by omega), if_pos hj, sh_sign hS j (by omega)]
  unfold fX11_shift
  rw [b_l2i _ hj, l_and, sh_sign hS j (by omega)]
  by_cases q : bt (nI S - (1 : Int32)) j = true
  · have h5 := sh_bits hS j hj q
    have key : lb (fX11_second_ (nI s1) F zX z (nI S) (nI i)) j = lb (pX11_shift_45_S1 (nI s1) F zX z (nI S) (nI i)) j := by
      unfold fX11_second_ pX11_second__48_S1 pX11_shift_45_S1 pX11_second__44_S1
      rcases hF with rfl | rfl | rfl | rfl | rfl
      · rw [if_neg (by decide), if_neg (by decide)]
      · rw [if_neg (by decide), if_neg (by decide)]
      · rw [if_pos (by decide), if_pos (by decide), if_pos (by decide), if_pos (by decide), cut_eq _ hS, l_and, l_onesE hS.E (by omega), imm_lo s1 h1 j h5]; simp [show j < S by omega]
      · have v0 : fX11_isV 4 = 0 := by decide
        have x0 : ¬ fX11_isX 4 = 0 := by decide
        simp only [if_pos v0, if_neg x0]
        rw [cut_eq _ hS, l_and, l_onesE hS.E (by omega)]; simp [show j < S by omega]
      · have v0 : fX11_isV 6 = 0 := by decide
        have x0 : ¬ fX11_isX 6 = 0 := by decide
        simp only [if_pos v0, if_neg x0]
        rw [cut_eq _ hS, l_and, l_onesE hS.E (by omega)]; simp [show j < S by omega]
    rw [key, q]; simp [hj]
  · have q2 : bt (nI S - (1 : Int32)) j = false := by cases hq : bt (nI S - (1 : Int32)) j <;> simp_all
    simp [q2]
def shT : List (Int32 × Int32) := [(37, 10), (40, 11), (41, 12), (42, 17), (43, 18)]
theorem amount {S : Nat} (hS : okB S) (x : Int32) : ∃ k, k < 32 ∧ x &&& (nI S - (1 : Int32)) = nI k := by
  rcases hS with rfl | rfl | rfl
  · obtain ⟨k, h1, h2⟩ := pk_andE x (m := nI 8 - 1) 3 (by decide); exact ⟨k, by omega, h2⟩
  · obtain ⟨k, h1, h2⟩ := pk_andE x (m := nI 16 - 1) 4 (by decide); exact ⟨k, by omega, h2⟩
  · obtain ⟨k, h1, h2⟩ := pk_andE x (m := nI 32 - 1) 5 (by decide); exact ⟨k, by omega, h2⟩
theorem srl_eq {S k : Nat} (hS : okB S) {a : Int64} (ha : low S a) (hk : k < 32) : lsru a (nI k) = lshr a (nI k) := by
  have hle := hS.le
  refine l_ext (fun j hj => ?_)
  rw [l_ushr k (by omega), l_sshr k (by omega) a hj]
  by_cases q : k + j < 64
  · rw [if_pos q]
  · rw [if_neg q, l_big (by omega), ha 63 (by omega)]
theorem alu_sh {S : Nat} (hS : okB S) {md : Nat} (hmd : md < 4) (sat : Int32) (a b b2 d : Int64) (ha : low S a) (hsh : (Int64.toInt32 b) &&& (nI S - (1 : Int32)) = Int64.toInt32 (b2 &&& (Int32.toInt64 (nI S - (1 : Int32))))) {o p : Int32} (hop : (o, p) ∈ shT) :
    fX0_result (nI S) (fX10_ones (nI S)) (lshr (fX10_ones (nI S)) (1 : Int32)) ((-(lshr (fX10_ones (nI S)) (1 : Int32))) - (1 : Int64)) (nI md) o a b d = fX11_made (nI md) p a b2 d (nI S) ∧
    fX0_result__r_saturated (nI S) (fX10_ones (nI S)) (lshr (fX10_ones (nI S)) (1 : Int32)) ((-(lshr (fX10_ones (nI S)) (1 : Int32))) - (1 : Int64)) (nI md) sat o a b = fX11_made__m_vxsat (nI md) sat p a b2 (nI S) := by
  obtain ⟨k, hk, hk2⟩ := amount hS (Int64.toInt32 b)
  rw [hk2] at hsh
  have r2 : ∀ x, fX0_rounded (nI md) x (nI k) = fX11_rounded x (nI k) (nI md) := fun x => rounded_eq x (by omega) hmd
  have r3 := srl_eq hS ha hk
  simp only [shT, List.mem_cons, Prod.mk.injEq, List.not_mem_nil, or_false] at hop
  rcases hop with h | h | h | h | h <;> obtain ⟨rfl, rfl⟩ := h <;> refine ⟨?_, ?_⟩ <;> simp (decide := true) only [fX0_result, fX0_result__r_saturated, fX0_saturatingOrShift, fX0_saturatingOrShift__r_saturated, fX11_made, fX11_made__m_vxsat, signed_eq, hk2, ← hsh, r2, r3, if_true, if_false]
/-- an alike operation of the class and its number in the reference -/
def alT : List (Int32 × Int32) := aluT ++ shT
theorem notShift : ∀ q ∈ aluT, pX11_alike_73_S1 q.2 = 0 := by decide +kernel
theorem isShift : ∀ q ∈ shT, ¬ pX11_alike_73_S1 q.2 = 0 := by decide +kernel
theorem alike_val {S : Nat} (hS : okB S) {md : Nat} (hmd : md < 4) (sat : Int32) (z zX : Nat → Int32) (hz : zB z) {s1 i : Nat} (h1 : s1 < 32) (hi : i < 4096) {F : Int32} (hF : okF F) (a d : Int64) (ha : low S a) {o p : Int32} (hop : (o, p) ∈ alT) :
    (∀ j, j < S → lb (fX0_result (nI S) (fX10_ones (nI S)) (lshr (fX10_ones (nI S)) (1 : Int32)) ((-(lshr (fX10_ones (nI S)) (1 : Int32))) - (1 : Int64)) (nI md) o a (fX11_second_ (nI s1) F zX z (nI S) (nI i)) d) j = lb (fX11_made (nI md) p a (pX11_alike_141_S1 (nI s1) F (nI S) zX z p (nI i)) d (nI S)) j) ∧
    fX0_result__r_saturated (nI S) (fX10_ones (nI S)) (lshr (fX10_ones (nI S)) (1 : Int32)) ((-(lshr (fX10_ones (nI S)) (1 : Int32))) - (1 : Int64)) (nI md) sat o a (fX11_second_ (nI s1) F zX z (nI S) (nI i)) = fX11_made__m_vxsat (nI md) sat p a (pX11_alike_141_S1 (nI s1) F (nI S) zX z p (nI i)) (nI S) := by
  unfold pX11_alike_141_S1
  rcases List.mem_append.mp hop with h | h
  · rw [if_pos (notShift _ h)]
    exact alu_eq hS hmd sat a _ d (low_second z zX hz hS h1 hi F) h
  · rw [if_neg (isShift _ h)]
    obtain ⟨e1, e2⟩ := alu_sh hS hmd sat a (fX11_second_ (nI s1) F zX z (nI S) (nI i)) (Int32.toInt64 (fX11_shift (nI s1) F zX z (nI S) (nI S) (nI i))) d ha (shift_eq z zX hS h1 hF) h
    exact ⟨fun j _ => by rw [e1], e2⟩
