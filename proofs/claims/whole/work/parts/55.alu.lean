/-! ===== the alike operations: class's result and reference's made ===== -/
theorem ones_eq {S : Nat} (hS : okB S) : fX11_ones (nI S) = fX10_ones (nI S) := by rcases hS with rfl | rfl | rfl <;> decide +kernel
theorem least_eq {S : Nat} (hS : okB S) : fX11_least (nI S) = (-(lshr (fX10_ones (nI S)) (1 : Int32))) - (1 : Int64) := by rcases hS with rfl | rfl | rfl <;> decide +kernel
theorem signed_eq (x : Int64) (y : Int32) : fX11_signed x y = fX10_signed x y := rfl
theorem within_eq (x y z : Int64) : fX11_within x y z = fX0_clipped x y z := rfl
theorem withinS_eq (s : Int32) (x y z : Int64) : fX11_within__m_vxsat s x y z = fX0_clipped__r_saturated s x y z := rfl
theorem Sm1 {S : Nat} (hS : okB S) : nI S - (1 : Int32) = nI (S - 1) := by rcases hS with rfl | rfl | rfl <;> decide
/-- nothing above the lowest S bits -/
def low (S : Nat) (a : Int64) : Prop := ∀ j, S ≤ j → lb a j = false
/-- sign extension keeps 0 alone at 0 -/
theorem signed0 {S : Nat} (hS : okB S) {b : Int64} (hb : low S b) : fX10_signed b (nI S) = 0 ↔ b = 0 := by
  have hle := hS.le
  have hk : (64 : Int32) - nI S = nI (64 - S) := by rcases hS with rfl | rfl | rfl <;> decide
  constructor
  · intro h
    refine l_ext (fun j hj => ?_)
    rw [l_0]
    rcases Nat.lt_or_ge j S with q | q
    · have := congrArg (fun y => lb y j) h
      simp only [fX10_signed, hk, l_sshr (64 - S) (by omega) _ hj, l_0] at this
      by_cases e : 64 - S + j < 64
      · rw [if_pos e, l_shl _ (by omega) _ e] at this
        have e2 : 64 - S + j - (64 - S) = j := by omega
        rw [e2] at this
        simpa using this
      · omega
    · exact hb j q
  · intro h; subst h
    refine l_ext (fun j hj => ?_)
    rw [fX10_signed, hk, l_sshr (64 - S) (by omega) _ hj, l_0]
    split
    · rw [l_shl _ (by omega) _ (by omega), l_0]; simp
    · rw [l_shl _ (by omega) _ (by omega), l_0]; simp
def aluT : List (Int32 × Int32) := [(0, 0), (2, 1), (3, 2), (9, 3), (10, 4), (11, 5), (4, 6), (5, 7), (6, 8), (7, 9), (32, 13), (33, 14), (34, 15), (35, 16), (39, 19), (72, 20), (73, 21), (74, 22), (75, 23), (101, 24), (103, 25), (100, 26), (102, 27), (96, 28), (97, 29), (98, 30), (99, 31), (109, 32), (111, 33), (105, 34), (107, 35)]
theorem alu_eq {S : Nat} (hS : okB S) {md : Nat} (hmd : md < 4) (sat : Int32) (a b d : Int64) (hb : low S b) {o p : Int32} (hop : (o, p) ∈ aluT) :
    (∀ j, j < S → lb (fX0_result (nI S) (fX10_ones (nI S)) (lshr (fX10_ones (nI S)) (1 : Int32)) ((-(lshr (fX10_ones (nI S)) (1 : Int32))) - (1 : Int64)) (nI md) o a b d) j = lb (fX11_made (nI md) p a b d (nI S)) j) ∧
    fX0_result__r_saturated (nI S) (fX10_ones (nI S)) (lshr (fX10_ones (nI S)) (1 : Int32)) ((-(lshr (fX10_ones (nI S)) (1 : Int32))) - (1 : Int64)) (nI md) sat o a b = fX11_made__m_vxsat (nI md) sat p a b (nI S) := by
  have h1 := ones_eq hS
  have h2 := least_eq hS
  have h3 := Sm1 hS
  have hle := hS.le
  have r1 : ∀ x, fX0_rounded (nI md) x (1 : Int32) = fX11_rounded x (1 : Int32) (nI md) := fun x => rounded_eq x (k := 1) (by decide) hmd
  have r2 : ∀ x, fX0_rounded (nI md) x (nI (S - 1)) = fX11_rounded x (nI (S - 1)) (nI md) := fun x => rounded_eq x (by omega) hmd
  have z0 := signed0 hS hb
  have ho : ∀ j, j < S → lb (-1 : Int64) j = lb (fX10_ones (nI S)) j := fun j hj => by rw [l_m1 j (by omega), l_onesE hS.E (by omega)]; simp [hj]
  simp only [aluT, List.mem_cons, Prod.mk.injEq, List.not_mem_nil, or_false] at hop
  rcases hop with h | h | h | h | h | h | h | h | h | h | h | h | h | h | h | h | h | h | h | h | h | h | h | h | h | h | h | h | h | h | h <;> obtain ⟨rfl, rfl⟩ := h <;> refine ⟨fun j hj => ?_, ?_⟩ <;> simp (decide := true) only [fX0_result, fX0_result__r_saturated, fX0_simple, fX0_saturatingOrShift, fX0_saturatingOrShift__r_saturated, fX0_average, fX0_quotient, rX0_quotient_35, pX0_quotient_54_S1, fX0_product, fX11_made, fX11_made__m_vxsat, pX11_made_485_S1, pX11_made_504_S1, pX11_made_520_S1, pX11_made_537_S1, signed_eq, within_eq, withinS_eq, h1, h2, h3, r1, r2, z0, if_true, if_false]
  · by_cases q : b = 0
    · simp only [q, if_true, if_false]; exact ho j hj
    · simp only [q, if_true, if_false]
  · by_cases q : b = 0 <;> simp only [q, if_true, if_false]
  · by_cases q : b = 0 <;> simp only [q, if_true, if_false]
  · by_cases q : b = 0 <;> simp only [q, if_true, if_false]
  · rw [Int64.mul_comm b a, Int64.add_comm]
  · rw [Int64.mul_comm b a]
