/-! ===== which instruction it is ===== -/
def WK (S E L st d s1 s2 md : Nat) (F H im un tb : Int32) (x z xS zX : Nat → Int32) (vt sat : Int32) (c : Int64) (rf re r8 rg : Int32) (rl : Int64) : Prop :=
  WO (fX11_works (nI st) (nI d) (nI s1) (nI s2) F H (nI S) (nI E) un) (fX4_execute (nI st) tb (nI S) (nI E) rf re r8 rg (nI 0) (nI 1) F (nI d) (nI s1) (nI s2) H im) (fX4_execute__xV (nI L) (nI st) (nI md) sat c tb (nI S) (nI E) (nI (16 * E / S)) (fX11_isTailOpen vt) (fX11_isMaskOpen vt) xS x rf re r8 rg rl (nI 0) (nI 1) (nI 1) (fX10_ones (nI 1)) F (nI d) (nI s1) (nI s2) H im) (fX11_works__zV c (nI L) vt (nI st) (nI md) sat (nI d) (nI s1) (nI s2) F H (nI S) (nI E) un zX z z) (fX4_execute__r_saturated (nI L) (nI st) (nI md) sat c tb (nI S) (nI E) (nI (16 * E / S)) (fX11_isMaskOpen vt) xS x rf re r8 rg rl (nI 0) (nI 1) (nI 1) (fX10_ones (nI 1)) F (nI d) (nI s1) (nI s2) H im) (fX11_works__m_vxsat c (nI L) vt (nI st) (nI md) sat (nI d) (nI s1) (nI s2) F H (nI S) (nI E) un zX z z) (fX4_execute__xS (nI L) (nI st) tb (nI S) xS x (nI 0) (nI 1) (fX10_ones (nI 1)) F (nI d) (nI s1) (nI s2) H im) (fX11_works__zX (nI L) (nI st) (nI d) (nI s1) (nI s2) F H (nI S) un zX z) ∧ okX4_execute (nI L) (nI st) (nI md) sat c tb (nI S) (nI E) (nI (16 * E / S)) (fX11_isMaskOpen vt) xS x rf re r8 rg rl (nI 0) (nI 1) (nI 1) (fX10_ones (nI 1)) F (nI d) (nI s1) (nI s2) H im
theorem kd_none {F s1 s2 H im : Int32} (h : (fX1_entryOf (fX3_operation F H) &&& fX1_formBit F) = 0) : fX1_kindOf F s1 s2 H im = 0 := by
  unfold fX1_kindOf; rw [if_pos h]
theorem kd_ref {F s1 s2 H im k : Int32} (h : ¬ (fX1_entryOf (fX3_operation F H) &&& fX1_formBit F) = 0) (hr : fX1_refined F s1 s2 H (fX1_entryOf (fX3_operation F H) &&& 31) = k) : fX1_kindOf F s1 s2 H im = if fX1_isMaskBitRight s2 im k = 0 then 0 else k := by
  unfold fX1_kindOf pX1_kindOf_44_S1 eX1_kindOf_30
  rw [if_neg h, hr]
theorem kd_plain {F s1 s2 H im k : Int32} (h : ¬ (fX1_entryOf (fX3_operation F H) &&& fX1_formBit F) = 0) (ho : ¬ fX3_operation F H = 14 ∧ ¬ fX3_operation F H = 39 ∧ ¬ fX3_operation F H = 80 ∧ ¬ fX3_operation F H = 82 ∧ ¬ fX3_operation F H = 84) (hk : (fX1_entryOf (fX3_operation F H) &&& 31) = k) : fX1_kindOf F s1 s2 H im = if fX1_isMaskBitRight s2 im k = 0 then 0 else k := by
  refine kd_ref h ?_
  unfold fX1_refined
  rw [if_neg ho.1, if_neg ho.2.1, if_neg ho.2.2.1, if_neg ho.2.2.2.1, if_neg ho.2.2.2.2, hk]
theorem mb_free {k : Int32} (h : ¬ k = 3 ∧ ¬ k = 5 ∧ ¬ k = 12 ∧ ¬ k = 17 ∧ ¬ k = 18 ∧ ¬ k = 25 ∧ ¬ k = 26) (s2 im : Int32) : (if fX1_isMaskBitRight s2 im k = 0 then 0 else k) = k := by
  have e : fX1_isMaskBitRight s2 im k = 1 := by
    unfold fX1_isMaskBitRight
    rw [if_neg h.1, if_neg h.2.1, if_neg h.2.2.1, if_neg h.2.2.2.1, if_neg h.2.2.2.2.1, if_neg h.2.2.2.2.2.1, if_neg h.2.2.2.2.2.2]
  rw [e, if_neg (by decide)]
theorem mb_3 (s2 im : Int32) : fX1_isMaskBitRight s2 im 3 = im := by
  unfold fX1_isMaskBitRight; rw [if_pos rfl]
theorem mb_5 (s2 im : Int32) : fX1_isMaskBitRight s2 im 5 = 0 ↔ (im = 0 ∧ ¬ s2 = 0) := by
  unfold fX1_isMaskBitRight pX1_isMaskBitRight_136_S1
  rw [if_neg (by decide), if_pos rfl]
  by_cases a : im = 0
  · by_cases b : s2 = 0
    · simp (decide := true) [a, b]
    · simp (decide := true) [a, b]
  · simp (decide := true) [a]
theorem mb_u {k : Int32} (h : k = 12 ∨ k = 17 ∨ k = 18 ∨ k = 25 ∨ k = 26) (s2 im : Int32) : fX1_isMaskBitRight s2 im k = 0 ↔ ¬ im = 0 := by
  have e : fX1_isMaskBitRight s2 im k = pX1_isMaskBitRight_149_S1 im := by
    unfold fX1_isMaskBitRight
    rcases h with h | h | h | h | h <;> rw [h] <;> simp (decide := true) only [if_true, if_false]
  rw [e]
  unfold pX1_isMaskBitRight_149_S1
  by_cases a : im = 0
  · simp (decide := true) [a]
  · simp (decide := true) [a]
theorem WO_b {b a s' v' : Int32} {x' z' xS' zX' : Nat → Int32} {Q : Prop} (h : WO b a x' z' s' v' xS' zX' ∧ Q) : WO (if b = 0 then 0 else 1) a x' z' s' v' xS' zX' ∧ Q := by
  refine ⟨⟨?_, h.1.2⟩, h.2⟩
  rw [h.1.1]
  by_cases e : b = 0
  · rw [if_pos e, if_pos e, if_pos rfl]
  · rw [if_neg e, if_neg e, if_neg (by decide)]
