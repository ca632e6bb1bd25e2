/-! ===== choices, elements left open, tails: class and reference in step ===== -/
theorem ok_ix {x : Int32} (h0 : ¬ x < 0) (h1 : x < 128) : vp_in x 128 := by
  rcases pk_ix x (n := 128) (by decide) with h | h | ⟨k, hk, e⟩
  · exact absurd h h0
  · exact absurd h1 (by rw [← Int32.not_le, Classical.not_not]; exact h)
  · rw [e]; exact vp_in_nI hk (by decide)
theorem ok_el (a b c : Int32) : okX2_element a b c := fun h0 h1 => ok_ix h0 h1
theorem ok_pt (a b c : Int32) : okX2_put a b c := fun h0 h1 => ok_ix h0 h1
theorem ok_lo (a b : Int32) (c : Int64) (d : Int32) : okX2_leaveOpen a b c d := fun _ => ok_pt _ _ _
theorem l_one {x : Int64} (k : Nat) (f : Int64) (hf : lb f 0 = lb x k) : (f &&& (1 : Int64)) = (1 : Int64) ↔ lb x k = true := by
  have h1 : ∀ j, j < 64 → lb (1 : Int64) j = decide (j = 0) := by decide +kernel
  constructor
  · intro h
    have := congrArg (fun y => lb y 0) h
    simp only [l_and, h1 0 (by decide), hf] at this
    simpa using this
  · intro h
    refine l_ext (fun j hj => ?_)
    rw [l_and, h1 j hj]
    by_cases e : j = 0
    · subst e; rw [hf, h]; rfl
    · simp [e]
theorem and63 {i : Nat} (h : i < 2 ^ 32) : nI i &&& 63 = nI (i % 64) := pk_andN h 6 (by decide)
theorem chosenC (c : Int64) {i : Nat} (hi : i < 2 ^ 31) : fX8_isChosen c (nI i) = if lb c (i % 64) then 1 else 0 := by
  have hm : i % 64 < 64 := Nat.mod_lt _ (by decide)
  unfold fX8_isChosen pX8_isChosen_21_S1
  rw [and63 (by omega)]
  have key := l_one (x := c) (i % 64) (lsru c (nI (i % 64))) (l_ushr _ hm c 0)
  by_cases h : lb c (i % 64) = true
  · rw [if_pos (key.mpr h), if_pos h]
  · rw [if_neg (fun q => h (key.mp q)), if_neg h]
theorem chosenM (c : Int64) {i : Nat} (hi : i < 2 ^ 31) : fX11_chosen c (nI i) = if lb c (i % 64) then 1 else 0 := by
  have hm : i % 64 < 64 := Nat.mod_lt _ (by decide)
  unfold fX11_chosen pX11_chosen_21_S1
  rw [and63 (by omega)]
  have key := l_one (x := c) (i % 64) (lshr c (nI (i % 64))) (by rw [l_sshr _ hm c (by decide), if_pos (by omega)]; rfl)
  by_cases h : lb c (i % 64) = true
  · rw [if_pos (key.mpr h), if_pos h]
  · rw [if_neg (fun q => h (key.mp q)), if_neg h]
theorem l_z8 : ∀ i, i < 64 → lb (fX11_ones 8) i = decide (i < 8) := by decide +kernel
theorem l_z16 : ∀ i, i < 64 → lb (fX11_ones 16) i = decide (i < 16) := by decide +kernel
theorem l_z32 : ∀ i, i < 64 → lb (fX11_ones 32) i = decide (i < 32) := by decide +kernel
theorem l_zB {e : Nat} (he : okB e) {i : Nat} (hi : i < 64) : lb (fX11_ones (nI e)) i = decide (i < e) := by
  rcases he with rfl | rfl | rfl
  · exact l_z8 i hi
  · exact l_z16 i hi
  · exact l_z32 i hi
theorem okB.le {e : Nat} (he : okB e) : 8 ≤ e ∧ e ≤ 32 := by rcases he with rfl | rfl | rfl <;> decide
theorem Sy.opn {x z : Nat → Int32} (h : Sy x z) {r e i : Nat} (he : okB e) (hB : r * 128 + i * e + e ≤ 4096) (c : Int64) : Sy (fX2_leaveOpen__xV (nI r) (nI e) (fX10_ones (nI e)) c x (nI i)) (fX11_open__zV c z (nI r) (nI e) (nI i)) := by
  have h5 : i ≤ i * e := Nat.le_mul_of_pos_right _ (by have := he.le; omega)
  unfold fX2_leaveOpen__xV pX2_leaveOpen_19_xV fX11_open__zV pX11_open_19_zV
  rw [chosenC c (by omega), chosenM c (by omega)]
  by_cases q : lb c (i % 64) = true
  · rw [if_pos q, if_neg (by decide), if_neg (by decide)]
    exact h.put he hB (fun j hj => by rw [l_m1 j (by have := he.le; omega), l_zB he (by have := he.le; omega)]; simp [hj])
  · rw [if_neg q, if_pos rfl, if_pos rfl]; exact h
theorem Sy.openBit {x z : Nat → Int32} (h : Sy x z) {r i : Nat} (hB : r * 128 + i < 4096) (c : Int64) : Sy (fX2_leaveOpen__xV (nI r) (nI 1) (fX10_ones (nI 1)) c x (nI i)) (fX11_openBit__zV c z (nI r) (nI i)) := by
  unfold fX2_leaveOpen__xV pX2_leaveOpen_19_xV fX11_openBit__zV pX11_openBit_15_zV
  rw [chosenC c (by omega), chosenM c (by omega)]
  by_cases q : lb c (i % 64) = true
  · rw [if_pos q, if_neg (by decide), if_neg (by decide)]
    exact h.putBit hB (by rw [l_m1 0 (by decide)]; rfl)
  · rw [if_neg q, if_pos rfl, if_pos rfl]; exact h
theorem ok_open (z : Nat → Int32) {r e i : Nat} (he : okB e) (hB : r * 128 + i * e + e ≤ 4096) (c : Int64) : okX11_open c z (nI r) (nI e) (nI i) := by
  have h5 : i ≤ i * e := Nat.le_mul_of_pos_right _ (by have := he.le; omega)
  have := he.le
  exact fun _ => ok_put z he hB (by omega) (by omega) _
theorem ok_openBit {r i : Nat} (hB : r * 128 + i < 4096) (c : Int64) : okX11_openBit c (nI r) (nI i) := fun _ => ok_putBit hB
theorem cap_nI {e g : Nat} (he : 1 ≤ e) (he2 : e ≤ 32) (hg : g ≤ 8) : fX2_capacity (nI e) (nI g) = nI (g * 128 / e) := by
  unfold fX2_capacity pX2_capacity_25_S1
  rw [if_pos (by have := nI_le he (b := e) (by omega); exact this), nI128, pk_mul, pk_div (by omega) (by omega) (by omega)]
theorem cap_in {e g i : Nat} (he : okE e) (hi : i < g * 128 / e) : i * e + e ≤ g * 128 := by
  rcases he with rfl | rfl | rfl | rfl <;> omega
theorem Sy.tail {x z : Nat → Int32} (h : Sy x z) {r e g e8 k : Nat} (he : okB e) (hg : g ≤ 8) (hg8 : fX11_registers (nI e8) = nI g) (hr : r + g ≤ 32) (hk : k < 2 ^ 30) (c : Int64) {tl vt : Int32} (ht : tl = fX11_isTailOpen vt) : Sy (fX2_leaveTail__xV (nI r) (nI e) (nI g) (fX10_ones (nI e)) c x tl (nI k) 0) (fX11_tail__zV c vt z (nI r) (nI e) (nI e8) (nI k)) := by
  have hle := he.le
  unfold fX2_leaveTail__xV fX11_tail__zV rX2_leaveTail_18__xV
  rw [if_pos rfl, ← ht]
  by_cases q : tl = 0
  · rw [if_pos q, if_pos q]; exact h
  · rw [if_neg q, if_neg q]
    have hc := cap_nI (e := e) (g := g) (by omega) (by omega) hg
    have hc2 : fX11_registers (nI e8) * (128 : Int32) / nI e = nI (g * 128 / e) := by rw [hg8, nI128, pk_mul, pk_div (by omega) (by omega) (by omega)]
    have hb : g * 128 / e < 2147483648 := by
      have : g * 128 / e ≤ g * 128 := Nat.div_le_self _ _
      omega
    rw [hc, hc2, cnt_nI (by omega) (by omega)]
    rcases Nat.lt_or_ge k (g * 128 / e) with q2 | q2
    · rw [itX2_leaveTail_26 (nI r) (nI e) (nI g) (fX10_ones (nI e)) c hc hb (g * 128 / e - k) k x (by omega), itX11_tail_24 c (nI r) (nI e) (nI e8) hc2 hb (g * 128 / e - k) k z (by omega)]
      exact itr_rel (fun _ x z => Sy x z) _ _ _ k x z (fun i x z h1 h2 h3 => h3.opn he (by have := cap_in he.E (g := g) (i := i) (by omega); omega) c) h
    · rw [show g * 128 / e - k = 0 by omega]; exact h
theorem Sy.maskTail {x z : Nat → Int32} (h : Sy x z) {r k : Nat} (hr : r < 32) (hk : k < 2 ^ 30) (c : Int64) (tl : Int32) {u : Int32} (hu : ¬ u = 0) : Sy (fX2_leaveTail__xV (nI r) (nI 1) (nI 1) (fX10_ones (nI 1)) c x tl (nI k) u) (fX11_maskTail__zV c (nI k) z (nI r)) := by
  unfold fX2_leaveTail__xV fX11_maskTail__zV rX2_leaveTail_18__xV
  rw [if_neg hu]
  have hc := cap_nI (e := 1) (g := 1) (by omega) (by omega) (by omega)
  rw [hc, nI128, cnt_nI (by omega) (by omega)]
  rcases Nat.lt_or_ge k 128 with q2 | q2
  · rw [itX2_leaveTail_26 (nI r) (nI 1) (nI 1) (fX10_ones (nI 1)) c (b9 := 128) hc (by decide) (1 * 128 / 1 - k) k x (by omega), itX11_maskTail_5 c (nI r) (b9 := 128) nI128 (by decide) (1 * 128 / 1 - k) k z (by omega)]
    exact itr_rel (fun _ x z => Sy x z) _ _ _ k x z (fun i x z h1 h2 h3 => h3.openBit (by omega) c) h
  · rw [show 1 * 128 / 1 - k = 0 by omega]; exact h
