/-! ===== the class reads live what the reference reads of old: what was written lies elsewhere ===== -/
/-- outside the elements st .. i-1 of the target (its bits from D on, w each) the registers are as they were -/
def Iv (D w st : Nat) (zO : Nat → Int32) (i : Nat) (x : Nat → Int32) : Prop := ∀ n, n < 4096 → ¬ (D + st * w ≤ n ∧ n < D + i * w) → vb x n = zb zO n
theorem Iv.start {D w st : Nat} {x zO : Nat → Int32} (h : Sy x zO) : Iv D w st zO st x := fun n hn _ => h.2 n hn
theorem rd {D w st i : Nat} {x zO : Nat → Int32} (hz : zB zO) (h : Iv D w st zO i x) {r e k : Nat} (he : okB e) (hB : r * 128 + k * e + e ≤ 4096) (hd : r * 128 + k * e + e ≤ D + st * w ∨ D + i * w ≤ r * 128 + k * e) : fX2_element (nI r) (nI e) (fX10_ones (nI e)) x (nI k) = fX11_get zO (nI r) (nI e) (nI k) := by
  have hle := he.le
  have h5 : k ≤ k * e := Nat.le_mul_of_pos_right _ (by omega)
  refine l_ext (fun j hj => ?_)
  rw [el_lb x he.E (by omega) hj, get_lb zO hz he (by omega) (by omega) hj]
  by_cases q : j < e
  · rw [h (r * 128 + k * e + j) (by omega) (by omega)]
  · simp [q]
theorem el1 (x : Nat → Int32) {r k : Nat} (hB : r * 128 + k < 4096) : fX2_element (nI r) (nI 1) (fX10_ones (nI 1)) x (nI k) = if vb x (r * 128 + k) = true then 1 else 0 := by
  refine l_ext (fun j hj => ?_)
  rw [el_lb x (Or.inl rfl) (by omega) hj, Nat.mul_one]
  by_cases q : j < 1
  · have : j = 0 := by omega
    subst this
    cases vb x (r * 128 + k) <;> decide
  · have h1 : lb (1 : Int64) j = false := by rw [lb_1 hj]; simp; omega
    cases vb x (r * 128 + k) <;> simp [q, l_0, h1]
theorem rdm {D w st i : Nat} {x zO : Nat → Int32} (h : Iv D w st zO i x) {r k : Nat} (hB : r * 128 + k < 4096) (hd : ¬ (D + st * w ≤ r * 128 + k ∧ r * 128 + k < D + i * w)) : fX2_element (nI r) (nI 1) (fX10_ones (nI 1)) x (nI k) = if zb zO (r * 128 + k) = true then 1 else 0 := by
  rw [el1 x hB, h _ hB hd]
theorem Iv.put {st i d w : Nat} {x zO : Nat → Int32} (h : Iv (d * 128) w st zO i x) (hw : okE w) (hs : st ≤ i) (hB : d * 128 + i * w < 4096) (a : Int64) : Iv (d * 128) w st zO (i + 1) (fX2_put__xV (nI d) (nI w) (fX10_ones (nI w)) x (nI i) a) := by
  intro n hn hd
  have h1 : st * w ≤ i * w := Nat.mul_le_mul_right _ hs
  rw [put_vb x hw hB]
  unfold vset
  rw [Nat.add_mul, Nat.one_mul] at hd
  rw [if_neg (by omega)]
  exact h n hn (by omega)
theorem Iv.skip {D w st i : Nat} {x zO : Nat → Int32} (h : Iv D w st zO i x) : Iv D w st zO (i + 1) x := by
  intro n hn hd
  rw [Nat.add_mul, Nat.one_mul] at hd
  exact h n hn (by omega)
theorem Iv.lo {st i d w : Nat} {x zO : Nat → Int32} (h : Iv (d * 128) w st zO i x) (hw : okE w) (hs : st ≤ i) (hB : d * 128 + i * w < 4096) (c : Int64) : Iv (d * 128) w st zO (i + 1) (fX2_leaveOpen__xV (nI d) (nI w) (fX10_ones (nI w)) c x (nI i)) := by
  unfold fX2_leaveOpen__xV pX2_leaveOpen_19_xV
  split
  · exact h.skip
  · exact h.put hw hs hB _
/-- in step, and old elsewhere -/
def Rl (D w st : Nat) (zO : Nat → Int32) (i : Nat) (x z : Nat → Int32) : Prop := Sy x z ∧ Iv D w st zO i x
theorem Rl.put {d w st i : Nat} {x z zO : Nat → Int32} (h : Rl (d * 128) w st zO i x z) (hw : okB w) (hs : st ≤ i) (hB : d * 128 + i * w + w ≤ 4096) {a b : Int64} (hab : ∀ j, j < w → lb a j = lb b j) : Rl (d * 128) w st zO (i + 1) (fX2_put__xV (nI d) (nI w) (fX10_ones (nI w)) x (nI i) a) (fX11_put__zV z (nI d) (nI w) (nI i) b) :=
  ⟨h.1.put hw hB hab, h.2.put hw.E hs (by have := hw.le; omega) _⟩
theorem Rl.msk {d w st i : Nat} {x z zO : Nat → Int32} (h : Rl (d * 128) w st zO i x z) (hw : okB w) (hs : st ≤ i) (hB : d * 128 + i * w + w ≤ 4096) (c : Int64) (vt : Int32) : Rl (d * 128) w st zO (i + 1) (if fX11_isMaskOpen vt = 0 then x else fX2_leaveOpen__xV (nI d) (nI w) (fX10_ones (nI w)) c x (nI i)) (fX11_masked__zV c vt z (nI d) (nI w) (nI i)) := by
  unfold fX11_masked__zV pX11_masked_14_zV
  by_cases q : fX11_isMaskOpen vt = 0
  · rw [if_pos q, if_pos q]; exact ⟨h.1, h.2.skip⟩
  · rw [if_neg q, if_neg q]; exact ⟨h.1.opn hw hB c, h.2.lo hw.E hs (by have := hw.le; omega) c⟩
theorem Rl.putBit {d st i : Nat} {x z zO : Nat → Int32} (h : Rl (d * 128) 1 st zO i x z) (hs : st ≤ i) (hB : d * 128 + i < 4096) {a : Int64} {u : Int32} (hab : lb a 0 = decide (¬ u = 0)) : Rl (d * 128) 1 st zO (i + 1) (fX2_put__xV (nI d) (nI 1) (fX10_ones (nI 1)) x (nI i) a) (fX11_putBit__zV z (nI d) (nI i) u) :=
  ⟨h.1.putBit hB hab, h.2.put (Or.inl rfl) hs (by omega) _⟩
theorem Rl.mskBit {d st i : Nat} {x z zO : Nat → Int32} (h : Rl (d * 128) 1 st zO i x z) (hs : st ≤ i) (hB : d * 128 + i < 4096) (c : Int64) (mo : Int32) : Rl (d * 128) 1 st zO (i + 1) (if mo = 0 then x else fX2_leaveOpen__xV (nI d) (nI 1) (fX10_ones (nI 1)) c x (nI i)) (if mo = 0 then z else fX11_openBit__zV c z (nI d) (nI i)) := by
  by_cases q : mo = 0
  · rw [if_pos q, if_pos q]; exact ⟨h.1, h.2.skip⟩
  · rw [if_neg q, if_neg q]; exact ⟨h.1.openBit hB c, h.2.lo (Or.inl rfl) hs (by omega) c⟩
/-- which elements are active: the mask bit of v0 is not yet overwritten -/
theorem act_eq {D w st i : Nat} {x zO : Nat → Int32} (h : Iv D w st zO i x) {isM un kd : Int32} (hk : ¬ kd = 5 ∧ ¬ kd = 3 ∧ ¬ kd = 4) (hmu : isM = 0 ↔ ¬ un = 0) (hi : i < 128) (hd : ¬ isM = 0 → ¬ (D + st * w ≤ i ∧ i < D + i * w)) : fX4_isActive kd isM x (nI 0) (nI 1) (fX10_ones (nI 1)) (nI i) = fX11_isActive un zO (nI i) := by
  unfold fX4_isActive pX4_isActive_49_S1 fX11_isActive pX11_isActive_21_S1
  by_cases q : isM = 0
  · rw [if_pos q, if_neg (hmu.mp q)]
  · have hu : un = 0 := Classical.byContradiction (fun z => q (hmu.mpr z))
    have hd := hd q
    rw [if_neg q, if_neg hk.1, if_neg hk.2.1, if_neg hk.2.2, if_pos hu, rdm h (r := 0) (k := i) (by omega) (by omega), show (0 : Int32) = nI 0 from nI_0.symm, bitz zO (r := 0) (i := i) (by decide) (by omega)]
    cases zb zO (0 * 128 + i) <;> decide
