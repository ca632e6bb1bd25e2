/-! ===== the other calls ===== -/
theorem lacks_in {n M : Nat} (h : n ≤ M) (hM : M < 2 ^ 31) : fX11_lacks (nI n) (nI M) = 0 ∧ fX11_lacks__m_thrown (nI n) (nI M) = 0 := by
  have e : pX11_lacks_15_S2 (nI n) (nI M) = 0 := by
    unfold pX11_lacks_15_S2
    rw [if_neg (nI_pos (by omega)), if_pos (nI_le h hM)]
  unfold fX11_lacks fX11_lacks__m_thrown pX11_lacks_30_S1
  rw [e]; exact ⟨if_pos (by decide), rfl⟩
theorem lacks_out {k : Int32} {M : Nat} (h : k < 0 ∨ ¬ k ≤ nI M) : ¬ fX11_lacks k (nI M) = 0 ∧ fX11_lacks__m_thrown k (nI M) = 1 := by
  have e : pX11_lacks_15_S2 k (nI M) = 1 := by
    unfold pX11_lacks_15_S2
    by_cases a : k < 0
    · rw [if_pos a]
    · rw [if_neg a, if_neg (by rcases h with h | h; exact absurd h a; exact h)]
  unfold fX11_lacks fX11_lacks__m_thrown pX11_lacks_30_S1
  rw [e]; exact ⟨by rw [if_neg (by decide)]; decide, rfl⟩
theorem range_or (k : Int32) {M : Nat} (hM : M + 1 < 2 ^ 31) : (∃ n, n ≤ M ∧ k = nI n) ∨ (k < 0 ∨ ¬ k ≤ nI M) := by
  by_cases a : k < 0
  · exact Or.inr (Or.inl a)
  · by_cases b : k ≤ nI M
    · obtain ⟨n, hn, e⟩ := nI_of a
      subst e
      refine Or.inl ⟨n, ?_, rfl⟩
      refine Nat.le_of_not_lt (fun w => ?_)
      exact absurd b (nI_ge w hn)
    · exact Or.inr (Or.inr b)
theorem four_eq {x z : Nat → Int32} (hz : zB z) {n : Nat} (hn : n < 2 ^ 20) (h : ∀ j, j < 32 → vb x (32 * n + j) = zb z (32 * n + j)) : fX11_four z (nI n) = x n := by
  have e4 : (4 : Int32) * nI n = nI (4 * n) := by rw [show (4 : Int32) = nI 4 by decide, pk_mul]
  unfold fX11_four
  rw [e4, show (1 : Int32) = nI 1 by decide, show (2 : Int32) = nI 2 by decide, show (3 : Int32) = nI 3 by decide, nI_add, nI_add, nI_add, nI_clamp (by omega), nI_clamp (by omega), nI_clamp (by omega), nI_clamp (by omega), nI8, show (16 : Int32) = nI 16 by decide, show (24 : Int32) = nI 24 by decide]
  refine b_ext (fun j hj => ?_)
  have hb := h j hj
  unfold vb zb at hb
  rw [show (32 * n + j) / 32 = n by omega, show (32 * n + j) % 32 = j by omega, show (32 * n + j) / 8 = 4 * n + j / 8 by omega, show (32 * n + j) % 8 = j % 8 by omega] at hb
  rw [b_or, b_or, b_or, b_shlF 8 (by decide) _ hj, b_shlF 16 (by decide) _ hj, b_shlF 24 (by decide) _ hj, hb]
  rcases Nat.lt_or_ge j 8 with q | q
  · rw [show j / 8 = 0 by omega, show j % 8 = j by omega]
    simp [show ¬ 8 ≤ j by omega, show ¬ 16 ≤ j by omega, show ¬ 24 ≤ j by omega]
  · rcases Nat.lt_or_ge j 16 with q2 | q2
    · rw [show j / 8 = 1 by omega, show j % 8 = j - 8 by omega, hz (4 * n) j q]
      simp [q, show ¬ 16 ≤ j by omega, show ¬ 24 ≤ j by omega]
    · rcases Nat.lt_or_ge j 24 with q3 | q3
      · rw [show j / 8 = 2 by omega, show j % 8 = j - 16 by omega, hz (4 * n) j q, hz (4 * n + 1) (j - 8) (by omega)]
        simp [q, q2, show ¬ 24 ≤ j by omega]
      · rw [show j / 8 = 3 by omega, show j % 8 = j - 24 by omega, hz (4 * n) j q, hz (4 * n + 1) (j - 8) (by omega), hz (4 * n + 2) (j - 16) (by omega)]
        simp [q, q2, q3]
theorem Sy.four {x z : Nat → Int32} (h : Sy x z) {n : Nat} (hn : n < 128) : fX11_four z (nI n) = x n := four_eq h.1 (by omega) (fun j hj => h.2 _ (by omega))
theorem SyM.four {w m : Nat → Int32} (h : SyM w m) {n : Nat} (hn : n < 256) : fX11_four m (nI n) = w n := four_eq h.1 (by omega) (fun j hj => h.2 _ (by omega))
theorem putFour_at {z : Nat → Int32} (hz : zB z) {n : Nat} (hn : n < 2 ^ 20) (v : Int32) : zB (fX11_putFour__zA z (nI n) v) ∧ ∀ m, zb (fX11_putFour__zA z (nI n) v) m = if m / 32 = n then bt v (m % 32) else zb z m := by
  have h4 : (4 : Int32) = nI 4 := by decide
  unfold fX11_putFour__zA
  rw [kN_eq, ← nI_0, itX11_putFour_2 (b9 := 4) 0 _ _ h4 (by omega) 4 0 z (by omega)]
  have key := itr_rel (fun i (s t : Nat → Int32) => zB s ∧ ∀ m, zb s m = if m / 32 = n ∧ m % 32 < 8 * i then bt v (m % 32) else zb z m) (fun k s => (upd s (Int32.toNatClampNeg (((4 : Int32) * nI n) + (nI k))) ((shr v ((8 : Int32) * (nI k))) &&& (255 : Int32)))) (fun k s => s) 4 0 z z (by
    intro i s t _ hi ⟨hb, hs⟩
    have e1 : (4 : Int32) * nI n + nI i = nI (4 * n + i) := by rw [h4, pk_mul, nI_add]
    have e2 : (8 : Int32) * nI i = nI (8 * i) := by rw [nI8, pk_mul]
    show zB (upd s (Int32.toNatClampNeg (4 * nI n + nI i)) ((shr v (8 * nI i)) &&& 255)) ∧ ∀ m, zb (upd s (Int32.toNatClampNeg (4 * nI n + nI i)) ((shr v (8 * nI i)) &&& 255)) m = _
    rw [e1, e2, nI_clamp (by omega)]
    refine ⟨zB_upd hb _ (fun j hj => by rw [b_and, b_255]; simp [show ¬ j < 8 by omega]), fun m => ?_⟩
    rw [zb_upd, hs]
    by_cases q : m / 8 = 4 * n + i
    · rw [if_pos q, if_pos (by omega), b_and, b_255, b_shrF _ (by omega) _ (by omega), if_pos (by omega), show 8 * i + m % 8 = m % 32 by omega]
      simp [show m % 8 < 8 by omega]
    · rw [if_neg q]
      by_cases q2 : m / 32 = n ∧ m % 32 < 8 * i
      · rw [if_pos q2, if_pos (by omega)]
      · rw [if_neg q2, if_neg (by omega)]) ⟨hz, fun m => by rw [if_neg (by omega)]⟩
  obtain ⟨k1, k2⟩ := key
  refine ⟨k1, fun m => ?_⟩
  rw [k2]
  by_cases q : m / 32 = n
  · rw [if_pos q, if_pos (by omega)]
  · rw [if_neg q, if_neg (fun w => q w.1)]
theorem vb_upd (x : Nat → Int32) (n : Nat) (v : Int32) (m : Nat) : vb (upd x n v) m = if m / 32 = n then bt v (m % 32) else vb x m := by
  unfold vb
  by_cases q : m / 32 = n
  · rw [if_pos q, q, pk_us]
  · rw [if_neg q, pk_un q]
theorem Sy.setV {x z : Nat → Int32} (h : Sy x z) {n : Nat} (hn : n < 128) (v : Int32) : Sy (upd x n v) (fX11_putFour__zA z (nI n) v) := by
  obtain ⟨k1, k2⟩ := putFour_at h.1 (n := n) (by omega) v
  exact ⟨k1, fun m hm => by rw [k2, vb_upd, h.2 m hm]⟩
theorem SyM.setW {x z : Nat → Int32} (h : SyM x z) {n : Nat} (hn : n < 256) (v : Int32) : SyM (upd x n v) (fX11_putFour__zA z (nI n) v) := by
  obtain ⟨k1, k2⟩ := putFour_at h.1 (n := n) (by omega) v
  exact ⟨k1, fun m hm => by rw [k2, vb_upd, h.2 m hm]⟩
theorem ok_four {n A : Nat} (h : 4 * n + 3 < A) (hA : A < 2 ^ 31) : okX11_four A (nI n) := by
  have e4 : (4 : Int32) * nI n = nI (4 * n) := by rw [show (4 : Int32) = nI 4 by decide, pk_mul]
  unfold okX11_four
  rw [e4, show (1 : Int32) = nI 1 by decide, show (2 : Int32) = nI 2 by decide, show (3 : Int32) = nI 3 by decide, nI_add, nI_add, nI_add]
  exact ⟨vp_in_nI (by omega) (by omega), vp_in_nI (by omega) (by omega), vp_in_nI (by omega) (by omega), vp_in_nI (by omega) (by omega)⟩
theorem ok_putFour {n A : Nat} (h : 4 * n + 3 < A) (hA : A < 2 ^ 31) (z : Nat → Int32) (v : Int32) : okX11_putFour A z (nI n) v := by
  have h4 : (4 : Int32) = nI 4 := by decide
  unfold okX11_putFour
  rw [kN_eq, ← nI_0, itX11_putFour_2 (b9 := 4) A _ _ h4 (by omega) 4 0 z (by omega)]
  refine ⟨ktX11_putFour_2 (b9 := 4) A _ _ h4 (by omega) (fun _ _ => True) (fun a w _ ha => ⟨fun _ => ?_, True.intro⟩) 4 0 z (by omega) True.intro, by unfold tX11_putFour_2; rw [if_pos (show (4 : Int32) ≤ nI (0 + 4) by decide)]; exact id, fun q => absurd (show (4 : Int32) ≤ nI (0 + 4) by decide) q⟩
  rw [h4, pk_mul, nI_add]
  exact vp_in_nI (by omega) (by omega)
theorem sum_gen {x z : Nat → Int32} (h : Sy x z) {N : Nat} (h5 : (128 : Int32) = nI N) (hN : N ≤ 128) : (LX10_sum_4 x N (nI 0, nI 0)).2 = (LX11_sum_9 z N (nI 0, nI 0)).2 := by
  rw [itX10_sum_4 (b9 := N) x h5 (by omega) N 0 (nI 0) (by omega), itX11_sum_9 (b9 := N) z h5 (by omega) N 0 (nI 0) (by omega)]
  exact itr_rel (fun _ (s t : Int32) => s = t) _ _ N 0 (nI 0) (nI 0) (fun i s t _ hi e => by
    rw [e, nI_clamp (by omega), h.four (by omega)]) rfl
theorem sum_eq {x z : Nat → Int32} (h : Sy x z) : fX10_sum x = fX11_sum z := by
  unfold fX10_sum fX11_sum
  rw [kN_eq, ← nI_0]
  exact sum_gen h (by decide) (Nat.le_refl _)
theorem ok_sums (x z : Nat → Int32) : okX10_sum x ∧ okX11_sum z := by
  have h5 : (128 : Int32) = nI 128 := by decide
  unfold okX10_sum okX11_sum
  rw [kN_eq, ← nI_0, itX10_sum_4 (b9 := 128) x h5 (by omega) 128 0 (nI 0) (by omega), itX11_sum_9 (b9 := 128) z h5 (by omega) 128 0 (nI 0) (by omega), Nat.zero_add]
  exact ⟨⟨ktX10_sum_4 (b9 := 128) x h5 (by omega) (fun _ _ => True) (fun a w _ ha => ⟨fun _ => vp_in_nI ha (by decide), True.intro⟩) 128 0 (nI 0) (by omega) True.intro, by unfold tX10_sum_4; rw [if_pos (show (128 : Int32) ≤ nI 128 by decide)]; exact id, fun q => absurd (show (128 : Int32) ≤ nI 128 by decide) q⟩, ⟨ktX11_sum_9 (b9 := 128) z h5 (by omega) (fun _ _ => True) (fun a w _ ha => ⟨fun _ => ok_four (by omega) (by decide), True.intro⟩) 128 0 (nI 0) (by omega) True.intro, by unfold tX11_sum_9; rw [if_pos (show (128 : Int32) ≤ nI 128 by decide)]; exact id, fun q => absurd (show (128 : Int32) ≤ nI 128 by decide) q⟩⟩
theorem vp_nar_bool {b : Int32} (h : b = 0 ∨ b = 1) : vp_nar .boolean b = b := by
  rcases h with h | h <;> subst h <;> rfl
theorem shl1_bt {n j : Nat} (hn : n < 32) (hj : j < 32) : bt (shl 1 (nI n)) j = decide (j = n) := by
  have : ∀ n, n < 32 → ∀ j, j < 32 → bt (shl 1 (nI n)) j = decide (j = n) := by decide +kernel
  exact this n hn j hj
theorem SyP.shut {sp : Int32} {zS : Nat → Int32} (h : SyP sp zS) {n : Nat} (hn : n < 16) {b : Int32} (hb : b = 0 ∨ b = 1) : SyP (fX6_close__y_shutPages sp (nI n) b) (upd zS n b) := by
  intro k hk
  unfold fX6_close__y_shutPages pX6_close_26_S2
  rcases hb with e | e
  · subst e
    rw [if_pos rfl, b_and, b_xor, shl1_bt (by omega) (by omega), b_m1 k (by omega)]
    by_cases q : k = n
    · subst q; rw [pk_us]; simp
    · rw [pk_un q]
      have := h k hk
      simp [q, this]
  · subst e
    rw [if_neg (by decide), b_or, shl1_bt (by omega) (by omega)]
    by_cases q : k = n
    · subst q; rw [pk_us]; simp
    · rw [pk_un q]
      have := h k hk
      simp [q, this]
theorem and_small (v : Int32) : (∃ s, v &&& 127 = nI s ∧ s < 128) ∧ (∃ s, v &&& 3 = nI s ∧ s < 4) := by
  refine ⟨⟨fld v 0 7, ?_, fld_lt v 0 7⟩, ⟨fld v 0 2, ?_, fld_lt v 0 2⟩⟩
  · have := fld_u (u := v) (k := 0) (n := 7) (by decide)
    rw [show sru v (nI 0) = v by refine b_ext (fun i hi => ?_); rw [b_sruF 0 (by decide), Nat.zero_add]] at this
    exact this
  · have := fld_u (u := v) (k := 0) (n := 2) (by decide)
    rw [show sru v (nI 0) = v by refine b_ext (fun i hi => ?_); rw [b_sruF 0 (by decide), Nat.zero_add]] at this
    exact this
/-- contents: what lies behind the end of an array is nothing -/
def nrm (N : Nat) (f : Nat → Int32) : Nat → Int32 := fun k => if k < N then f k else 0
theorem nrm_lt {N : Nat} {f : Nat → Int32} {k : Nat} (h : k < N) : nrm N f k = f k := if_pos h
theorem nrm_ge {N : Nat} {f : Nat → Int32} {k : Nat} (h : N ≤ k) : nrm N f k = 0 := if_neg (Nat.not_lt.mpr h)
theorem Sy.nrm {x z : Nat → Int32} (h : Sy x z) : Sy x (nrm 512 z) := by
  refine ⟨fun k j hj => ?_, fun n hn => ?_⟩
  · by_cases q : k < 512
    · rw [nrm_lt q]; exact h.1 k j hj
    · rw [nrm_ge (Nat.le_of_not_lt q)]; exact b_0 j
  · rw [h.2 n hn]
    unfold zb
    rw [nrm_lt (by omega)]
