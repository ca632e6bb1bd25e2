/-! ===== the calls beside step: both sides ===== -/
theorem nle_nlt {k a b : Int32} (h : ¬ k ≤ a) (hab : a.toInt + 1 = b.toInt) : ¬ k < b := by
  intro q
  refine h ?_
  rw [Int32.lt_iff_toInt_lt] at q
  rw [Int32.le_iff_toInt_le]
  omega
theorem or_nlt {k a b : Int32} (h : k < 0 ∨ ¬ k ≤ a) (hab : a.toInt + 1 = b.toInt) : k < 0 ∨ ¬ k < b := by
  rcases h with h | h
  · exact Or.inl h
  · exact Or.inr (nle_nlt h hab)
theorem ok3 {n N : Nat} {M : Int32} {P : Prop} (h : n < N) (hN : N < 2 ^ 31) (hM : M = nI N) (hP : P) : ((nI n < (0 : Int32)) → False) ∧ (¬ (nI n < (0 : Int32)) → (nI n < M) → P) ∧ (¬ (nI n < (0 : Int32)) → ¬ (nI n < M) → False) := by
  subst hM
  exact ⟨fun q => nI_pos (by omega) q, fun _ _ => hP, fun _ q => q (nI_lt h hN)⟩
theorem call_x {xS zX : Nat → Int32} (h : SX xS zX) (u1 : Int32) : (okX10_x u1 ∧ okX11_x u1 ∧ fX11_x__m_thrown u1 = 0 ∧ fX10_x xS u1 = fX11_x zX u1) ∨ ((u1 < 0 ∨ ¬ u1 < 32) ∧ okX11_x u1 ∧ fX11_x__m_thrown u1 = 1) := by
  rcases range_or u1 (M := 31) (by decide) with ⟨n, hn, rfl⟩ | hu
  · obtain ⟨l1, l2⟩ := lacks_in (n := n) (M := 31) hn (by decide)
    have l1 : fX11_lacks (nI n) (31 : Int32) = 0 := l1
    refine Or.inl ⟨ok3 (N := 32) (by omega) (by decide) rfl (fun _ _ => vp_in_nI (by omega) (by decide)), fun _ => vp_in_nI (by omega) (by decide), l2, ?_⟩
    show fX8_scalar xS (nI n) = pX11_x_20_S1 zX (nI n)
    unfold pX11_x_20_S1
    rw [h.scalar (by omega), if_pos l1, nI_clamp (by omega)]
  · obtain ⟨l1, l2⟩ := lacks_out hu
    exact Or.inr ⟨or_nlt hu (by decide), fun q => absurd q l1, l2⟩
theorem call_setX {xS zX : Nat → Int32} (h : SX xS zX) (u1 u2 : Int32) : (okX10_setX u1 ∧ okX11_setX u1 ∧ fX11_setX__m_thrown u1 = 0 ∧ SX (fX10_setX__xS xS u1 u2) (fX11_setX__zX zX u1 u2)) ∨ ((u1 < 0 ∨ ¬ u1 < 32) ∧ okX11_setX u1 ∧ fX11_setX__m_thrown u1 = 1 ∧ SX xS (fX11_setX__zX zX u1 u2)) := by
  rcases range_or u1 (M := 31) (by decide) with ⟨n, hn, rfl⟩ | hu
  · obtain ⟨l1, l2⟩ := lacks_in (n := n) (M := 31) hn (by decide)
    have l1 : fX11_lacks (nI n) (31 : Int32) = 0 := l1
    refine Or.inl ⟨ok3 (N := 32) (by omega) (by decide) rfl (fun _ _ => vp_in_nI (by omega) (by decide)), fun _ _ => vp_in_nI (by omega) (by decide), l2, ?_⟩
    have hp := h.put (d := n) (by omega) u2
    have e : fX11_setX__zX zX (nI n) u2 = (if nI n ≤ 0 then zX else upd zX (Int32.toNatClampNeg (nI n)) u2) := by
      unfold fX11_setX__zX
      rw [if_pos l1]
      by_cases q : n = 0
      · subst q; rw [if_pos (by decide), if_pos (by decide)]
      · rw [if_neg (nI_ne0 (by omega) (by omega)), if_neg (nI_nle (by omega) (by omega))]
    rw [e]
    exact hp
  · obtain ⟨l1, l2⟩ := lacks_out hu
    refine Or.inr ⟨or_nlt hu (by decide), fun q => absurd q l1, l2, ?_⟩
    have e : fX11_setX__zX zX u1 u2 = zX := if_neg l1
    rw [e]; exact h
theorem call_v {x z : Nat → Int32} (h : Sy x z) (u1 : Int32) : (okX10_v u1 ∧ okX11_v u1 ∧ fX11_v__m_thrown u1 = 0 ∧ fX10_v x u1 = fX11_v z u1) ∨ ((u1 < 0 ∨ ¬ u1 < 128) ∧ okX11_v u1 ∧ fX11_v__m_thrown u1 = 1) := by
  rcases range_or u1 (M := 127) (by decide) with ⟨n, hn, rfl⟩ | hu
  · obtain ⟨l1, l2⟩ := lacks_in (n := n) (M := 127) hn (by decide)
    have l1 : fX11_lacks (nI n) (127 : Int32) = 0 := l1
    refine Or.inl ⟨ok3 (N := 128) (by omega) (by decide) rfl (vp_in_nI (by omega) (by decide)), fun _ => ok_four (by omega) (by decide), l2, ?_⟩
    show x (Int32.toNatClampNeg (nI n)) = pX11_v_22_S1 z (nI n)
    unfold pX11_v_22_S1
    rw [if_pos l1, nI_clamp (by omega), h.four (by omega)]
  · obtain ⟨l1, l2⟩ := lacks_out hu
    exact Or.inr ⟨or_nlt hu (by decide), fun q => absurd q l1, l2⟩
theorem call_setV {x z : Nat → Int32} (h : Sy x z) (u1 u2 : Int32) : (okX10_setV u1 ∧ okX11_setV z u1 u2 ∧ fX11_setV__m_thrown u1 = 0 ∧ Sy (fX10_setV__xV x u1 u2) (fX11_setV__zV z u1 u2)) ∨ ((u1 < 0 ∨ ¬ u1 < 128) ∧ okX11_setV z u1 u2 ∧ fX11_setV__m_thrown u1 = 1 ∧ Sy x (fX11_setV__zV z u1 u2)) := by
  rcases range_or u1 (M := 127) (by decide) with ⟨n, hn, rfl⟩ | hu
  · obtain ⟨l1, l2⟩ := lacks_in (n := n) (M := 127) hn (by decide)
    have l1 : fX11_lacks (nI n) (127 : Int32) = 0 := l1
    refine Or.inl ⟨ok3 (N := 128) (by omega) (by decide) rfl (vp_in_nI (by omega) (by decide)), fun _ => ok_putFour (by omega) (by decide) _ _, l2, ?_⟩
    have e : fX11_setV__zV z (nI n) u2 = fX11_putFour__zA z (nI n) u2 := if_pos l1
    have e2 : fX10_setV__xV x (nI n) u2 = upd x n u2 := by unfold fX10_setV__xV; rw [nI_clamp (by omega)]
    rw [e, e2]; exact h.setV (by omega) u2
  · obtain ⟨l1, l2⟩ := lacks_out hu
    refine Or.inr ⟨or_nlt hu (by decide), fun q => absurd q l1, l2, ?_⟩
    have e : fX11_setV__zV z u1 u2 = z := if_neg l1
    rw [e]; exact h
theorem call_word {x z : Nat → Int32} (h : SyM x z) (u1 : Int32) : (okX10_word u1 ∧ okX11_word u1 ∧ fX11_word__m_thrown u1 = 0 ∧ fX10_word x u1 = fX11_word z u1) ∨ ((u1 < 0 ∨ ¬ u1 < 256) ∧ okX11_word u1 ∧ fX11_word__m_thrown u1 = 1) := by
  rcases range_or u1 (M := 255) (by decide) with ⟨n, hn, rfl⟩ | hu
  · obtain ⟨l1, l2⟩ := lacks_in (n := n) (M := 255) hn (by decide)
    have l1 : fX11_lacks (nI n) (255 : Int32) = 0 := l1
    refine Or.inl ⟨ok3 (N := 256) (by omega) (by decide) rfl (vp_in_nI (by omega) (by decide)), fun _ => ok_four (by omega) (by decide), l2, ?_⟩
    show x (Int32.toNatClampNeg (nI n)) = pX11_word_23_S1 z (nI n)
    unfold pX11_word_23_S1
    rw [if_pos l1, nI_clamp (by omega), h.four (by omega)]
  · obtain ⟨l1, l2⟩ := lacks_out hu
    exact Or.inr ⟨or_nlt hu (by decide), fun q => absurd q l1, l2⟩
theorem call_setWord {x z : Nat → Int32} (h : SyM x z) (u1 u2 : Int32) : (okX10_setWord u1 ∧ okX11_setWord z u1 u2 ∧ fX11_setWord__m_thrown u1 = 0 ∧ SyM (fX10_setWord__xW x u1 u2) (fX11_setWord__zM z u1 u2)) ∨ ((u1 < 0 ∨ ¬ u1 < 256) ∧ okX11_setWord z u1 u2 ∧ fX11_setWord__m_thrown u1 = 1 ∧ SyM x (fX11_setWord__zM z u1 u2)) := by
  rcases range_or u1 (M := 255) (by decide) with ⟨n, hn, rfl⟩ | hu
  · obtain ⟨l1, l2⟩ := lacks_in (n := n) (M := 255) hn (by decide)
    have l1 : fX11_lacks (nI n) (255 : Int32) = 0 := l1
    refine Or.inl ⟨ok3 (N := 256) (by omega) (by decide) rfl (vp_in_nI (by omega) (by decide)), fun _ => ok_putFour (by omega) (by decide) _ _, l2, ?_⟩
    have e : fX11_setWord__zM z (nI n) u2 = fX11_putFour__zA z (nI n) u2 := if_pos l1
    have e2 : fX10_setWord__xW x (nI n) u2 = upd x n u2 := by unfold fX10_setWord__xW; rw [nI_clamp (by omega)]
    rw [e, e2]; exact h.setW (by omega) u2
  · obtain ⟨l1, l2⟩ := lacks_out hu
    refine Or.inr ⟨or_nlt hu (by decide), fun q => absurd q l1, l2, ?_⟩
    have e : fX11_setWord__zM z u1 u2 = z := if_neg l1
    rw [e]; exact h
theorem call_shut {sp : Int32} {zS : Nat → Int32} (h : SyP sp zS) (u1 : Int32) {u2 : Int32} (hb : u2 = 0 ∨ u2 = 1) : (okX10_shut u1 ∧ okX11_shut u1 ∧ fX11_shut__m_thrown u1 = 0 ∧ SyP (fX10_shut__y_shutPages sp u1 u2) (fX11_shut__zS zS u1 u2)) ∨ ((u1 < 0 ∨ ¬ u1 < 16) ∧ okX11_shut u1 ∧ fX11_shut__m_thrown u1 = 1 ∧ SyP sp (fX11_shut__zS zS u1 u2)) := by
  rcases range_or u1 (M := 15) (by decide) with ⟨n, hn, rfl⟩ | hu
  · obtain ⟨l1, l2⟩ := lacks_in (n := n) (M := 15) hn (by decide)
    have l1 : fX11_lacks (nI n) (15 : Int32) = 0 := l1
    refine Or.inl ⟨⟨fun q => nI_pos (by omega) q, fun _ q => q (nI_lt (b := 16) (by omega) (by decide))⟩, fun _ => vp_in_nI (by omega) (by decide), l2, ?_⟩
    have e : fX11_shut__zS zS (nI n) u2 = upd zS n u2 := by
      unfold fX11_shut__zS
      rw [if_pos l1, nI_clamp (by omega), vp_nar_bool hb]
    rw [e]; exact h.shut (by omega) hb
  · obtain ⟨l1, l2⟩ := lacks_out hu
    refine Or.inr ⟨or_nlt hu (by decide), fun q => absurd q l1, l2, ?_⟩
    have e : fX11_shut__zS zS u1 u2 = zS := if_neg l1
    rw [e]; exact h
theorem call_state {vt tb ts te tm tt tk : Int32} (hT : TI vt tb ts te tm tt tk) (dn il tp ln sr rd sat tr u1 : Int32) : fX10_state dn il tp ln sr rd sat tb tm tr u1 = fX11_state ln vt sr rd sat dn il tp tr u1 ∧ okX11_state vt u1 := by
  refine ⟨?_, fun _ _ _ _ _ _ => ok_most hT.kind⟩
  unfold fX10_state fX11_state
  rw [hT.1, hT.most]
theorem call_setState {a : Int32} (u1 u2 : Int32) : fX10_setState u1 = fX11_setState u1 ∧ (∀ r, (∃ s, r = nI s ∧ s < 128) → ∃ s, fX11_setState__m_vstart r u1 u2 = nI s ∧ s < 128) ∧ (∀ r, (∃ s, r = nI s ∧ s < 4) → ∃ s, fX11_setState__m_vxrm r u1 u2 = nI s ∧ s < 4) := by
  refine ⟨rfl, fun r h => ?_, fun r h => ?_⟩
  · unfold fX11_setState__m_vstart
    by_cases q : u1 = 2
    · rw [if_pos q]; exact (and_small u2).1
    · rw [if_neg q]; exact h
  · unfold fX11_setState__m_vxrm
    by_cases q : u1 = 2
    · rw [if_pos q]; exact h
    · rw [if_neg q]
      by_cases q : u1 = 3
      · rw [if_pos q]; exact (and_small u2).2
      · rw [if_neg q]; exact h
