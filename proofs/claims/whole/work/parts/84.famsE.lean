/-! ===== whole moves, reductions, scalars ===== -/
theorem ok_reduce (k o im : Int32) {L S W d : Nat} (hL : L ≤ 128) (hW : 1 ≤ W) (hW2 : W < 2 ^ 30) (c : Int64) (E : Int32) (x : Nat → Int32) (as mf me : Int32) (ml : Int64) (s1 s2 : Int32) : okX4_reduce k o (nI L) im c (nI S) E x as mf me ml (nI d) s1 s2 (nI W) := by
  unfold okX4_reduce
  rw [← nI_0, cnt_nI (by omega) (by omega), itX4_reduce_98 (b9 := L) _ _ _ _ _ _ _ _ _ _ _ rfl (by omega) (L - 0) 0 (eX4_reduce_94 x s1 (nI W)) (by omega), show 0 + (L - 0) = L by omega]
  refine ⟨fun _ _ _ => ok_el _ _ _, fun _ _ _ => ktX4_reduce_98 (b9 := L) _ _ _ _ _ _ _ _ _ _ _ rfl (by omega) (fun _ _ => True) (fun a w _ _ => ⟨⟨fun _ => ok_act _ _ _ _ _, fun _ _ => ok_el _ _ _⟩, True.intro⟩) (L - 0) 0 _ (by omega) True.intro, fun _ _ _ => ntX4_reduce_98 k o _ im (nI S) x as mf me ml s2 (b9 := L) rfl (by omega) _, fun _ _ _ _ => ok_pt _ _ _, fun h _ _ _ => ?_, fun _ _ _ _ => ok_act _ _ _ _ _, fun _ _ _ _ _ => ok_el _ _ _⟩
  have h32 : W ≤ 32 := by
    refine Classical.byContradiction (fun w => h ?_)
    rw [show (32 : Int32) = nI 32 by decide]; exact nI_lt (by omega) (by omega)
  rw [show fX2_cover__g_registers (8 : Int32) = nI 1 by decide, show (1 : Int32) = nI 1 by decide]
  exact ok_leaveTail _ hW h32 (by decide) (by decide) _ _ _
theorem ok_count (k im : Int32) {L d : Nat} (hL : L ≤ 128) (hd : d < 32) (x : Nat → Int32) (mf me : Int32) (ml : Int64) (s2 : Int32) : okX4_count k (nI L) im x mf me ml (nI d) s2 := by
  unfold okX4_count
  rw [← nI_0, cnt_nI (by omega) (by omega), itX4_count_21 (b9 := L) _ _ _ _ _ _ _ _ rfl (by omega) (L - 0) 0 _ _ (by omega), show 0 + (L - 0) = L by omega]
  exact ⟨ktX4_count_21 (b9 := L) _ _ _ _ _ _ _ _ rfl (by omega) (fun _ _ => True) (fun a w1 w2 _ _ => ⟨⟨fun _ => ok_act _ _ _ _ _, fun _ _ => ok_el _ _ _⟩, True.intro⟩) (L - 0) 0 _ _ (by omega) True.intro, ntX4_count_21 k _ im x mf me ml s2 (b9 := L) rfl (by omega) _ _, fun _ => ok_putScalar d hd, fun _ => ok_act _ _ _ _ _, fun _ _ => ok_el _ _ _⟩
theorem ok_spec {S E L st d s1 s2 : Nat} (hS : okB S) (hd : d < 32) (h1 : s1 < 32) (hL : L ≤ 128) {k F H im tb : Int32} (hk : fX1_kindOf F (nI s1) (nI s2) H im = k) (hks : k = 10 ∨ k = 11 ∨ k = 13 ∨ k = 17 ∨ k = 18) (him : narrow .boolean (.int im) = .int im) (md sat : Int32) (c : Int64) (tm mo : Int32) (xS x : Nat → Int32) (rf re r8 rg : Int32) (rl : Int64) :
    okX4_execute (nI L) (nI st) md sat c tb (nI S) (nI E) tm mo xS x rf re r8 rg rl (nI 0) (nI 1) (nI 1) (fX10_ones (nI 1)) F (nI d) (nI s1) (nI s2) H im := by
  have hle := hS.le
  refine ⟨ok_kind _ _ _ _ _ him, fun _ _ => ⟨him, fun _ => ok_scalar s1 h1⟩, fun _ _ _ => ok_reduce _ _ _ hL (by omega) (by omega) _ _ _ _ _ _ _ _ _, fun _ _ _ _ => ?_, fun _ _ _ _ _ => ok_count _ _ hL hd _ _ _ _ _, fun _ _ _ _ _ _ => ⟨ok_el _ _ _, ok_putScalar d hd⟩, fun _ _ _ _ _ _ _ => ⟨fun _ => ok_pt _ _ _, fun _ => ?_⟩, fun _ _ _ _ _ _ _ => ok_cgs _ _ _, ?_⟩
  · rw [two_nI]; exact ok_reduce _ _ _ hL (by omega) (by omega) _ _ _ _ _ _ _ _ _
  · rw [show fX2_cover__g_registers (8 : Int32) = nI 1 by decide, show (1 : Int32) = nI 1 by decide]
    exact ok_leaveTail _ (by omega) (by omega) (by decide) (by decide) _ _ _
  · rw [hk]
    intro _ _ a b d' e f
    rcases hks with h | h | h | h | h
    · exact absurd h a
    · exact absurd h b
    · exact absurd h d'
    · exact absurd h e
    · exact absurd h f
theorem ill_WO {S E L st d s1 s2 md : Nat} {F H im un tb : Int32} {x z xS zX : Nat → Int32} (h : HY S E L st d s1 s2 md F im un tb x z xS zX) (hk : fX1_kindOf F (nI s1) (nI s2) H im = 0) (vt sat : Int32) (c : Int64) (tm rf re r8 rg : Int32) (rl : Int64) :
    WO (0) (fX4_execute (nI st) tb (nI S) (nI E) rf re r8 rg (nI 0) (nI 1) F (nI d) (nI s1) (nI s2) H im) (fX4_execute__xV (nI L) (nI st) (nI md) sat c tb (nI S) (nI E) tm (fX11_isTailOpen vt) (fX11_isMaskOpen vt) xS x rf re r8 rg rl (nI 0) (nI 1) (nI 1) (fX10_ones (nI 1)) F (nI d) (nI s1) (nI s2) H im) (z) (fX4_execute__r_saturated (nI L) (nI st) (nI md) sat c tb (nI S) (nI E) tm (fX11_isMaskOpen vt) xS x rf re r8 rg rl (nI 0) (nI 1) (nI 1) (fX10_ones (nI 1)) F (nI d) (nI s1) (nI s2) H im) (sat) (fX4_execute__xS (nI L) (nI st) tb (nI S) xS x (nI 0) (nI 1) (fX10_ones (nI 1)) F (nI d) (nI s1) (nI s2) H im) (zX) ∧ okX4_execute (nI L) (nI st) (nI md) sat c tb (nI S) (nI E) tm (fX11_isMaskOpen vt) xS x rf re r8 rg rl (nI 0) (nI 1) (nI 1) (fX10_ones (nI 1)) F (nI d) (nI s1) (nI s2) H im := by
  obtain ⟨hp, hS, hSe, h2e, hd, h1, h2, hLM, hL, hst, hmd, hF, hmu, hill, him, h0, hX, hreg, hE⟩ := h
  refine ⟨?_, ok_kind _ _ _ _ _ him, fun w => absurd hk w, fun w => absurd hk w, fun w => absurd hk w, fun w => absurd hk w, fun w => absurd hk w, fun w => absurd hk w, fun w => absurd hk w, fun w => absurd hk w⟩
  unfold fX4_execute fX4_execute__xV fX4_execute__r_saturated fX4_execute__xS
  rw [if_pos hk, if_pos hk, if_pos hk, if_pos hk]
  exact ⟨by decide, h0, rfl, hX⟩
theorem reduces_WO {S E L st d s1 s2 md : Nat} {F H im un tb : Int32} {x z xS zX : Nat → Int32} (h : HY S E L st d s1 s2 md F im un tb x z xS zX) {W : Nat} {kd u2 p u3 : Int32} (hkd : (kd = 10 ∧ W = S ∧ u2 = 0) ∨ (kd = 11 ∧ W = 2 * S ∧ u2 = 1)) (hR : okR S W (fX3_operation F H) p u2 u3) (hk : fX1_kindOf F (nI s1) (nI s2) H im = kd) (vt sat : Int32) (c : Int64) (tm rf re r8 rg : Int32) (rl : Int64) :
    WO (fX11_reduces (nI st) (nI s2) (nI S) (nI E) u2) (fX4_execute (nI st) tb (nI S) (nI E) rf re r8 rg (nI 0) (nI 1) F (nI d) (nI s1) (nI s2) H im) (fX4_execute__xV (nI L) (nI st) (nI md) sat c tb (nI S) (nI E) tm (fX11_isTailOpen vt) (fX11_isMaskOpen vt) xS x rf re r8 rg rl (nI 0) (nI 1) (nI 1) (fX10_ones (nI 1)) F (nI d) (nI s1) (nI s2) H im) (fX11_reduces__zV c (nI L) vt (nI st) (nI md) sat (nI d) (nI s1) (nI s2) (nI S) (nI E) un z z p u2 u3) (fX4_execute__r_saturated (nI L) (nI st) (nI md) sat c tb (nI S) (nI E) tm (fX11_isMaskOpen vt) xS x rf re r8 rg rl (nI 0) (nI 1) (nI 1) (fX10_ones (nI 1)) F (nI d) (nI s1) (nI s2) H im) (fX11_reduces__m_vxsat (nI L) (nI st) (nI md) sat (nI s1) (nI s2) (nI S) (nI E) un z p u2 u3) (fX4_execute__xS (nI L) (nI st) tb (nI S) xS x (nI 0) (nI 1) (fX10_ones (nI 1)) F (nI d) (nI s1) (nI s2) H im) (zX) ∧ okX4_execute (nI L) (nI st) (nI md) sat c tb (nI S) (nI E) tm (fX11_isMaskOpen vt) xS x rf re r8 rg rl (nI 0) (nI 1) (nI 1) (fX10_ones (nI 1)) F (nI d) (nI s1) (nI s2) H im := by
  obtain ⟨hp, hS, hSe, h2e, hd, h1, h2, hLM, hL, hst, hmd, hF, hmu, hill, him, h0, hX, hreg, hE⟩ := h
  have hle := hS.le
  have hW : pX11_reduces_17_S1 (nI S) u2 = nI W := by
    unfold pX11_reduces_17_S1
    rcases hkd with ⟨_, e, u⟩ | ⟨_, e, u⟩
    · rw [u, e, if_pos rfl]
    · rw [u, e, if_neg (by decide), two_nI]
  refine ⟨?_, ok_spec hS hd h1 hL hk (by rcases hkd with h | h; exact Or.inl h.1; exact Or.inr (Or.inl h.1)) him _ _ _ _ _ _ _ _ _ _ _ _⟩
  by_cases hz : st = 0
  case neg =>
    have z0 : ¬ nI st = 0 := nI_ne0 (by omega) (by omega)
    obtain ⟨e1, e2, e3, e4⟩ := ex_zero (L := L) (S := nI S) (E := nI E) (d := nI d) (tb := tb) hk z0 (by rcases hkd with h | h <;> rw [h.1] <;> decide) (nI md) sat c tm (fX11_isTailOpen vt) (fX11_isMaskOpen vt) xS x rf re r8 rg rl
    rw [e1, e2, e3, e4]
    unfold fX11_reduces fX11_reduces__zV fX11_reduces__m_vxsat
    rw [if_neg z0, if_neg z0, if_neg z0, ite_self, ite_self, ite_self, ite_self, ite_self, ite_self]
    exact ⟨by decide, h0, rfl, hX⟩
  have z0 : nI st = 0 := by rw [hz]; decide
  have E0 : fX4_execute (nI st) tb (nI S) (nI E) rf re r8 rg (nI 0) (nI 1) F (nI d) (nI s1) (nI s2) H im = fX4_reduce (nI S) (nI E) (nI s2) (nI W) ∧ fX4_execute__xV (nI L) (nI st) (nI md) sat c tb (nI S) (nI E) tm (fX11_isTailOpen vt) (fX11_isMaskOpen vt) xS x rf re r8 rg rl (nI 0) (nI 1) (nI 1) (fX10_ones (nI 1)) F (nI d) (nI s1) (nI s2) H im = fX4_reduce__xV kd (fX3_operation F H) (nI L) im c (nI S) (nI E) (fX11_isTailOpen vt) x (nI S) (nI 0) (nI 1) (fX10_ones (nI 1)) (nI d) (nI s1) (nI s2) (nI W) ∧ fX4_execute__r_saturated (nI L) (nI st) (nI md) sat c tb (nI S) (nI E) tm (fX11_isMaskOpen vt) xS x rf re r8 rg rl (nI 0) (nI 1) (nI 1) (fX10_ones (nI 1)) F (nI d) (nI s1) (nI s2) H im = sat ∧ fX4_execute__xS (nI L) (nI st) tb (nI S) xS x (nI 0) (nI 1) (fX10_ones (nI 1)) F (nI d) (nI s1) (nI s2) H im = xS := by
    unfold fX4_execute fX4_execute__xV fX4_execute__r_saturated fX4_execute__xS rX4_execute_47 rX4_execute_47__xV rX4_execute_47__r_saturated rX4_execute_47__xS
    rcases hkd with ⟨e, w, _⟩ | ⟨e, w, _⟩
    · rw [e] at hk ⊢
      rw [w]
      simp only [hk, if_neg (show ¬ (10 : Int32) = 0 by decide), if_pos hill, if_pos z0, if_true]
      exact ⟨trivial, rfl, trivial, trivial⟩
    · rw [e] at hk ⊢
      rw [w, ← two_nI]
      simp only [hk, if_neg (show ¬ (11 : Int32) = 0 by decide), if_neg (show ¬ (11 : Int32) = 10 by decide), if_pos hill, if_pos z0, if_true]
      exact ⟨trivial, rfl, trivial, trivial⟩
  obtain ⟨e1, e2, e3, e4⟩ := E0
  rw [e1, e2, e3, e4]
  have hlg : fX2_isLegal (fX2_cover__g_first (nI s2)) (fX2_cover__g_eew (nI S)) (fX2_cover__g_eighths (nI E)) (fX2_cover__g_registers (nI E)) = fX11_isGroup (nI S) (nI E) (nI s2) (nI S) := by
    have h1 := (G2 hp hSe h2).1
    have h3 := (G1 hp hSe).2.2.1
    rw [hE] at h1 h3
    unfold fX2_cover__g_first fX2_cover__g_eew fX2_cover__g_eighths
    rw [h3, h1, (G2 hp hSe h2).2]
  by_cases q1 : (32 : Int32) < nI W
  · unfold fX4_reduce fX4_reduce__xV fX11_reduces fX11_reduces__zV fX11_reduces__m_vxsat
    rw [hW, if_pos q1, if_pos q1, if_pos q1, if_pos q1, if_pos q1]
    exact ⟨by decide, h0, rfl, hX⟩
  by_cases q2 : fX11_isGroup (nI S) (nI E) (nI s2) (nI S) = 0
  · unfold fX4_reduce fX4_reduce__xV fX11_reduces fX11_reduces__zV fX11_reduces__m_vxsat
    rw [hlg, hW, if_neg q1, if_neg q1, if_neg q1, if_neg q1, if_neg q1, if_pos q2, if_pos q2, if_pos q2, if_pos q2, if_pos q2]
    exact ⟨by decide, h0, rfl, hX⟩
  have q2' : ¬ fX2_isLegal (fX2_cover__g_first (nI s2)) (fX2_cover__g_eew (nI S)) (fX2_cover__g_eighths (nI E)) (fX2_cover__g_registers (nI E)) = 0 := by rw [hlg]; exact q2
  have hWB : okB W := by
    have h32 : W ≤ 32 := by
      refine Classical.byContradiction (fun w => q1 ?_)
      rw [show (32 : Int32) = nI 32 by decide]; exact nI_lt (by omega) (by omega)
    unfold okB at hS ⊢
    omega
  have q3 := (legal_iff hp hSe h2).mp q2
  obtain ⟨b1, b2, b3, b4, _⟩ := geo_d hp hSe h2 hLM q3
  obtain ⟨r1, r2⟩ := reduces_fam (vt := vt) (c := c) (md := md) (kd := kd) (un := un) (isM := im) hS hWB h0 hd h1 b1 b4 hL (by rcases hkd with h | h; exact Or.inl h.1; exact Or.inr h.1) hR hmu sat q2' q2
  subst hz
  refine ⟨?_, r1, r2.symm, hX⟩
  unfold fX4_reduce fX11_reduces
  rw [hlg, hW, if_neg q1, if_neg q1, if_neg q2, if_neg q2, if_pos z0]
  decide
theorem read_WO {S E L st d s1 s2 md : Nat} {F H im un tb : Int32} {x z xS zX : Nat → Int32} (h : HY S E L st d s1 s2 md F im un tb x z xS zX) (hun : ¬ un = 0) (hs1 : s1 = 0) (hk : fX1_kindOf F (nI s1) (nI s2) H im = 17) (vt sat : Int32) (c : Int64) (tm rf re r8 rg : Int32) (rl : Int64) :
    WO (fX11_toX (nI st) (nI s1) un) (fX4_execute (nI st) tb (nI S) (nI E) rf re r8 rg (nI 0) (nI 1) F (nI d) (nI s1) (nI s2) H im) (fX4_execute__xV (nI L) (nI st) (nI md) sat c tb (nI S) (nI E) tm (fX11_isTailOpen vt) (fX11_isMaskOpen vt) xS x rf re r8 rg rl (nI 0) (nI 1) (nI 1) (fX10_ones (nI 1)) F (nI d) (nI s1) (nI s2) H im) (z) (fX4_execute__r_saturated (nI L) (nI st) (nI md) sat c tb (nI S) (nI E) tm (fX11_isMaskOpen vt) xS x rf re r8 rg rl (nI 0) (nI 1) (nI 1) (fX10_ones (nI 1)) F (nI d) (nI s1) (nI s2) H im) (sat) (fX4_execute__xS (nI L) (nI st) tb (nI S) xS x (nI 0) (nI 1) (fX10_ones (nI 1)) F (nI d) (nI s1) (nI s2) H im) (fX11_toX__zX (nI L) (nI st) (nI d) (nI s1) (nI s2) (nI S) un zX z) ∧ okX4_execute (nI L) (nI st) (nI md) sat c tb (nI S) (nI E) tm (fX11_isMaskOpen vt) xS x rf re r8 rg rl (nI 0) (nI 1) (nI 1) (fX10_ones (nI 1)) F (nI d) (nI s1) (nI s2) H im := by
  obtain ⟨hp, hS, hSe, h2e, hd, h1, h2, hLM, hL, hst, hmd, hF, hmu, hill, him, h0, hX, hreg, hE⟩ := h
  refine ⟨?_, ok_spec hS hd h1 hL hk (by decide) him _ _ _ _ _ _ _ _ _ _ _ _⟩
  have hz' : ∀ {α : Type} (X Y : α), (if nI st = 0 then X else (if fX4_startsAtZero 17 = 0 then X else Y)) = X := by
    intro α X Y
    rw [if_pos (show fX4_startsAtZero 17 = 0 by decide), ite_self]
  unfold fX4_execute fX4_execute__xV fX4_execute__r_saturated fX4_execute__xS rX4_execute_47 rX4_execute_47__xV rX4_execute_47__r_saturated rX4_execute_47__xS
  simp only [hk, if_neg (show ¬ (17 : Int32) = 0 by decide), if_neg (show ¬ (17 : Int32) = 10 by decide), if_neg (show ¬ (17 : Int32) = 11 by decide), if_neg (show ¬ (17 : Int32) = 13 by decide), if_pos hill, hz', if_true]
  have e : nI s1 = 0 := by rw [hs1]; decide
  refine ⟨?_, h0, rfl, ?_⟩
  · unfold fX11_toX
    rw [if_pos e, if_neg hun]; decide
  · have h := readScalar_fam (vl := nI L) (st := nI st) hS h0 hX hd h2 hun
    rw [hs1]; exact h
theorem count_WO {S E L st d s1 s2 md : Nat} {F H im un tb : Int32} {x z xS zX : Nat → Int32} (h : HY S E L st d s1 s2 md F im un tb x z xS zX) (hs1 : s1 = 16 ∨ s1 = 17) (hk : fX1_kindOf F (nI s1) (nI s2) H im = 13) (vt sat : Int32) (c : Int64) (tm rf re r8 rg : Int32) (rl : Int64) :
    WO (fX11_toX (nI st) (nI s1) un) (fX4_execute (nI st) tb (nI S) (nI E) rf re r8 rg (nI 0) (nI 1) F (nI d) (nI s1) (nI s2) H im) (fX4_execute__xV (nI L) (nI st) (nI md) sat c tb (nI S) (nI E) tm (fX11_isTailOpen vt) (fX11_isMaskOpen vt) xS x rf re r8 rg rl (nI 0) (nI 1) (nI 1) (fX10_ones (nI 1)) F (nI d) (nI s1) (nI s2) H im) (z) (fX4_execute__r_saturated (nI L) (nI st) (nI md) sat c tb (nI S) (nI E) tm (fX11_isMaskOpen vt) xS x rf re r8 rg rl (nI 0) (nI 1) (nI 1) (fX10_ones (nI 1)) F (nI d) (nI s1) (nI s2) H im) (sat) (fX4_execute__xS (nI L) (nI st) tb (nI S) xS x (nI 0) (nI 1) (fX10_ones (nI 1)) F (nI d) (nI s1) (nI s2) H im) (fX11_toX__zX (nI L) (nI st) (nI d) (nI s1) (nI s2) (nI S) un zX z) ∧ okX4_execute (nI L) (nI st) (nI md) sat c tb (nI S) (nI E) tm (fX11_isMaskOpen vt) xS x rf re r8 rg rl (nI 0) (nI 1) (nI 1) (fX10_ones (nI 1)) F (nI d) (nI s1) (nI s2) H im := by
  obtain ⟨hp, hS, hSe, h2e, hd, h1, h2, hLM, hL, hst, hmd, hF, hmu, hill, him, h0, hX, hreg, hE⟩ := h
  refine ⟨?_, ok_spec hS hd h1 hL hk (by decide) him _ _ _ _ _ _ _ _ _ _ _ _⟩
  have n0 : ¬ nI s1 = 0 := nI_ne0 (by omega) (by omega)
  have hsel : ∀ {α : Type} (X Y : α), (if nI s1 = 16 then X else (if nI s1 = 17 then X else Y)) = X := by
    intro α X Y
    rcases hs1 with h | h
    · rw [if_pos (by rw [h]; decide)]
    · rw [if_pos (show nI s1 = 17 by rw [h]; decide), ite_self]
  by_cases hz : st = 0
  case neg =>
    have z0 : ¬ nI st = 0 := nI_ne0 (by omega) (by omega)
    obtain ⟨e1, e2, e3, e4⟩ := ex_zero (L := L) (S := nI S) (E := nI E) (d := nI d) (tb := tb) hk z0 (by decide) (nI md) sat c tm (fX11_isTailOpen vt) (fX11_isMaskOpen vt) xS x rf re r8 rg rl
    rw [e1, e2, e3, e4]
    unfold fX11_toX fX11_toX__zX
    rw [if_neg n0, if_neg n0, if_neg z0, if_neg z0, hsel, hsel]
    exact ⟨by decide, h0, rfl, hX⟩
  have z0 : nI st = 0 := by rw [hz]; decide
  unfold fX4_execute fX4_execute__xV fX4_execute__r_saturated fX4_execute__xS rX4_execute_47 rX4_execute_47__xV rX4_execute_47__r_saturated rX4_execute_47__xS
  simp only [hk, if_neg (show ¬ (13 : Int32) = 0 by decide), if_neg (show ¬ (13 : Int32) = 10 by decide), if_neg (show ¬ (13 : Int32) = 11 by decide), if_pos hill, if_pos z0, if_true]
  subst hz
  refine ⟨?_, h0, rfl, ?_⟩
  · unfold fX11_toX
    rw [if_neg n0, if_pos z0, hsel]; decide
  · exact count_fam h0 hX hd h2 hs1 hL hmu
theorem write_WO {S E L st d s1 s2 md : Nat} {F H im un tb : Int32} {x z xS zX : Nat → Int32} (h : HY S E L st d s1 s2 md F im un tb x z xS zX) (hun : ¬ un = 0) (hs2 : s2 = 0) (hF6 : F = 6) (hk : fX1_kindOf F (nI s1) (nI s2) H im = 18) (vt sat : Int32) (c : Int64) (tm rf re r8 rg : Int32) (rl : Int64) :
    WO (fX11_fromX (nI s2) un) (fX4_execute (nI st) tb (nI S) (nI E) rf re r8 rg (nI 0) (nI 1) F (nI d) (nI s1) (nI s2) H im) (fX4_execute__xV (nI L) (nI st) (nI md) sat c tb (nI S) (nI E) tm (fX11_isTailOpen vt) (fX11_isMaskOpen vt) xS x rf re r8 rg rl (nI 0) (nI 1) (nI 1) (fX10_ones (nI 1)) F (nI d) (nI s1) (nI s2) H im) (fX11_fromX__zV c (nI L) vt (nI st) (nI d) (nI s1) (nI s2) (nI S) un zX z) (fX4_execute__r_saturated (nI L) (nI st) (nI md) sat c tb (nI S) (nI E) tm (fX11_isMaskOpen vt) xS x rf re r8 rg rl (nI 0) (nI 1) (nI 1) (fX10_ones (nI 1)) F (nI d) (nI s1) (nI s2) H im) (sat) (fX4_execute__xS (nI L) (nI st) tb (nI S) xS x (nI 0) (nI 1) (fX10_ones (nI 1)) F (nI d) (nI s1) (nI s2) H im) (zX) ∧ okX4_execute (nI L) (nI st) (nI md) sat c tb (nI S) (nI E) tm (fX11_isMaskOpen vt) xS x rf re r8 rg rl (nI 0) (nI 1) (nI 1) (fX10_ones (nI 1)) F (nI d) (nI s1) (nI s2) H im := by
  obtain ⟨hp, hS, hSe, h2e, hd, h1, h2, hLM, hL, hst, hmd, hF, hmu, hill, him, h0, hX, hreg, hE⟩ := h
  refine ⟨?_, ok_spec hS hd h1 hL hk (by decide) him _ _ _ _ _ _ _ _ _ _ _ _⟩
  have hz' : ∀ {α : Type} (X Y : α), (if nI st = 0 then X else (if fX4_startsAtZero 18 = 0 then X else Y)) = X := by
    intro α X Y
    rw [if_pos (show fX4_startsAtZero 18 = 0 by decide), ite_self]
  unfold fX4_execute fX4_execute__xV fX4_execute__r_saturated fX4_execute__xS rX4_execute_47 rX4_execute_47__xV rX4_execute_47__r_saturated rX4_execute_47__xS
  simp only [hk, if_neg (show ¬ (18 : Int32) = 0 by decide), if_neg (show ¬ (18 : Int32) = 10 by decide), if_neg (show ¬ (18 : Int32) = 11 by decide), if_neg (show ¬ (18 : Int32) = 13 by decide), if_neg (show ¬ (18 : Int32) = 17 by decide), if_pos hill, hz', if_true]
  have e : nI s2 = 0 := by rw [hs2]; decide
  refine ⟨?_, ?_, rfl, hX⟩
  · unfold fX11_fromX
    rw [if_neg hun, if_pos e]; decide
  · have h := writeScalar_fam (c := c) (vt := vt) (un := un) hS h0 hX hd h1 (show L < 2 ^ 31 by omega) (show st < 2 ^ 31 by omega) hun
    subst hF6
    rw [hs2]; exact h
