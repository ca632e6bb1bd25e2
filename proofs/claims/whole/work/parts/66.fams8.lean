/-! ===== families: reductions, scalars ===== -/
/-- what the lowest W bits decide -/
theorem agr_mod {W : Nat} (hW : W ≤ 64) {n m : Nat} : (∀ j, j < W → lb (lN n) j = lb (lN m) j) ↔ n % 2 ^ W = m % 2 ^ W := by
  constructor
  · intro h
    refine Nat.eq_of_testBit_eq (fun j => ?_)
    rw [Nat.testBit_mod_two_pow, Nat.testBit_mod_two_pow]
    by_cases q : j < W
    · have := h j q
      rw [lb_lN _ (by omega), lb_lN _ (by omega)] at this
      rw [this]
    · simp [q]
  · intro h j hj
    rw [lb_lN _ (by omega), lb_lN _ (by omega)]
    have := congrArg (fun y => Nat.testBit y j) h
    simpa [Nat.testBit_mod_two_pow, hj] using this
theorem add_low {W : Nat} (hW : W ≤ 64) {a b c d : Int64} (h1 : ∀ j, j < W → lb a j = lb b j) (h2 : ∀ j, j < W → lb c j = lb d j) : ∀ j, j < W → lb (a + c) j = lb (b + d) j := by
  obtain ⟨A, hA, rfl⟩ := lN_of a
  obtain ⟨B, hB, rfl⟩ := lN_of b
  obtain ⟨C, hC, rfl⟩ := lN_of c
  obtain ⟨D, hD, rfl⟩ := lN_of d
  rw [lN_add, lN_add]
  refine (agr_mod hW).mpr ?_
  rw [Nat.add_mod, (agr_mod hW).mp h1, (agr_mod hW).mp h2, ← Nat.add_mod]
theorem signed_low {S : Nat} (hS : okB S) {a b : Int64} (h : ∀ j, j < S → lb a j = lb b j) : fX10_signed a (nI S) = fX10_signed b (nI S) := by
  have hle := hS.le
  have hk : (64 : Int32) - nI S = nI (64 - S) := by rcases hS with rfl | rfl | rfl <;> decide
  unfold fX10_signed
  rw [hk]
  have e : lshl a (nI (64 - S)) = lshl b (nI (64 - S)) := by
    refine l_ext (fun j hj => ?_)
    rw [l_shl _ (by omega) _ hj, l_shl _ (by omega) _ hj]
    by_cases q : 64 - S ≤ j
    · rw [h _ (by omega)]
    · simp [q]
  rw [e]
theorem low_ext {W : Nat} {a b : Int64} (ha : low W a) (hb : low W b) (h : ∀ j, j < W → lb a j = lb b j) : a = b := by
  refine l_ext (fun j _ => ?_)
  rcases Nat.lt_or_ge j W with q | q
  · exact h j q
  · rw [ha j q, hb j q]
theorem cut_low (a : Int64) {W : Nat} (hW : okB W) : ∀ j, j < W → lb (fX11_cut a (nI W)) j = lb a j := by
  intro j hj
  rw [cut_eq a hW, l_and, l_onesE hW.E (by have := hW.le; omega)]
  simp [hj]
def redT : List (Int32 × Int32) := [(64, 0), (65, 3), (66, 4), (67, 5), (68, 6), (69, 7), (70, 8), (71, 9)]
/-- one step of a reduction -/
theorem red_step {S : Nat} (hS : okB S) {md : Nat} {T r a : Int64} {o p : Int32} (hop : (o, p) ∈ redT) (hr : low S r) (ha : low S a) (h : ∀ j, j < S → lb T j = lb r j) (hx : o = 68 ∨ o = 70 → T = r) :
    (∀ j, j < S → lb (fX0_reduced (nI S) o T a) j = lb (fX11_cut (fX11_made (nI md) p r a 0 (nI S)) (nI S)) j) ∧ (o = 68 ∨ o = 70 → fX0_reduced (nI S) o T a = fX11_cut (fX11_made (nI md) p r a 0 (nI S)) (nI S)) := by
  have hle := hS.le
  have hsg := signed_low hS h
  have hmn : low S (kmin r a) := by unfold kmin; split <;> assumption
  have hmx : low S (kmax r a) := by unfold kmax; split <;> assumption
  simp only [redT, List.mem_cons, Prod.mk.injEq, List.not_mem_nil, or_false] at hop
  rcases hop with q | q | q | q | q | q | q | q <;> obtain ⟨rfl, rfl⟩ := q
  · refine ⟨fun j hj => ?_, fun w => absurd w (by decide)⟩
    rw [cut_low _ hS j hj]
    simp (decide := true) only [fX0_reduced, fX11_made, if_true, if_false]
    exact add_low (by omega) h (fun _ _ => rfl) j hj
  · refine ⟨fun j hj => ?_, fun w => absurd w (by decide)⟩
    rw [cut_low _ hS j hj]
    simp (decide := true) only [fX0_reduced, fX11_made, if_true, if_false]
    rw [l_and, l_and, h j hj]
  · refine ⟨fun j hj => ?_, fun w => absurd w (by decide)⟩
    rw [cut_low _ hS j hj]
    simp (decide := true) only [fX0_reduced, fX11_made, if_true, if_false]
    rw [l_or, l_or, h j hj]
  · refine ⟨fun j hj => ?_, fun w => absurd w (by decide)⟩
    rw [cut_low _ hS j hj]
    simp (decide := true) only [fX0_reduced, fX11_made, if_true, if_false]
    rw [l_xor, l_xor, h j hj]
  · have e : fX0_reduced (nI S) 68 T a = fX11_cut (fX11_made (nI md) 6 r a 0 (nI S)) (nI S) := by
      rw [hx (Or.inl rfl)]
      simp (decide := true) only [fX0_reduced, fX11_made, if_true, if_false]
      exact low_ext hmn (low_cut _ hS) (fun j hj => (cut_low _ hS j hj).symm)
    exact ⟨fun j _ => by rw [e], fun _ => e⟩
  · refine ⟨fun j hj => ?_, fun w => absurd w (by decide)⟩
    rw [cut_low _ hS j hj]
    simp (decide := true) only [fX0_reduced, fX11_made, if_true, if_false, signed_eq]
    rw [hsg]
  · have e : fX0_reduced (nI S) 70 T a = fX11_cut (fX11_made (nI md) 8 r a 0 (nI S)) (nI S) := by
      rw [hx (Or.inr rfl)]
      simp (decide := true) only [fX0_reduced, fX11_made, if_true, if_false]
      exact low_ext hmx (low_cut _ hS) (fun j hj => (cut_low _ hS j hj).symm)
    exact ⟨fun j _ => by rw [e], fun _ => e⟩
  · refine ⟨fun j hj => ?_, fun w => absurd w (by decide)⟩
    rw [cut_low _ hS j hj]
    simp (decide := true) only [fX0_reduced, fX11_made, if_true, if_false, signed_eq]
    rw [hsg]
theorem red_sat {md sat : Int32} {o p : Int32} (hop : (o, p) ∈ redT) (a b : Int64) (w : Int32) : fX11_made__m_vxsat md sat p a b w = sat := by
  simp only [redT, List.mem_cons, Prod.mk.injEq, List.not_mem_nil, or_false] at hop
  rcases hop with q | q | q | q | q | q | q | q <;> obtain ⟨rfl, rfl⟩ := q <;> simp (decide := true) only [fX11_made__m_vxsat, if_true, if_false]
/-- which reductions: (W, o, p, u2, u3) -/
def okR (S W : Nat) (o p u2 u3 : Int32) : Prop := (W = S ∧ u2 = 0 ∧ (o, p) ∈ redT) ∨ (W = 2 * S ∧ u2 = 1 ∧ p = 0 ∧ ((o = 48 ∧ u3 = 0) ∨ (o = 49 ∧ u3 = 1)))
theorem okR.w {S W : Nat} {o p u2 u3 : Int32} (h : okR S W o p u2 u3) : pX11_reduces_17_S1 (nI S) u2 = nI W := by
  rcases h with ⟨rfl, rfl, _⟩ | ⟨rfl, rfl, _⟩
  · rfl
  · unfold pX11_reduces_17_S1
    rw [if_neg (by decide)]; exact two_S
theorem reduces_fam {S W g d s1 s2 vl md e8 : Nat} (hS : okB S) (hW : okB W) {x z : Nat → Int32} (h0 : Sy x z) (hd : d < 32) (h1 : s1 < 32) (hsg : s2 + g ≤ 32) (hvl : vl * S ≤ g * 128) (hv128 : vl ≤ 128) {isM un o p u2 u3 kd : Int32} {vt : Int32} {c : Int64} (hk : kd = 10 ∨ kd = 11) (hR : okR S W o p u2 u3) (hmu : isM = 0 ↔ ¬ un = 0) (sat : Int32) {E : Int32} (hC : ¬ fX2_isLegal (fX2_cover__g_first (nI s2)) (fX2_cover__g_eew (nI S)) (fX2_cover__g_eighths E) (fX2_cover__g_registers E) = 0) (hL : ¬ fX11_isGroup (nI S) (nI e8) (nI s2) (nI S) = 0) :
    Sy (fX4_reduce__xV kd o (nI vl) isM c (nI S) E (fX11_isTailOpen vt) x (nI S) (nI 0) (nI 1) (fX10_ones (nI 1)) (nI d) (nI s1) (nI s2) (nI W)) (fX11_reduces__zV c (nI vl) vt (nI 0) (nI md) sat (nI d) (nI s1) (nI s2) (nI S) (nI e8) un z z p u2 u3) ∧
    fX11_reduces__m_vxsat (nI vl) (nI 0) (nI md) sat (nI s1) (nI s2) (nI S) (nI e8) un z p u2 u3 = sat := by
  have hle := hS.le
  have hWle := hW.le
  have hw := hR.w
  have h32 : ¬ (32 : Int32) < nI W := nI_nlt (a := 32) hWle.2 (by decide)
  unfold fX4_reduce__xV fX11_reduces__zV fX11_reduces__m_vxsat
  rw [hw, if_neg h32, if_neg h32, if_neg h32, if_neg hC, if_neg hL, if_neg hL, if_pos nI_0, if_pos nI_0]
  rcases Nat.eq_zero_or_pos vl with q | q
  · subst q
    have hg := (goes_eq (vl := 0) (st := 0) (by omega) (by omega)).mpr (Nat.le_refl 0)
    rw [if_pos nI_0, if_pos hg, if_pos hg]
    exact ⟨h0, rfl⟩
  · have hg : ¬ fX11_goes (nI vl) (nI 0) = 0 := fun w => absurd ((goes_eq (vl := vl) (st := 0) (by omega) (by omega)).mp w) (by omega)
    rw [if_neg (nI_ne0 q (by omega)), if_neg hg, if_neg hg]
    rw [← nI_0, cnt_nI (by omega) (by omega), itX4_reduce_98 (b9 := vl) _ _ _ _ _ _ _ _ _ _ _ rfl (by omega) (vl - 0) 0 _ (by omega), itX11_reduces_75 (b9 := vl) _ _ _ _ _ _ _ _ _ rfl (by omega) (vl - 0) 0 _ sat (by omega)]
    have key := itr_rel (fun _ s t => (∀ j, j < W → lb s j = lb t.1 j) ∧ low W t.1 ∧ (o = 68 ∨ o = 70 → s = t.1) ∧ t.2 = sat) (fun k s => pX4_reduce_138_L3 kd o isM (nI S) x (nI S) (nI 0) (nI 1) (fX10_ones (nI 1)) (nI s2) (nI k) s) (fun k s => ((pX11_reduces_155_L5 (nI md) (nI s2) (nI S) un z p u2 u3 (nI k) s.1), (pX11_reduces_155_m_vxsat (nI md) (nI s2) (nI S) un z p u2 u3 (nI k) s.1 s.2))) (vl - 0) 0 (eX4_reduce_94 x (nI s1) (nI W)) ((fX11_get z (nI s1) (nI W) (nI 0)), sat) (by
      intro i s t hi1 hi2 ⟨k1, k2, k3, k4⟩
      obtain ⟨tr, ts⟩ := t
      dsimp only at k1 k2 k3 k4 ⊢
      subst k4
      have hiS : i * S + S ≤ g * 128 := mul_in (show i < vl by omega) hvl
      have ha := act_eq (Iv.start (D := 0) (w := 0) (st := i) h0) (kd := kd) (isM := isM) (un := un) (by rcases hk with rfl | rfl <;> decide) hmu (by omega) (fun _ => by omega)
      have e3 := h0.el (r := s2) (e := S) (i := i) hS (by omega)
      have hlow := low_get z h0.1 hS (r := s2) (i := i) (by omega) (by omega)
      unfold pX4_reduce_138_L3 pX11_reduces_155_L5 pX11_reduces_155_m_vxsat eX4_reduce_137 eX11_reduces_153
      rw [ha, hw]
      unfold fX2_cover__g_first fX2_cover__g_eew fX2_cover__g_full
      rw [e3]
      by_cases qa : fX11_isActive un z (nI i) = 0
      · simp only [if_pos qa]
        exact ⟨k1, k2, k3, trivial⟩
      · simp only [if_neg qa]
        rcases hR with ⟨rfl, rfl, hop⟩ | ⟨rfl, rfl, rfl, hop⟩
        · unfold pX11_reduces_136_L8
          rw [if_pos rfl]
          obtain ⟨m1, m2⟩ := red_step (md := md) hS hop k2 hlow k1 k3
          exact ⟨m1, low_cut _ hS, m2, red_sat hop _ _ _⟩
        · refine ⟨fun j hj => ?_, low_cut _ hW, ?_, ?_⟩
          · rw [cut_low _ hW j hj]
            unfold pX11_reduces_136_L8 eX11_reduces_134
            rcases hop with ⟨rfl, rfl⟩ | ⟨rfl, rfl⟩
            · simp (decide := true) only [fX0_reduced, fX11_made, if_true, if_false]
              exact add_low (by omega) k1 (fun _ _ => rfl) j hj
            · simp (decide := true) only [fX0_reduced, fX11_made, if_true, if_false, hw, signed_eq]
              exact add_low (by omega) k1 (fun j hj => (cut_low _ hW j hj).symm) j hj
          · rcases hop with ⟨rfl, rfl⟩ | ⟨rfl, rfl⟩ <;> exact fun w => absurd w (by decide)
          · simp (decide := true) only [fX11_made__m_vxsat, if_true, if_false]) ⟨fun j hj => by
            unfold eX4_reduce_94 fX2_cover__g_first fX2_cover__g_eew fX2_cover__g_full
            rw [← nI_0, h0.el (r := s1) (e := W) (i := 0) hW (by omega)], low_get z h0.1 hW (by omega) (by omega), fun _ => by
            unfold eX4_reduce_94 fX2_cover__g_first fX2_cover__g_eew fX2_cover__g_full
            rw [← nI_0, h0.el (r := s1) (e := W) (i := 0) hW (by omega)], rfl⟩
    obtain ⟨k1, k2, k3, k4⟩ := key
    refine ⟨?_, k4⟩
    unfold fX2_cover__g_first fX2_cover__g_eew fX2_cover__g_full
    exact (h0.put (r := d) (e := W) (i := 0) hW (by omega) k1).tail (r := d) (e := W) (g := 1) (e8 := 8) (k := 1) hW (by decide) (by decide) (by omega) (by decide) c rfl
theorem SX.put {xS zX : Nat → Int32} (h : SX xS zX) {d : Nat} (hd : d < 32) (v : Int32) : SX (fX8_putScalar__xS xS (nI d) v) (if nI d ≤ 0 then zX else upd zX (Int32.toNatClampNeg (nI d)) v) := by
  unfold fX8_putScalar__xS pX8_putScalar_17_xS
  rcases Nat.eq_zero_or_pos d with q | q
  · subst q
    rw [if_pos (by decide), if_pos (by decide)]; exact h
  · have h1 : ¬ nI d ≤ (0 : Int32) := nI_ge q (by omega)
    have h2 : ¬ (32 : Int32) ≤ nI d := nI_ge (a := d) (b := 32) hd (by decide)
    rw [if_neg h1, if_neg h1, if_neg h2, nI_clamp (by omega)]
    refine ⟨?_, fun k k1 k2 => ?_⟩
    · rw [pk_un (by omega)]; exact h.1
    · by_cases e : k = d
      · subst e; rw [pk_us, pk_us]
      · rw [pk_un e, pk_un e]; exact h.2 k k1 k2
theorem readScalar_fam {S d s2 : Nat} (hS : okB S) {x z xS zX : Nat → Int32} (h0 : Sy x z) (hX : SX xS zX) (hd : d < 32) (h2 : s2 < 32) {vl st un : Int32} (hun : ¬ un = 0) : SX (fX4_readScalar__xS (nI S) xS x (nI d) (nI s2)) (fX11_toX__zX vl st (nI d) (nI 0) (nI s2) (nI S) un zX z) := by
  have hle := hS.le
  unfold fX4_readScalar__xS fX11_toX__zX rX11_toX_145__zX pX11_toX_162_zX pX11_toX_145_L1 eX11_toX_37 fX2_cover__g_first fX2_cover__g_eew fX2_cover__g_full
  rw [if_pos nI_0, if_neg hun, if_pos nI_0, ← nI_0, h0.el (r := s2) (e := S) (i := 0) hS (by omega)]
  exact hX.put hd _
theorem count_fam {d s1 s2 vl : Nat} {x z xS zX : Nat → Int32} (h0 : Sy x z) (hX : SX xS zX) (hd : d < 32) (h2 : s2 < 32) (hs1 : s1 = 16 ∨ s1 = 17) (hv128 : vl ≤ 128) {sew isM un : Int32} (hmu : isM = 0 ↔ ¬ un = 0) : SX (fX4_count__xS 13 (nI s1) (nI vl) isM xS x (nI 0) (nI 1) (fX10_ones (nI 1)) (nI d) (nI s2)) (fX11_toX__zX (nI vl) (nI 0) (nI d) (nI s1) (nI s2) sew un zX z) := by
  have hm1 : Sy x z := h0
  have e1 : (LX4_count_21 13 (nI vl) isM x (nI 0) (nI 1) (fX10_ones (nI 1)) (nI s2) (cnt 0 (nI vl)) (0, -1, 0)).2 = ((LX11_toX_75 (nI vl) (nI s2) un z (cnt 0 (nI vl)) (0, 0, -1)).2.2, (LX11_toX_75 (nI vl) (nI s2) un z (cnt 0 (nI vl)) (0, 0, -1)).2.1) ∧ nI vl ≤ (LX11_toX_75 (nI vl) (nI s2) un z (cnt 0 (nI vl)) (0, 0, -1)).1 := by
    rw [← nI_0, cnt_nI (by omega) (by omega), itX4_count_21 (b9 := vl) _ _ _ _ _ _ _ _ rfl (by omega) (vl - 0) 0 (-1) (nI 0) (by omega), itX11_toX_75 (b9 := vl) _ _ _ _ rfl (by omega) (vl - 0) 0 (nI 0) (-1) (by omega)]
    have key := itr_rel (fun i s t => s.1 = t.2 ∧ s.2 = t.1 ∧ ∃ p, p ≤ i ∧ s.2 = nI p ∧ (p = 0 ↔ ¬ 0 ≤ s.1)) (fun k s => ((pX4_count_67_L2 13 isM x (nI 0) (nI 1) (fX10_ones (nI 1)) (nI s2) (nI k) s.1 s.2), (pX4_count_67_L3 13 isM x (nI 0) (nI 1) (fX10_ones (nI 1)) (nI s2) (nI k) s.2))) (fun k s => ((pX11_toX_119_L2 (nI s2) un z (nI k) s.1), (pX11_toX_119_L3 (nI s2) un z (nI k) s.2))) (vl - 0) 0 ((-1 : Int32), nI 0) (nI 0, (-1 : Int32)) (by
      intro i s t hi1 hi2 ⟨k1, k2, p, hp, k3, k4⟩
      obtain ⟨sf, sn⟩ := s
      obtain ⟨tn, tf⟩ := t
      dsimp only at k1 k2 k3 k4 ⊢
      subst k1; subst k2; subst k3
      have ha := act_eq (Iv.start (D := 0) (w := 0) (st := i) h0) (kd := 13) (isM := isM) (un := un) (by decide) hmu (by omega) (fun _ => by omega)
      have e3 := el1 x (r := s2) (k := i) (by omega)
      have e4 := bitz z (r := s2) (i := i) (by omega) (by omega)
      rw [h0.2 _ (by omega)] at e3
      unfold pX4_count_67_L2 pX4_count_67_L3 pX4_count_63_S1 pX11_toX_119_L2 pX11_toX_119_L3 pX11_toX_116_L3 fX2_cover__g_first fX2_cover__g_eew fX2_cover__g_full
      have e5 : fX2_element (nI s2) 1 (fX10_ones 1) x (nI i) = if zb z (s2 * 128 + i) = true then 1 else 0 := e3
      rw [ha, e5, e4]
      by_cases qa : fX11_isActive un z (nI i) = 0
      · simp only [if_pos qa]
        exact ⟨trivial, trivial, p, by omega, rfl, k4⟩
      · simp only [if_neg qa]
        cases zb z (s2 * 128 + i)
        · simp (decide := true) only [if_true, if_false]
          exact ⟨trivial, trivial, p, by omega, rfl, k4⟩
        · simp (decide := true) only [if_true, if_false]
          have hpp : nI p = (0 : Int32) ↔ p = 0 := by rw [← nI_0, nI_eq (by omega) (by omega)]
          refine ⟨?_, trivial, p + 1, by omega, by rw [show (1 : Int32) = nI 1 by decide, nI_add], ?_⟩
          · by_cases q0 : p = 0
            · rw [if_pos (hpp.mpr q0), if_neg (k4.mp q0)]
            · rw [if_neg (fun w => q0 (hpp.mp w)), if_pos (Classical.byContradiction (fun w => q0 (k4.mpr w)))]
          · have h1 : ¬ p + 1 = 0 := by omega
            by_cases q0 : p = 0
            · rw [if_pos (hpp.mpr q0)]
              have h2 : (0 : Int32) ≤ nI i := by rw [← nI_0]; exact nI_le (by omega) (by omega)
              exact ⟨fun w => absurd w h1, fun w => absurd h2 w⟩
            · rw [if_neg (fun w => q0 (hpp.mp w))]
              exact ⟨fun w => absurd w h1, fun w => absurd (k4.mpr w) q0⟩) ⟨rfl, rfl, 0, Nat.le_refl 0, rfl, ⟨fun _ => by decide, fun _ => rfl⟩⟩
    refine ⟨Prod.ext key.1 key.2.1, ?_⟩
    dsimp only
    rw [show 0 + (vl - 0) = vl by omega]
    exact Int32.le_refl _
  obtain ⟨e1, e2⟩ := e1
  have h16 : ¬ nI s1 = (0 : Int32) := nI_ne0 (by omega) (by omega)
  have d16 : nI 16 = (16 : Int32) := by decide
  have d17 : nI 17 = (17 : Int32) := by decide
  unfold fX4_count__xS pX4_count_95_S3 fX11_toX__zX rX11_toX_145__zX pX11_toX_162_zX pX11_toX_145_L1 pX11_toX_139_S1
  rw [e1]
  rcases hs1 with rfl | rfl
  · rw [if_neg h16, if_neg h16, if_pos d16, if_pos d16, if_pos d16, if_pos nI_0, if_pos nI_0, if_pos e2]
    exact hX.put hd _
  · have n17 : ¬ nI 17 = (16 : Int32) := by decide
    rw [if_neg h16, if_neg h16, if_neg n17, if_neg n17, if_neg n17, if_pos d17, if_pos d17, if_pos nI_0, if_pos nI_0, if_pos e2]
    exact hX.put hd _
theorem writeScalar_fam {S d s1 vl st : Nat} (hS : okB S) {x z xS zX : Nat → Int32} (h0 : Sy x z) (hX : SX xS zX) (hd : d < 32) (h1 : s1 < 32) (hv : vl < 2 ^ 31) (hst : st < 2 ^ 31) {vt un : Int32} {c : Int64} (hun : ¬ un = 0) : Sy (fX4_writeScalar__xV (nI vl) (fX4_prepare__n_second (nI S) xS 6 (nI s1)) (nI st) c (nI S) (fX11_isTailOpen vt) x (nI d)) (fX11_fromX__zV c (nI vl) vt (nI st) (nI d) (nI s1) (nI 0) (nI S) un zX z) := by
  have hle := hS.le
  unfold fX4_writeScalar__xV pX4_writeScalar_58_xV fX11_fromX__zV
  rw [if_neg hun, if_pos nI_0]
  rcases Nat.lt_or_ge st vl with q | q
  · have hg : ¬ fX11_goes (nI vl) (nI st) = 0 := fun w => absurd ((goes_eq hst hv).mp w) (by omega)
    rw [if_neg hg, if_neg (nI_ge q hv)]
    unfold fX2_cover__g_first fX2_cover__g_eew fX2_cover__g_full
    rw [← nI_0]
    refine (h0.put (r := d) (e := S) (i := 0) hS (by omega) (fun j hj => ?_)).tail (r := d) (e := S) (g := 1) (e8 := 8) (k := 1) hS (by decide) (by decide) (by omega) (by decide) c rfl
    have e : fX4_prepare__n_second (nI S) xS 6 (nI s1) = Int32.toInt64 (zX s1) &&& fX10_ones (nI S) := by
      simp (decide := true) only [fX4_prepare__n_second, pX4_prepare_88_S1, if_true, if_false]
      rw [hX.scalar h1]
    rw [e, l_and, l_onesE hS.E (by omega), nI_clamp (by omega)]
    simp [hj]
  · have hg := (goes_eq (vl := vl) (st := st) hst hv).mpr q
    rw [if_pos hg, if_pos (nI_le q hst)]
    exact h0
