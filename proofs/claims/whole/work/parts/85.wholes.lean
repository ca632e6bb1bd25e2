/-! ===== whole moves ===== -/
theorem val26 (o sel len im hr : Int32) (sec off : Int64) (ps md tm : Int32) (x : Nat → Int32) (a1 : Int32) (a2 a3 a4 : Int64) (tf te : Int32) (tl : Int64) (lf le : Int32) (ll : Int64) (rf re : Int32) (rl : Int64) (mf me : Int32) (ml : Int64) (i : Int32) : fX4_valueAt 26 o sel len im hr sec off ps md tm x a1 a2 a3 a4 tf te tl lf le ll rf re rl mf me ml i = fX2_element lf le ll x i := by
  unfold fX4_valueAt fX4_movedTo
  simp (decide := true) only [if_true, if_false]
theorem sat26 (o hr : Int32) (sec : Int64) (md sat : Int32) (x : Nat → Int32) (a1 : Int32) (a2 a3 a4 : Int64) (lf le : Int32) (ll : Int64) (rf re : Int32) (rl : Int64) (i : Int32) : fX4_valueAt__r_saturated 26 o hr sec md sat x a1 a2 a3 a4 lf le ll rf re rl i = sat := by
  unfold fX4_valueAt__r_saturated
  simp (decide := true) only [if_true, if_false]
theorem run26 (o sel im hr : Int32) (sec off : Int64) (ps : Int32) {L st b : Nat} (hb : b < 2 ^ 32) (hoff : off = lN b) (hL : L ≤ 128) (md sat : Int32) (c : Int64) (tm tt mo : Int32) (x : Nat → Int32) (a1 : Int32) (a2 a3 a4 : Int64) (tf te tg : Int32) (tl : Int64) (lf le : Int32) (ll : Int64) (rf re : Int32) (rl : Int64) (rf2 re2 : Int32) (rl2 : Int64) (mf me : Int32) (ml : Int64) (hst : st < 128) :
    fX4_runElements__xV 26 o sel (nI L) im hr sec off ps (nI st) md sat c tm tt mo x a1 a2 a3 a4 tf te tg tl lf le ll rf re rl mf me ml = fX4_runElements__xV 26 o sel (nI L) im hr sec off ps (nI st) md sat c tm tt mo x a1 a2 a3 a4 tf te tg tl lf le ll rf2 re2 rl2 mf me ml ∧
    fX4_runElements__r_saturated 26 o sel (nI L) im hr sec off ps (nI st) md sat c tm mo x a1 a2 a3 a4 tf te tl lf le ll rf re rl mf me ml = fX4_runElements__r_saturated 26 o sel (nI L) im hr sec off ps (nI st) md sat c tm mo x a1 a2 a3 a4 tf te tl lf le ll rf2 re2 rl2 mf me ml := by
  unfold fX4_runElements__xV fX4_runElements__r_saturated
  rcases Nat.lt_or_ge st L with q | q
  · have h : nI st < nI L := nI_lt q (by omega)
    obtain ⟨a0, ha, e⟩ := first_at 26 hb q hL
    rw [hoff, if_pos h, if_pos h, if_pos h, if_pos h, if_neg (by decide), if_neg (by decide), if_neg (by decide), if_neg (by decide), e, cnt_nI (by omega) (by omega), itX4_runElements_44 (b9 := L) _ _ _ _ _ _ _ _ _ _ _ _ _ _ _ _ _ _ _ _ _ _ _ _ _ _ _ _ rfl (by omega) (L - a0) a0 ps sat x (by omega), itX4_runElements_44 (b9 := L) _ _ _ _ _ _ _ _ _ _ _ _ _ _ _ _ _ _ _ _ _ _ _ _ _ _ _ _ rfl (by omega) (L - a0) a0 ps sat x (by omega)]
    unfold pX4_runElements_97_xV pX4_runElements_97_r_saturated
    simp only [val26, sat26]
    exact ⟨trivial, trivial⟩
  · have h : ¬ nI st < nI L := nI_nlt q (by omega)
    rw [if_neg h, if_neg h, if_neg h, if_neg h]
    exact ⟨rfl, rfl⟩
theorem wholes_WO {S E L st d s1 s2 md : Nat} {F H im un tb : Int32} {x z xS zX : Nat → Int32} (h : HY S E L st d s1 s2 md F im un tb x z xS zX) (hun : ¬ un = 0) (hn : s1 + 1 ∈ [1, 2, 4, 8]) (hk : fX1_kindOf F (nI s1) (nI s2) H im = 26) (vt sat : Int32) (c : Int64) (tm rf re r8 rg : Int32) (rl : Int64) :
    WO (fX11_wholes (nI d) (nI s1) (nI s2) un) (fX4_execute (nI st) tb (nI S) (nI E) rf re r8 rg (nI 0) (nI 1) F (nI d) (nI s1) (nI s2) H im) (fX4_execute__xV (nI L) (nI st) (nI md) sat c tb (nI S) (nI E) tm (fX11_isTailOpen vt) (fX11_isMaskOpen vt) xS x rf re r8 rg rl (nI 0) (nI 1) (nI 1) (fX10_ones (nI 1)) F (nI d) (nI s1) (nI s2) H im) (fX11_wholes__zV (nI st) (nI d) (nI s1) (nI s2) (nI S) un z z) (fX4_execute__r_saturated (nI L) (nI st) (nI md) sat c tb (nI S) (nI E) tm (fX11_isMaskOpen vt) xS x rf re r8 rg rl (nI 0) (nI 1) (nI 1) (fX10_ones (nI 1)) F (nI d) (nI s1) (nI s2) H im) (sat) (fX4_execute__xS (nI L) (nI st) tb (nI S) xS x (nI 0) (nI 1) (fX10_ones (nI 1)) F (nI d) (nI s1) (nI s2) H im) (zX) ∧ okX4_execute (nI L) (nI st) (nI md) sat c tb (nI S) (nI E) tm (fX11_isMaskOpen vt) xS x rf re r8 rg rl (nI 0) (nI 1) (nI 1) (fX10_ones (nI 1)) F (nI d) (nI s1) (nI s2) H im := by
  obtain ⟨hp, hS, hSe, h2e, hd, h1, h2, hLM, hL, hst, hmd, hF, hmu, hill, him, h0, hX, hreg, hE⟩ := h
  have hle := hS.le
  have hi0 := hmu.mpr hun
  have hn8 : s1 + 1 ≤ 8 := by
    have : ∀ n ∈ [1, 2, 4, 8], n ≤ 8 := by decide
    exact this _ hn
  have es : nI s1 + 1 = nI (s1 + 1) := by rw [show (1 : Int32) = nI 1 by decide, nI_add]
  obtain ⟨g1, g2, g3, g4⟩ := wh_1 (s1 + 1) hn d hd S hS.mem
  obtain ⟨k1, k2, _, k4⟩ := wh_1 (s1 + 1) hn s2 h2 S hS.mem
  have hb2 : (s1 + 1) * 128 / S ≤ (s1 + 1) * 128 / 8 := Nat.div_le_div_left hle.1 (by decide)
  have hcap : fX2_capacity (nI S) (nI (s1 + 1)) = nI ((s1 + 1) * 128 / S) := cap_nI (by omega) (by omega) (by omega)
  obtain ⟨b, hb, eb⟩ := off_ge xS h1 F
  have cg : fX4_coverGroups 26 (nI s1) (nI S) (nI E) F (nI d) (nI s1) (nI s2) = if d % (s1 + 1) = 0 ∧ s2 % (s1 + 1) = 0 then 1 else 0 := by
    have e : fX4_coverGroups 26 (nI s1) (nI S) (nI E) F (nI d) (nI s1) (nI s2) = (if fX2_isLegal (nI d) (nI S) (8 * (nI s1 + 1)) (fX2_cover__g_registers (8 * (nI s1 + 1))) = 0 then 0 else (if fX2_isLegal (nI s2) (nI S) (8 * (nI s1 + 1)) (fX2_cover__g_registers (8 * (nI s1 + 1))) = 0 then 0 else 1)) := by
      unfold fX4_coverGroups
      simp (decide := true) only [if_true, if_false]
      rfl
    rw [e, es, g1, k1]
    by_cases q1 : d % (s1 + 1) = 0
    · by_cases q2 : s2 % (s1 + 1) = 0
      · rw [if_pos q1, if_pos q2, if_neg (by decide), if_neg (by decide), if_pos ⟨q1, q2⟩]
      · rw [if_pos q1, if_neg q2, if_neg (by decide), if_pos rfl, if_neg (fun w => q2 w.2)]
    · rw [if_neg q1, if_pos rfl, if_neg (fun w => q1 w.1)]
  have f1 : fX4_coverGroups__n_length 26 (fX4_prepare__n_length (nI L)) (nI S) (nI s1) = nI ((s1 + 1) * 128 / S) := by
    unfold fX4_coverGroups__n_length
    simp (decide := true) only [if_true, if_false]
    unfold fX4_coverWhole__n_length eX4_coverWhole_72 fX2_cover__g_eew
    rw [es, g3, hcap]
  have f2 : fX4_coverGroups__n_hasLeft 26 (fX4_prepare__n_selector (nI s1)) (nI S) = 1 ∧ fX4_coverGroups__n_hasRight 26 (nI S) F = 0 ∧ fX4_coverGroups__tg_first 26 (nI d) = nI d ∧ fX4_coverGroups__tg_eew 26 (nI S) = nI S ∧ fX4_coverGroups__tg_registers 26 (nI S) (nI E) (nI s1) = nI (s1 + 1) ∧ fX4_coverGroups__tg_full 26 (nI S) = fX10_ones (nI S) ∧ fX4_coverGroups__lf_first 26 (nI s2) = nI s2 ∧ fX4_coverGroups__lf_eew 26 (fX4_prepare__n_selector (nI s1)) (nI S) = nI S ∧ fX4_coverGroups__lf_full 26 (fX4_prepare__n_selector (nI s1)) (nI S) = fX10_ones (nI S) := by
    unfold fX4_coverGroups__n_hasLeft fX4_coverGroups__n_hasRight fX4_coverGroups__tg_first fX4_coverGroups__tg_eew fX4_coverGroups__tg_registers fX4_coverGroups__tg_full fX4_coverGroups__lf_first fX4_coverGroups__lf_eew fX4_coverGroups__lf_full
    simp (decide := true) only [if_true, if_false]
    refine ⟨by trivial, by trivial, by first | trivial | rfl, by first | trivial | rfl, ?_, by first | trivial | rfl, by first | trivial | rfl, by first | trivial | rfl, by first | trivial | rfl⟩
    unfold fX4_coverWhole__tg_registers
    rw [es, g3]
  obtain ⟨j1, j2, j3, j4, j5, j6, j7, j8, j9⟩ := f2
  have c1 : fX4_coverGroups 26 (fX4_prepare__n_selector (nI s1)) (nI S) (nI E) F (nI d) (nI s1) (nI s2) = if d % (s1 + 1) = 0 ∧ s2 % (s1 + 1) = 0 then 1 else 0 := cg
  have c2 : ∀ a1 a2 a3 a4 a5 a6, ¬ fX4_mayBeTarget 26 (fX4_prepare__n_isMasked im) (fX4_coverGroups__n_hasLeft 26 (fX4_prepare__n_selector (nI s1)) (nI S)) (fX4_coverGroups__n_hasRight 26 (nI S) F) (fX4_coverGroups__tg_first 26 (nI d)) (fX4_coverGroups__tg_eew 26 (nI S)) (fX4_coverGroups__tg_registers 26 (nI S) (nI E) (nI s1)) (fX4_coverGroups__lf_first 26 (nI s2)) (fX4_coverGroups__lf_eew 26 (fX4_prepare__n_selector (nI s1)) (nI S)) a1 a2 a3 a4 a5 a6 (nI 0) (nI 1) = 0 := by
    intro a1 a2 a3 a4 a5 a6
    rw [mbt_iff, j2, j4, j8]
    refine ⟨Or.inl hi0, fun _ => ?_, fun w => absurd rfl w⟩
    unfold mtC
    rw [if_pos (by decide)]; exact over_same _ _ _ _ _ _
  have hz' : ∀ {α : Type} (X Y : α), (if nI st = 0 then X else (if fX4_startsAtZero 26 = 0 then X else Y)) = X := by
    intro α X Y
    rw [if_pos (show fX4_startsAtZero 26 = 0 by decide), ite_self]
  have d26 : ¬ (26 : Int32) = 0 ∧ ¬ (26 : Int32) = 10 ∧ ¬ (26 : Int32) = 11 ∧ ¬ (26 : Int32) = 13 ∧ ¬ (26 : Int32) = 17 ∧ ¬ (26 : Int32) = 18 := by decide
  obtain ⟨n0, n10, n11, n13, n17, n18⟩ := d26
  refine ⟨?_, ok_kind _ _ _ _ _ him, fun _ _ => ⟨him, fun _ => ok_scalar s1 h1⟩, fun _ _ h => absurd (hk.symm.trans h) n10, fun _ _ _ h => absurd (hk.symm.trans h) n11, fun _ _ _ _ h => absurd (hk.symm.trans h) n13, fun _ _ _ _ _ h => absurd (hk.symm.trans h) n17, fun _ _ _ _ _ _ h => absurd (hk.symm.trans h) n18, fun _ _ _ _ _ _ _ => ok_cgs _ _ _, ?_⟩
  case refine_2 =>
    rw [hk]
    intro _ _ _ _ _ _ _ _ _
    rw [f1, j4, j5]
    exact ok_run _ _ _ _ _ _ hb eb _ (by omega) hst (by omega) (by omega) hn8 _ _ _ _ _ _ _ _ _ _ _ _ _ _ _ _ _ _ _ _ _
  unfold fX4_execute fX4_execute__xV fX4_execute__r_saturated fX4_execute__xS rX4_execute_47 rX4_execute_47__xV rX4_execute_47__r_saturated rX4_execute_47__xS pX4_execute_183_S1 pX4_execute_183_xV pX4_execute_183_r_saturated
  simp only [hk, if_neg n0, if_pos hill, hz', if_neg n10, if_neg n11, if_neg n13, if_neg n17, if_neg n18, c1, if_neg (c2 _ _ _ _ _ _)]
  have hw : ∀ {α : Type} (X Y : α), (if un = 0 then Y else (if nI s1 + 1 = 1 then X else (if nI s1 + 1 = 2 then X else (if nI s1 + 1 = 4 then X else (if nI s1 + 1 = 8 then X else Y))))) = X := by
    intro α X Y
    rw [if_neg hun, es]
    rcases List.mem_cons.mp hn with e | e
    · rw [e]; exact if_pos (by decide)
    · rcases List.mem_cons.mp e with e | e
      · rw [e, if_neg (by decide)]; exact if_pos (by decide)
      · rcases List.mem_cons.mp e with e | e
        · rw [e, if_neg (by decide), if_neg (by decide)]; exact if_pos (by decide)
        · rcases List.mem_cons.mp e with e | e
          · rw [e, if_neg (by decide), if_neg (by decide), if_neg (by decide)]; exact if_pos (by decide)
          · exact absurd e List.not_mem_nil
  unfold fX11_wholes fX11_wholes__zV
  rw [hw, hw]
  unfold rX11_wholes_35 rX11_wholes_35__zV
  rw [es]
  by_cases q1 : d % (s1 + 1) = 0
  case neg =>
    have r1 : ¬ irem (nI d) (nI (s1 + 1)) = 0 := fun w => q1 (g2.mp w)
    simp only [if_neg r1, if_neg (show ¬ (d % (s1 + 1) = 0 ∧ s2 % (s1 + 1) = 0) from fun w => q1 w.1), if_true]
    exact ⟨rfl, h0, rfl, hX⟩
  have r1 := g2.mpr q1
  by_cases q2 : s2 % (s1 + 1) = 0
  case neg =>
    have r2 : ¬ irem (nI s2) (nI (s1 + 1)) = 0 := fun w => q2 (k2.mp w)
    simp only [if_pos r1, if_neg r2, if_neg (show ¬ (d % (s1 + 1) = 0 ∧ s2 % (s1 + 1) = 0) from fun w => q2 w.2), if_true]
    exact ⟨rfl, h0, rfl, hX⟩
  have r2 := k2.mpr q2
  simp only [if_pos r1, if_pos r2, if_pos (show d % (s1 + 1) = 0 ∧ s2 % (s1 + 1) = 0 from ⟨q1, q2⟩), if_neg (show ¬ (1 : Int32) = 0 by decide)]
  rw [f1, j2, j3, j4, j5, j6, j7, j8, j9]
  obtain ⟨u1, u2⟩ := run26 (fX4_prepare__n_operation F H) (fX4_prepare__n_selector (nI s1)) (fX4_prepare__n_isMasked im) 0 (fX4_prepare__n_second (nI S) xS F (nI s1)) (fX4_prepare__n_offset xS F (nI s1)) fX4_prepare__n_passed (L := (s1 + 1) * 128 / S) (st := st) hb eb (by omega) (nI md) sat c tm (fX11_isTailOpen vt) (fX11_isMaskOpen vt) x (fX4_prepare__a_sew (nI S)) (fX4_prepare__a_greatest (nI S)) (fX4_prepare__a_greatestSigned (nI S)) (fX4_prepare__a_leastSigned (nI S)) (nI d) (nI S) (nI (s1 + 1)) (fX10_ones (nI S)) (nI s2) (nI S) (fX10_ones (nI S)) (fX4_coverGroups__rt_first 26 rf (nI s1)) (fX4_coverGroups__rt_eew 26 (nI S) re) (fX4_coverGroups__rt_full 26 (nI S) rl) (nI 0) (nI 0) (fX10_ones (nI 0)) (nI 0) (nI 1) (fX10_ones (nI 1)) hst
  rw [u1, u2]
  have hgp : gp s2 d (s1 + 1) := by
    unfold gp
    rcases Nat.lt_trichotomy s2 d with w | w | w
    · right; right
      have := Nat.div_add_mod s2 (s1 + 1)
      have := Nat.div_add_mod d (s1 + 1)
      have hlt : s2 / (s1 + 1) < d / (s1 + 1) := by
        refine Classical.byContradiction (fun v => ?_)
        have := Nat.mul_le_mul_left (s1 + 1) (Nat.not_lt.mp v)
        omega
      have := Nat.mul_le_mul_left (s1 + 1) (Nat.succ_le_of_lt hlt)
      rw [Nat.succ_eq_add_one, Nat.mul_add] at this
      omega
    · left; exact w
    · right; left
      have := Nat.div_add_mod s2 (s1 + 1)
      have := Nat.div_add_mod d (s1 + 1)
      have hlt : d / (s1 + 1) < s2 / (s1 + 1) := by
        refine Classical.byContradiction (fun v => ?_)
        have := Nat.mul_le_mul_left (s1 + 1) (Nat.not_lt.mp v)
        omega
      have := Nat.mul_le_mul_left (s1 + 1) (Nat.succ_le_of_lt hlt)
      rw [Nat.succ_eq_add_one, Nat.mul_add] at this
      omega
  obtain ⟨v1, v2⟩ := wholes_fam (g := s1 + 1) (d := d) (s2 := s2) (vl := (s1 + 1) * 128 / S) (st := st) (md := md) (o := fX4_prepare__n_operation F H) (sel := nI s1) (isM := im) (hr := 0) (sec := fX4_prepare__n_second (nI S) xS F (nI s1)) (off := fX4_prepare__n_offset xS F (nI s1)) (tm := tm) (vt := vt) (c := c) (r := 0) (rw := 0) hS h0 hn8 (by omega) (g4 q1) (k4 q2) hgp rfl hst hi0 0 sat
  rw [Nat.add_sub_cancel, es] at v1
  exact ⟨rfl, v1, v2, hX⟩
