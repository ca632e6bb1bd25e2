/-! ===== Lanes.execute: obligations, the general way ===== -/
theorem ok_res (a o : Int32) (b : Int64) : okX0_result a o b := fun _ _ _ _ _ => ⟨fun h _ _ => h, fun _ h _ _ => h, fun h _ _ _ _ => h, fun _ h _ _ _ _ => h⟩
theorem ok_rt (h a b c : Int32) : okX4_rightAt h a b c := fun _ => ok_el _ _ _
theorem ok_moved (k len hr : Int32) (off : Int64) (tm : Int32) (x : Nat → Int32) (lf le rf re : Int32) (rl : Int64) (i : Int32) : okX4_movedTo k len hr off tm x lf le rf re rl i := by
  unfold okX4_movedTo okX4_leftAt
  repeat' apply And.intro
  all_goals intros
  all_goals exact ok_el _ _ _
theorem ok_value (k o sel len im hr : Int32) (sec off : Int64) (tm : Int32) (x : Nat → Int32) (as tf te lf le rf re : Int32) (rl : Int64) (mf me : Int32) (ml : Int64) (i : Int32) : okX4_valueAt k o sel len im hr sec off tm x as tf te lf le rf re rl mf me ml i := by
  unfold okX4_valueAt
  repeat' apply And.intro
  all_goals intros
  all_goals first | exact ok_el _ _ _ | exact ok_rt _ _ _ _ | exact ok_res _ _ _ | exact ok_moved _ _ _ _ _ _ _ _ _ _ _ _
theorem ok_act (k im mf me i : Int32) : okX4_isActive k im mf me i := fun _ _ _ _ => ok_el _ _ _
theorem ok_o44 (k o sel len im hr : Int32) (sec off : Int64) (c : Int64) (tm mo as tf te lf le rf re : Int32) (rl : Int64) (mf me : Int32) (ml : Int64) (i p s : Int32) (x : Nat → Int32) : oX4_runElements_44 k o sel len im hr sec off c tm mo as tf te lf le rf re rl mf me ml i p s x := ⟨fun _ => ok_act _ _ _ _ _, fun _ _ _ => ok_lo _ _ _ _, fun _ _ => ok_value _ _ _ _ _ _ _ _ _ _ _ _ _ _ _ _ _ _ _ _ _ _, fun _ _ => ok_pt _ _ _⟩
theorem first_at (k : Int32) {vl st b : Nat} (hb : b < 2 ^ 32) (hst : st < vl) (hv : vl ≤ 128) : ∃ a0, a0 ≤ vl ∧ fX4_firstElement k (nI vl) (lN b) (nI st) = nI a0 := by
  unfold fX4_firstElement
  by_cases hk : k = 19
  · rw [if_pos hk, nI_l (by omega), nI_l (by omega)]
    by_cases q : b ≤ st
    · rw [if_pos ((pk_lLE (by omega) (by omega)).mpr q)]
      exact ⟨st, by omega, rfl⟩
    · rw [if_neg (fun w => q ((pk_lLE (by omega) (by omega)).mp w))]
      unfold kmin
      by_cases q2 : vl < b
      · rw [if_pos ((pk_lLT (by omega) (by omega)).mpr q2), lN_i]
        exact ⟨vl, Nat.le_refl _, rfl⟩
      · rw [if_neg (fun w => q2 ((pk_lLT (by omega) (by omega)).mp w)), lN_i]
        exact ⟨b, by omega, rfl⟩
  · rw [if_neg hk]; exact ⟨st, by omega, rfl⟩
theorem off_ge (xS : Nat → Int32) {s1 : Nat} (h1 : s1 < 32) (F : Int32) : ∃ b, b < 2 ^ 32 ∧ fX4_prepare__n_offset xS F (nI s1) = lN b := by
  unfold fX4_prepare__n_offset pX4_prepare_142_S2
  by_cases q : fX3_takesNumber F = 0
  · simp only [if_pos q]
    obtain ⟨m, hm, e⟩ := andw (Int32.toInt64 (fX8_scalar xS (nI s1)))
    exact ⟨m, hm, e⟩
  · simp only [if_neg q]
    exact ⟨s1, by omega, nI_l (by omega)⟩
theorem compr_at (len : Nat) (hl : len ≤ 128) (x : Nat → Int32) (tf te : Int32) (tl : Int64) (lf le : Int32) (ll : Int64) (rf re : Int32) (rl : Int64) : ∃ p, p ≤ 128 ∧ fX4_compressed (nI len) x tf te tl lf le ll rf re rl = nI p := by
  unfold fX4_compressed
  rw [← nI_0, cnt_nI (by omega) (by omega), itX4_compressed_4 (b9 := len) _ _ _ _ _ _ _ _ _ _ rfl (by omega) (len - 0) 0 (nI 0) x (by omega)]
  have key := itr_rel (fun i (s t : Int32 × (Nat → Int32)) => ∃ p, p ≤ i ∧ s.1 = nI p) (fun k s => ((pX4_compressed_44_L1 rf re rl (nI k) s.1 s.2), (pX4_compressed_44_xV tf te tl lf le ll rf re rl (nI k) s.1 s.2))) (fun k s => s) (len - 0) 0 (nI 0, x) (nI 0, x) (by
    intro i s t _ _ ⟨p, hp, hs⟩
    unfold pX4_compressed_44_L1
    dsimp only
    rw [hs]
    split
    · exact ⟨p + 1, by omega, by rw [show (1 : Int32) = nI 1 by decide, nI_add]⟩
    · exact ⟨p, by omega, rfl⟩) ⟨0, Nat.le_refl 0, rfl⟩
  obtain ⟨p, hp, e⟩ := key
  exact ⟨p, by omega, e⟩
theorem ok_compr {len : Nat} (hl : len ≤ 128) (x : Nat → Int32) (tf te : Int32) (tl : Int64) (lf le : Int32) (ll : Int64) (rf re : Int32) (rl : Int64) : okX4_compressed (nI len) x tf te tl lf le ll rf re rl := by
  unfold okX4_compressed
  rw [← nI_0, cnt_nI (by omega) (by omega), itX4_compressed_4 (b9 := len) _ _ _ _ _ _ _ _ _ _ rfl (by omega) (len - 0) 0 (nI 0) x (by omega), show 0 + (len - 0) = len by omega]
  exact ⟨ktX4_compressed_4 (b9 := len) _ _ _ _ _ _ _ _ _ _ rfl (by omega) (fun _ _ => True) (fun a w1 w2 _ _ => ⟨⟨fun _ => ok_el _ _ _, fun _ _ => ok_el _ _ _, fun _ _ => ok_pt _ _ _⟩, True.intro⟩) (len - 0) 0 (nI 0) x (by omega) True.intro, ntX4_compressed_4 _ tf te tl lf le ll rf re rl (b9 := len) rfl (by omega) _ _, fun _ => ok_el _ _ _, fun _ _ => ok_el _ _ _, fun _ _ => ok_pt _ _ _⟩
theorem ok_run (k o sel im hr : Int32) (sec : Int64) {off : Int64} {b : Nat} (hb : b < 2 ^ 32) (hoff : off = lN b) (ps : Int32) {L st dw g : Nat} (hL : L ≤ 128) (hst : st < 128) (hdw : 1 ≤ dw) (hdw2 : dw ≤ 32) (hg : g ≤ 8) (md sat : Int32) (c : Int64) (tm mo : Int32) (x : Nat → Int32) (a1 : Int32) (a2 a3 a4 : Int64) (tf : Int32) (tl : Int64) (lf le : Int32) (ll : Int64) (rf re : Int32) (rl : Int64) (mf me : Int32) (ml : Int64) : okX4_runElements k o sel (nI L) im hr sec off ps (nI st) md sat c tm mo x a1 a2 a3 a4 tf (nI dw) (nI g) tl lf le ll rf re rl mf me ml := by
  unfold okX4_runElements
  rcases Nat.lt_or_ge st L with q | q
  · by_cases hk : k = 25
    · obtain ⟨p, hp, e⟩ := compr_at L hL x tf (nI dw) tl lf le ll rf re rl
      rw [e]
      exact ⟨fun _ _ => ok_compr hL _ _ _ _ _ _ _ _ _ _, fun _ _ => ok_leaveTail _ hdw hdw2 hg (by omega) _ _ _, fun _ h => absurd hk h, fun _ h => absurd hk h, fun _ h => absurd hk h, fun _ h => absurd hk h, fun _ h => absurd hk h, fun _ h => absurd hk h, fun _ h => absurd hk h⟩
    · obtain ⟨a0, ha, e⟩ := first_at k hb q hL
      rw [hoff, e, cnt_nI (by omega) (by omega), itX4_runElements_44 (b9 := L) _ _ _ _ _ _ _ _ _ _ _ _ _ _ _ _ _ _ _ _ _ _ _ _ _ _ _ _ rfl (by omega) (L - a0) a0 ps sat x (by omega), show a0 + (L - a0) = L by omega]
      exact ⟨fun _ h => absurd h hk, fun _ h => absurd h hk, fun _ _ => ktX4_runElements_44 (b9 := L) _ _ _ _ _ _ _ _ _ _ _ _ _ _ _ _ _ _ _ _ _ _ _ _ _ _ _ _ rfl (by omega) (fun _ _ => True) (fun a w1 w2 w3 _ _ => ⟨ok_o44 _ _ _ _ _ _ _ _ _ _ _ _ _ _ _ _ _ _ _ _ _ _ _ _ _ _, True.intro⟩) (L - a0) a0 ps sat x (by omega) True.intro, fun _ _ => by unfold tX4_runElements_44; rw [if_pos (Int32.le_refl _)]; exact id, fun _ _ _ => ok_leaveTail _ hdw hdw2 hg (by omega) _ _ _, fun _ _ _ => ok_act _ _ _ _ _, fun _ _ _ _ _ => ok_lo _ _ _ _, fun _ _ _ _ => ok_value _ _ _ _ _ _ _ _ _ _ _ _ _ _ _ _ _ _ _ _ _ _, fun _ _ _ _ => ok_pt _ _ _⟩
  · have hn : ¬ nI st < nI L := nI_nlt q (by omega)
    exact ⟨fun h => absurd h hn, fun h => absurd h hn, fun h => absurd h hn, fun h => absurd h hn, fun h => absurd h hn, fun h => absurd h hn, fun h => absurd h hn, fun h => absurd h hn, fun h => absurd h hn⟩
theorem ok_cgs (k sel S : Int32) : okX4_coverGroups k sel S := by
  have h : ∀ a b d, okX4_cover S a b d := fun a b d => ⟨fun _ h => h, fun _ h => h, fun _ h => h⟩
  unfold okX4_coverGroups
  repeat' apply And.intro
  all_goals intros
  all_goals first | exact h _ _ _ | exact (fun h e => by rw [show S = 0 from e] at h; exact absurd h (by decide))
theorem ok_kind (F : Int32) (s1 s2 : Int32) (H im : Int32) (him : narrow .boolean (.int im) = .int im) : okX1_kindOf F s1 s2 H im := by
  unfold okX1_kindOf okX1_isMaskBitRight
  first | exact fun _ _ => him | exact fun _ => ⟨fun _ => him, fun _ _ => him⟩ | (intro _; repeat' apply And.intro <;> intros <;> exact him)
theorem Q3a : ∀ p ∈ PE, ∀ e ∈ E1, ∀ r, r < 32 → lgq p.1 p.2 e r = true → (e = 1 ∨ e = 8 ∨ e = 16 ∨ e = 32) ∧ r + gn p.1 p.2 e ≤ 32 ∧ gn p.1 p.2 e ≤ 8 ∧ 1 ≤ gn p.1 p.2 e := by decide +kernel
theorem Q3b : ∀ p ∈ PE, ∀ e ∈ E1, ∀ r, r < 32 → lgq p.1 p.2 e r = true → (e = 1 → gn p.1 p.2 e = 1) ∧ 16 * p.2 / p.1 * e ≤ gn p.1 p.2 e * 128 ∧ r % gn p.1 p.2 e = 0 ∧ gq p.1 p.2 e ≤ 64 := by decide +kernel
theorem Q3 {S E e r : Nat} (hp : (S, E) ∈ PE) (he : e ∈ E1) (hr : r < 32) (h : lgq S E e r = true) : (e = 1 ∨ e = 8 ∨ e = 16 ∨ e = 32) ∧ r + gn S E e ≤ 32 ∧ gn S E e ≤ 8 ∧ 1 ≤ gn S E e ∧ (e = 1 → gn S E e = 1) ∧ 16 * E / S * e ≤ gn S E e * 128 ∧ r % gn S E e = 0 ∧ gq S E e ≤ 64 := ⟨(Q3a (S, E) hp e he r hr h).1, (Q3a (S, E) hp e he r hr h).2.1, (Q3a (S, E) hp e he r hr h).2.2.1, (Q3a (S, E) hp e he r hr h).2.2.2, Q3b (S, E) hp e he r hr h⟩
theorem ex_gen {S E dw lw rw L st d s1 s2 : Nat} (hp : (S, E) ∈ PE) (hdw : dw ∈ E1) (hlw : lw ∈ E1) (hrw : rw ∈ E1) (hd : d < 32) (h1 : s1 < 32) (h2 : s2 < 32) (hL : L ≤ 128) (hst : st < 128) {k F H im : Int32} (hCG : CG S E k (nI s1) F dw lw rw) (hk : fX1_kindOf F (nI s1) (nI s2) H im = k) (hk0 : ¬ k = 0 ∧ ¬ k = 10 ∧ ¬ k = 11 ∧ ¬ k = 13 ∧ ¬ k = 17 ∧ ¬ k = 18) {tb : Int32} (hill : fX9_isIll tb = 0) (hz : st = 0 ∨ fX4_startsAtZero k = 0) (him : narrow .boolean (.int im) = .int im) (md sat : Int32) (c : Int64) (tm tt mo : Int32) (xS x : Nat → Int32) (rf re r8 rg : Int32) (rl : Int64) :
    ((okC S E k F im d dw s2 lw s1 rw ∧ fX4_execute (nI st) tb (nI S) (nI E) rf re r8 rg (nI 0) (nI 1) F (nI d) (nI s1) (nI s2) H im = 0 ∧ fX4_execute__xV (nI L) (nI st) md sat c tb (nI S) (nI E) tm tt mo xS x rf re r8 rg rl (nI 0) (nI 1) (nI 1) (fX10_ones (nI 1)) F (nI d) (nI s1) (nI s2) H im = cRun k (fX3_operation F H) (nI s1) (nI L) im (pX4_cover_31_S2 F (nI rw)) (fX4_prepare__n_second (nI S) xS F (nI s1)) (fX4_prepare__n_offset xS F (nI s1)) 0 (nI st) md sat c tm tt mo x S d dw (gn S E dw) s2 lw s1 rw ∧ fX4_execute__r_saturated (nI L) (nI st) md sat c tb (nI S) (nI E) tm mo xS x rf re r8 rg rl (nI 0) (nI 1) (nI 1) (fX10_ones (nI 1)) F (nI d) (nI s1) (nI s2) H im = cSat k (fX3_operation F H) (nI s1) (nI L) im (pX4_cover_31_S2 F (nI rw)) (fX4_prepare__n_second (nI S) xS F (nI s1)) (fX4_prepare__n_offset xS F (nI s1)) 0 (nI st) md sat c tm mo x S d dw s2 lw s1 rw) ∨
    (¬ okC S E k F im d dw s2 lw s1 rw ∧ fX4_execute (nI st) tb (nI S) (nI E) rf re r8 rg (nI 0) (nI 1) F (nI d) (nI s1) (nI s2) H im = 1 ∧ fX4_execute__xV (nI L) (nI st) md sat c tb (nI S) (nI E) tm tt mo xS x rf re r8 rg rl (nI 0) (nI 1) (nI 1) (fX10_ones (nI 1)) F (nI d) (nI s1) (nI s2) H im = x ∧ fX4_execute__r_saturated (nI L) (nI st) md sat c tb (nI S) (nI E) tm mo xS x rf re r8 rg rl (nI 0) (nI 1) (nI 1) (fX10_ones (nI 1)) F (nI d) (nI s1) (nI s2) H im = sat)) ∧ fX4_execute__xS (nI L) (nI st) tb (nI S) xS x (nI 0) (nI 1) (fX10_ones (nI 1)) F (nI d) (nI s1) (nI s2) H im = xS ∧ okX4_execute (nI L) (nI st) md sat c tb (nI S) (nI E) tm mo xS x rf re r8 rg rl (nI 0) (nI 1) (nI 1) (fX10_ones (nI 1)) F (nI d) (nI s1) (nI s2) H im := by
  obtain ⟨n0, n10, n11, n13, n17, n18⟩ := hk0
  obtain ⟨f0, f1, h_n_hasLeft, h_n_hasRight, h_tg_first, h_tg_eew, h_tg_registers, h_tg_full, h_lf_first, h_lf_eew, h_lf_eighths, h_lf_registers, h_lf_full, h_rt_first, h_rt_eew, h_rt_eighths, h_rt_registers, h_rt_full⟩ := hCG d s1 s2 L rf re r8 rg rl
  have hz' : ∀ {α : Type} (X Y : α), (if nI st = 0 then X else (if fX4_startsAtZero k = 0 then X else Y)) = X := by
    intro α X Y
    rcases hz with h | h
    · rw [if_pos (by rw [h]; decide)]
    · rw [if_pos h, ite_self]
  have hcv := cov_iff hp hdw hlw hrw hd h1 h2 F
  have hmm := mask_meets (d := d) (g := gn S E dw) (Q1 hp hdw).2.2.1 (by have := (Q1 hp hdw).2.2.2; omega)
  have c1 : fX4_coverGroups k (fX4_prepare__n_selector (nI s1)) (nI S) (nI E) F (nI d) (nI s1) (nI s2) = fX4_cover (nI S) (nI E) F (nI d) (nI s1) (nI s2) (nI dw) (nI lw) (nI rw) := f0
  have c2 : fX4_mayBeTarget k (fX4_prepare__n_isMasked im) (fX4_coverGroups__n_hasLeft k (fX4_prepare__n_selector (nI s1)) (nI S)) (fX4_coverGroups__n_hasRight k (nI S) F) (fX4_coverGroups__tg_first k (nI d)) (fX4_coverGroups__tg_eew k (nI S)) (fX4_coverGroups__tg_registers k (nI S) (nI E) (nI s1)) (fX4_coverGroups__lf_first k (nI s2)) (fX4_coverGroups__lf_eew k (fX4_prepare__n_selector (nI s1)) (nI S)) (fX4_coverGroups__lf_eighths k (fX4_prepare__n_selector (nI s1)) (nI S) (nI E) (nI s1)) (fX4_coverGroups__lf_registers k (fX4_prepare__n_selector (nI s1)) (nI S) (nI E) (nI s1)) (fX4_coverGroups__rt_first k rf (nI s1)) (fX4_coverGroups__rt_eew k (nI S) re) (fX4_coverGroups__rt_eighths k (nI S) (nI E) r8) (fX4_coverGroups__rt_registers k (nI S) (nI E) rg) (nI 0) (nI 1) = fX4_mayBeTarget k im (pX4_cover_10_S2 (nI lw)) (pX4_cover_31_S2 F (nI rw)) (nI d) (nI dw) (nI (gn S E dw)) (nI s2) (nI lw) (nI (gq S E lw)) (nI (gn S E lw)) (nI s1) (nI rw) (nI (gq S E rw)) (nI (gn S E rw)) (nI 0) (nI 1) := by
    unfold fX4_prepare__n_selector fX4_prepare__n_isMasked
    rw [h_n_hasLeft, h_n_hasRight, h_tg_first, h_tg_eew, h_tg_registers, h_lf_first, h_lf_eew, h_lf_eighths, h_lf_registers, h_rt_first, h_rt_eew, h_rt_eighths, h_rt_registers]
  have hmb := mbt_iff (k := k) (im := im) (hl := pX4_cover_10_S2 (nI lw)) (hr := pX4_cover_31_S2 F (nI rw)) (d := nI d) (dw := nI dw) (gd := nI (gn S E dw)) (s2 := nI s2) (lw := nI lw) (lq := nI (gq S E lw)) (lg := nI (gn S E lw)) (s1 := nI s1) (rw := nI rw) (rq := nI (gq S E rw)) (rg := nI (gn S E rw)) (m0 := nI 0) (m1 := nI 1)
  have hb := b10 hlw
  have hC : okC S E k F im d dw s2 lw s1 rw ↔ (¬ fX4_cover (nI S) (nI E) F (nI d) (nI s1) (nI s2) (nI dw) (nI lw) (nI rw) = 0 ∧ ¬ fX4_mayBeTarget k im (pX4_cover_10_S2 (nI lw)) (pX4_cover_31_S2 F (nI rw)) (nI d) (nI dw) (nI (gn S E dw)) (nI s2) (nI lw) (nI (gq S E lw)) (nI (gn S E lw)) (nI s1) (nI rw) (nI (gq S E rw)) (nI (gn S E rw)) (nI 0) (nI 1) = 0) := by
    rw [hcv, hmb, hmm]
    unfold okC okS
    constructor
    · rintro ⟨a1, a2, a3, a4⟩
      exact ⟨⟨a1, fun w => (a3 w).1, fun w => (a4 w).1⟩, a2, fun w => (a3 (fun e => w (hb.mpr e))).2, fun w => (a4 w).2⟩
    · rintro ⟨⟨a1, a2, a3⟩, b1, b2, b3⟩
      exact ⟨a1, b1, fun w => ⟨a2 w, b2 (fun e => w (hb.mp e))⟩, fun w => ⟨a3 w, b3 w⟩⟩
  have hxS : fX4_execute__xS (nI L) (nI st) tb (nI S) xS x (nI 0) (nI 1) (fX10_ones (nI 1)) F (nI d) (nI s1) (nI s2) H im = xS := by
    unfold fX4_execute__xS rX4_execute_47__xS
    simp only [hk, if_neg n0, if_pos hill, hz', if_neg n10, if_neg n11, if_neg n13, if_neg n17]
  have hok : okX4_execute (nI L) (nI st) md sat c tb (nI S) (nI E) tm mo xS x rf re r8 rg rl (nI 0) (nI 1) (nI 1) (fX10_ones (nI 1)) F (nI d) (nI s1) (nI s2) H im := by
    refine ⟨ok_kind _ _ _ _ _ him, fun _ _ => ⟨him, fun _ => ok_scalar s1 h1⟩, fun _ _ h => absurd (hk.symm.trans h) n10, fun _ _ _ h => absurd (hk.symm.trans h) n11, fun _ _ _ _ h => absurd (hk.symm.trans h) n13, fun _ _ _ _ _ h => absurd (hk.symm.trans h) n17, fun _ _ _ _ _ _ h => absurd (hk.symm.trans h) n18, fun _ _ _ _ _ _ _ => ok_cgs _ _ _, ?_⟩
    rw [hk]
    intro _ _ _ _ _ _ _ hcg _
    rw [c1, hcv] at hcg
    obtain ⟨g1, g2, g3, g4, g5, g6, g7⟩ := Q3 hp hdw hd hcg.1
    obtain ⟨b, hb, eb⟩ := off_ge xS h1 F
    have e1 : fX4_coverGroups__n_length k (fX4_prepare__n_length (nI L)) (nI S) (nI s1) = nI L := f1
    rw [e1, h_tg_eew, h_tg_registers]
    exact ok_run _ _ _ _ _ _ hb eb _ hL hst (by omega) (by omega) g3 _ _ _ _ _ _ _ _ _ _ _ _ _ _ _ _ _ _ _ _ _
  refine ⟨?_, hxS, hok⟩
  by_cases q : okC S E k F im d dw s2 lw s1 rw
  · obtain ⟨q1, q2⟩ := hC.mp q
    refine Or.inl ⟨q, ?_, ?_, ?_⟩
    · unfold fX4_execute rX4_execute_47 pX4_execute_183_S1
      simp only [hk, if_neg n0, if_pos hill, hz', if_neg n10, if_neg n11, if_neg n13, if_neg n17, if_neg n18, c1, c2, if_neg q1, if_neg q2]
      rfl
    · unfold fX4_execute__xV rX4_execute_47__xV pX4_execute_183_xV
      simp only [hk, if_neg n0, if_pos hill, hz', if_neg n10, if_neg n11, if_neg n13, if_neg n17, if_neg n18, c1, c2, if_neg q1, if_neg q2]
      have e1 : fX4_coverGroups__n_length k (fX4_prepare__n_length (nI L)) (nI S) (nI s1) = nI L := f1
      rw [e1, h_n_hasRight, h_tg_first, h_tg_eew, h_tg_registers, h_tg_full, h_lf_first, show fX4_coverGroups__lf_eew k (fX4_prepare__n_selector (nI s1)) (nI S) = nI lw from h_lf_eew, show fX4_coverGroups__lf_full k (fX4_prepare__n_selector (nI s1)) (nI S) = fX10_ones (nI lw) from h_lf_full, h_rt_first, h_rt_eew, h_rt_full]
      rfl
    · unfold fX4_execute__r_saturated rX4_execute_47__r_saturated pX4_execute_183_r_saturated
      simp only [hk, if_neg n0, if_pos hill, hz', if_neg n10, if_neg n11, if_neg n13, if_neg n17, if_neg n18, c1, c2, if_neg q1, if_neg q2]
      have e1 : fX4_coverGroups__n_length k (fX4_prepare__n_length (nI L)) (nI S) (nI s1) = nI L := f1
      rw [e1, h_n_hasRight, h_tg_first, h_tg_eew, h_tg_full, h_lf_first, show fX4_coverGroups__lf_eew k (fX4_prepare__n_selector (nI s1)) (nI S) = nI lw from h_lf_eew, show fX4_coverGroups__lf_full k (fX4_prepare__n_selector (nI s1)) (nI S) = fX10_ones (nI lw) from h_lf_full, h_rt_first, h_rt_eew, h_rt_full]
      rfl
  · have q' : fX4_cover (nI S) (nI E) F (nI d) (nI s1) (nI s2) (nI dw) (nI lw) (nI rw) = 0 ∨ fX4_mayBeTarget k im (pX4_cover_10_S2 (nI lw)) (pX4_cover_31_S2 F (nI rw)) (nI d) (nI dw) (nI (gn S E dw)) (nI s2) (nI lw) (nI (gq S E lw)) (nI (gn S E lw)) (nI s1) (nI rw) (nI (gq S E rw)) (nI (gn S E rw)) (nI 0) (nI 1) = 0 := by
      refine Classical.byContradiction (fun w => q (hC.mpr ⟨fun e => w (Or.inl e), fun e => w (Or.inr e)⟩))
    have hq : ∀ {α : Type} (X Y : α), (if fX4_cover (nI S) (nI E) F (nI d) (nI s1) (nI s2) (nI dw) (nI lw) (nI rw) = 0 then X else (if fX4_mayBeTarget k im (pX4_cover_10_S2 (nI lw)) (pX4_cover_31_S2 F (nI rw)) (nI d) (nI dw) (nI (gn S E dw)) (nI s2) (nI lw) (nI (gq S E lw)) (nI (gn S E lw)) (nI s1) (nI rw) (nI (gq S E rw)) (nI (gn S E rw)) (nI 0) (nI 1) = 0 then X else Y)) = X := by
      intro α X Y
      rcases q' with h | h
      · rw [if_pos h]
      · rw [if_pos h, ite_self]
    refine Or.inr ⟨q, ?_, ?_, ?_⟩
    · unfold fX4_execute rX4_execute_47 pX4_execute_183_S1
      simp only [hk, if_neg n0, if_pos hill, hz', if_neg n10, if_neg n11, if_neg n13, if_neg n17, if_neg n18, c1, c2]
      simp only [hq]
    · unfold fX4_execute__xV rX4_execute_47__xV pX4_execute_183_xV
      simp only [hk, if_neg n0, if_pos hill, hz', if_neg n10, if_neg n11, if_neg n13, if_neg n17, if_neg n18, c1, c2]
      simp only [hq]
    · unfold fX4_execute__r_saturated rX4_execute_47__r_saturated pX4_execute_183_r_saturated
      simp only [hk, if_neg n0, if_pos hill, hz', if_neg n10, if_neg n11, if_neg n13, if_neg n17, if_neg n18, c1, c2]
      simp only [hq]
