/-! ===== Port.execute and moves ===== -/
def MS (vt ms ml : Int32) : Prop := (vt = (-2147483648) ∧ ms = nI 8 ∧ ml = nI 8) ∨ ∃ v, v < 256 ∧ legalT v = true ∧ vt = nI v ∧ ms = nI (tyS v) ∧ ml = nI (tyE v)
theorem ok_tailM (z : Nat → Int32) {r e g e8 k : Nat} (he : okB e) (hg : g ≤ 8) (hreg : fX11_registers (nI e8) = nI g) (hr : r + g ≤ 32) (hk : k < 2 ^ 30) (c : Int64) (vt : Int32) : okX11_tail c vt z (nI r) (nI e) (nI e8) (nI k) := by
  have hle := he.le
  have hc2 : fX11_registers (nI e8) * (128 : Int32) / nI e = nI (g * 128 / e) := by rw [hreg, nI128, pk_mul, pk_div (by omega) (by omega) (by omega)]
  have hb : g * 128 / e ≤ g * 128 := Nat.div_le_self _ _
  unfold okX11_tail
  rw [hc2, cnt_nI (by omega) (by omega)]
  refine ⟨fun _ => nI_ne0 (by omega) (by omega), ?_⟩
  rcases Nat.lt_or_ge k (g * 128 / e) with q | q
  · rw [itX11_tail_24 (b9 := g * 128 / e) _ _ _ _ hc2 (by omega) (g * 128 / e - k) k z (by omega), show k + (g * 128 / e - k) = g * 128 / e by omega]
    exact ⟨fun _ => ktX11_tail_24 (b9 := g * 128 / e) _ _ _ _ hc2 (by omega) (fun _ _ => True) (fun a w _ ha => ⟨fun _ => ok_open w he (by have := cap_in he.E (g := g) (i := a) ha; omega) c, True.intro⟩) (g * 128 / e - k) k z (by omega) True.intro, fun _ => ntX11_tail_24 c (nI r) _ _ (b9 := g * 128 / e) hc2 (by omega) _, fun _ h => absurd (Int32.le_refl _) h⟩
  · rw [show g * 128 / e - k = 0 by omega]
    refine ⟨fun _ => True.intro, ?_, fun _ h => absurd (nI_le q (by omega)) h⟩
    intro _
    show ¬ tX11_tail_24 (nI e) (nI e8) (nI k) z
    unfold tX11_tail_24
    rw [hc2, if_pos (nI_le q (by omega))]; exact id
theorem wk_fin (c : Int64) (vt : Int32) {d s1 s2 W to st : Nat} (hto : to ≤ 128) (hst : st < 128) (un : Int32) (zX zV zO zM zS : Nat → Int32) (u1 u4 u5 u7 : Int32) : ∃ e, e ≤ 128 ∧ (LX11_walks_6 c vt (nI d) (nI s1) (nI s2) un zX zO zS u1 (nI W) (nI to) u4 u5 u7 (NX11_walks_6 c vt (nI d) (nI s1) (nI s2) un zX zO zS u1 (nI W) (nI to) u4 u5 u7 600 (nI st, zV, zM)) (nI st, zV, zM)).1 = nI e := by
  rw [Lw_eq]
  rcases Nat.lt_or_ge st to with q | q
  · obtain ⟨e, a1, a2, a3, a4, a5⟩ := run_rel (fun i s t => s.1 = nI i ∧ s = t) (tw (nI s1) (nI s2) un zX zO zS (nI W) (nI to) u4 u5 u7) (bw c vt (nI d) (nI s1) (nI s2) un zX zO zS u1 (nI W) (nI to) u4 u5 u7) (tw (nI s1) (nI s2) un zX zO zS (nI W) (nI to) u4 u5 u7) (bw c vt (nI d) (nI s1) (nI s2) un zX zO zS u1 (nI W) (nI to) u4 u5 u7) to (by
      intro i s t hi ⟨h1, h2⟩
      subst h2
      exact ⟨Iff.rfl, fun q => ⟨bw_next h1 q, rfl⟩⟩) (by
      intro s t ⟨h1, h2⟩
      subst h2
      exact ⟨tw_end (by rw [h1]; exact Int32.le_refl _), tw_end (by rw [h1]; exact Int32.le_refl _)⟩) (to - st) st 600 600 (nI st, zV, zM) (nI st, zV, zM) (by omega) (by omega) (by omega) ⟨rfl, rfl⟩
    exact ⟨e, by omega, a3.1⟩
  · have hn : ¬ tw (nI s1) (nI s2) un zX zO zS (nI W) (nI to) u4 u5 u7 (nI st, zV, zM) := tw_end (nI_le q (by omega))
    have e1 : run (tw (nI s1) (nI s2) un zX zO zS (nI W) (nI to) u4 u5 u7) (bw c vt (nI d) (nI s1) (nI s2) un zX zO zS u1 (nI W) (nI to) u4 u5 u7) 600 (nI st, zV, zM) = (nI st, zV, zM) := if_neg hn
    rw [e1]
    exact ⟨st, by omega, rfl⟩
theorem wk_vl (c : Int64) (vt : Int32) {d s1 s2 W to st vl : Nat} (hto : to ≤ 128) (hst : st < 128) (hvl : vl ≤ 128) (un : Int32) (zX zV zO zM zS : Nat → Int32) (u1 u4 u5 u6 u7 : Int32) : ∃ l, l ≤ 128 ∧ fX11_walks__m_vl c (nI vl) vt (nI st) (nI d) (nI s1) (nI s2) un zX zV zO zM zS u1 (nI W) (nI to) u4 u5 u6 u7 = nI l := by
  obtain ⟨e, he, h⟩ := wk_fin c vt (d := d) (s1 := s1) (s2 := s2) (W := W) hto hst un zX zV zO zM zS u1 u4 u5 u7
  unfold fX11_walks__m_vl eX11_walks_108
  rw [h]
  by_cases q1 : nI to ≤ nI e
  · rw [if_pos q1]; exact ⟨vl, hvl, rfl⟩
  · rw [if_neg q1, ite_self]
    by_cases q2 : u6 = 0
    · rw [if_pos q2]; exact ⟨vl, hvl, rfl⟩
    · rw [if_neg q2]
      by_cases q3 : nI e ≤ 0
      · rw [if_pos q3]; exact ⟨vl, hvl, rfl⟩
      · rw [if_neg q3]; exact ⟨e, he, rfl⟩
theorem wOf (f : Int32) : (fX7_widthOf f = 0 ∧ pX11_moves_40_S1 f = 0) ∨ ∃ W, okB W ∧ W ∈ eews ∧ fX7_widthOf f = nI W ∧ pX11_moves_40_S1 f = nI W := by
  have e : pX11_moves_40_S1 f = fX7_widthOf f := rfl
  rw [e]
  unfold fX7_widthOf
  by_cases h0 : f = 0
  · rw [if_pos h0]; exact Or.inr ⟨8, Or.inl rfl, by decide, by decide, by decide⟩
  · rw [if_neg h0]
    by_cases h5 : f = 5
    · rw [if_pos h5]; exact Or.inr ⟨16, Or.inr (Or.inl rfl), by decide, by decide, by decide⟩
    · rw [if_neg h5]
      by_cases h6 : f = 6
      · rw [if_pos h6]; exact Or.inr ⟨32, Or.inr (Or.inr rfl), by decide, by decide, by decide⟩
      · rw [if_neg h6]; exact Or.inl ⟨rfl, rfl⟩
theorem wh_1 : ∀ n ∈ [1, 2, 4, 8], ∀ d, d < 32 → ∀ W ∈ [8, 16, 32], (fX2_isLegal (nI d) (nI W) ((8 : Int32) * nI n) (fX2_cover__g_registers ((8 : Int32) * nI n)) = if d % n = 0 then 1 else 0) ∧ (irem (nI d) (nI n) = 0 ↔ d % n = 0) ∧ fX2_cover__g_registers ((8 : Int32) * nI n) = nI n ∧ (d % n = 0 → d + n ≤ 32) := by decide +kernel
theorem wh_2 : ∀ n, n < 9 → ¬ n ∈ [1, 2, 4, 8] → ¬ nI n = 1 ∧ ¬ nI n = 2 ∧ ¬ nI n = 4 ∧ ¬ nI n = 8 := by decide +kernel
theorem wh_3 {n : Nat} (hn : n ∈ [1, 2, 4, 8]) (d un u1 W : Int32) : pX11_wholeMoves_52_S1 d un u1 W (nI n) = (if un = 0 then 0 else (if irem d (nI n) = 0 then (if u1 = 0 then (if W = 8 then 1 else 0) else 1) else 0)) ∧ pX7_coverWhole_26_S1 (nI n) = 1 := by
  unfold pX11_wholeMoves_52_S1 pX7_coverWhole_26_S1
  rcases List.mem_cons.mp hn with rfl | hn
  · simp (decide := true) only [if_true, if_false, and_self]
  · rcases List.mem_cons.mp hn with rfl | hn
    · simp (decide := true) only [if_true, if_false, and_self]
    · rcases List.mem_cons.mp hn with rfl | hn
      · simp (decide := true) only [if_true, if_false, and_self]
      · rcases List.mem_cons.mp hn with rfl | hn
        · simp (decide := true) only [if_true, if_false, and_self]
        · exact absurd hn (List.not_mem_nil)
theorem okB.mem {W : Nat} (h : okB W) : W ∈ [8, 16, 32] := by
  rcases h with rfl | rfl | rfl <;> decide
theorem ok_cover (isS im tb ts u : Int32) {s2 : Nat} (h2 : s2 < 32) (W : Int32) : okX7_cover isS im tb ts u (nI s2) W := by
  have hp : ∀ a, okX7_coverPlain ts a := fun a _ h => h
  refine ⟨fun _ _ _ _ h e => ?_, fun _ _ _ => ⟨fun _ => hp _, fun _ _ _ _ => hp _⟩, fun _ _ _ _ => ok_scalar s2 h2, fun _ _ _ _ => hp _, fun _ _ _ _ => ⟨fun _ h => h, hp _⟩⟩
  rw [show W = 0 from e] at h
  exact absurd h (by decide)
theorem isIll_v : ∀ v, v < 256 → fX9_isIll (nI v) = 0 ∧ fX11_isIll (nI v) = 0 := by decide +kernel
/-- the data of a legal type -/
theorem ty_all {vt ms ml tb ts te tm tt tk : Int32} (hT : TI vt tb ts te tm tt tk) (hMS : MS vt ms ml) {L : Nat} (hL : VLok vt L) (hi : fX11_isIll vt = 0) : ∃ S E, (S, E) ∈ PE ∧ ms = nI S ∧ ml = nI E ∧ ts = nI S ∧ te = nI E ∧ L ≤ 16 * E / S ∧ L ≤ 128 ∧ tt = fX11_isTailOpen vt ∧ tk = fX11_isMaskOpen vt ∧ S ∈ eews ∧ okB S := by
  obtain ⟨_, h⟩ := hT
  rcases h with ⟨h, _⟩ | ⟨v, hv, hl, e, e1, e2, e3, e4, e5⟩
  · rw [h] at hi; exact absurd hi (by decide)
  · have hm : ms = nI (tyS v) ∧ ml = nI (tyE v) := by
      rcases hMS with ⟨h, _⟩ | ⟨v2, hv2, hl2, e', e6, e7⟩
      · rw [h] at hi; exact absurd hi (by decide)
      · have : v = v2 := (nI_eq (by omega) (by omega)).mp (e.symm.trans e')
        subst this
        exact ⟨e6, e7⟩
    obtain ⟨M, hM1, hM2, hM3⟩ := hL
    have hr := ty_ref v hv hl
    have hn := ty_nums v hv hl
    rw [e, hr.2.2.1] at hM1
    have : tyM v = M := (nI_eq (by omega) (by omega)).mp hM1
    subst this
    have hS : okB (tyS v) := hn.1
    refine ⟨tyS v, tyE v, ty_PE v hv hl, hm.1, hm.2, e1, e2, hM3, by omega, e4, e5, ?_, hS⟩
    rcases hn.1 with h | h | h <;> rw [h] <;> decide
theorem VLok.le {vt : Int32} {L : Nat} (h : VLok vt L) : L ≤ 128 := by
  obtain ⟨M, _, h2, h3⟩ := h; omega
theorem vp32 {k : Nat} (h : k < 32) : vp_in (nI k) 32 := vp_in_nI h (by decide)
theorem G1 {S E e : Nat} (hp : (S, E) ∈ PE) (he : e ∈ eews) : fX9_eighthsFor (nI S) (nI E) (nI e) = nI (gE S E e) ∧ fX11_emul (nI S) (nI E) (nI e) = nI (gE S E e) ∧ fX2_cover__g_registers (nI (gE S E e)) = nI (gN S E e) ∧ fX11_registers (nI (gE S E e)) = nI (gN S E e) ∧ (gN S E e = 1 ∨ gN S E e = 2 ∨ gN S E e = 4 ∨ gN S E e = 8 ∨ ¬ gE S E e ≤ 64) ∧ 16 * gE S E e ≤ gN S E e * 128 ∧ gE S E e < 1000 := g_1 (S, E) hp e he
theorem G2 {S E e r : Nat} (hp : (S, E) ∈ PE) (he : e ∈ eews) (hr : r < 32) : fX2_isLegal (nI r) (nI e) (nI (gE S E e)) (nI (gN S E e)) = (if legalG S E e r = true then 1 else 0) ∧ fX11_isGroup (nI S) (nI E) (nI r) (nI e) = (if legalG S E e r = true then 1 else 0) := g_2 (S, E) hp e he r hr
theorem G3 {S E e r : Nat} (hp : (S, E) ∈ PE) (he : e ∈ eews) (hr : r < 32) (hl : legalG S E e r = true) : r + gN S E e ≤ 32 ∧ okW e = true ∧ 16 * E / S * e ≤ gN S E e * 128 ∧ gN S E e ≤ 8 ∧ 1 ≤ gN S E e ∧ r % gN S E e = 0 := g_3 (S, E) hp e he r hr hl
theorem legal_of {S E e r : Nat} (hp : (S, E) ∈ PE) (he : e ∈ eews) (hr : r < 32) (h : ¬ fX11_isGroup (nI S) (nI E) (nI r) (nI e) = 0) : legalG S E e r = true := by
  rw [(G2 hp he hr).2] at h
  by_cases q : legalG S E e r = true
  · exact q
  · exact absurd (if_neg q) h
theorem mb_ok {to d : Nat} (hd : d < 32) (hto : to ≤ 16) (c : Int64) (vl vt vst vs1 vs2 un : Int32) (zX zV zO zM zS z2 : Nat → Int32) (u1 : Int32) : KX11_moves_187 c vl vt vst (nI d) vs1 vs2 un zX zV zO zM zS u1 (NX11_moves_187 c vl vt vst (nI d) vs1 vs2 un zX zV zO zM zS u1 20 (nI to, z2)) (nI to, z2) ∧ (¬ tX11_moves_187 c vl vt vst (nI d) vs1 vs2 un zX zV zO zM zS u1 (LX11_moves_187 c vl vt vst (nI d) vs1 vs2 un zX zV zO zM zS u1 (NX11_moves_187 c vl vt vst (nI d) vs1 vs2 un zX zV zO zM zS u1 20 (nI to, z2)) (nI to, z2)).1 (LX11_moves_187 c vl vt vst (nI d) vs1 vs2 un zX zV zO zM zS u1 (NX11_moves_187 c vl vt vst (nI d) vs1 vs2 un zX zV zO zM zS u1 20 (nI to, z2)) (nI to, z2)).2) ∧ (¬ (16 : Int32) ≤ (LX11_moves_187 c vl vt vst (nI d) vs1 vs2 un zX zV zO zM zS u1 (NX11_moves_187 c vl vt vst (nI d) vs1 vs2 un zX zV zO zM zS u1 20 (nI to, z2)) (nI to, z2)).1 → ¬ u1 = 0 → ¬ eX11_moves_181 c vl vt vst (nI d) vs1 vs2 un zX zV zO zM zS u1 = 0) := by
  rw [Lm_eq, Nm_eq, Km_eq]
  have h16 : ∀ i, i < 16 → ¬ (16 : Int32) ≤ nI i := fun i hi => by rw [show (16 : Int32) = nI 16 from nI16]; exact nI_ge hi (by decide)
  by_cases q : u1 = 0 ∨ ¬ eX11_moves_181 c vl vt vst (nI d) vs1 vs2 un zX zV zO zM zS u1 = 0
  · have hn : ∀ s, ¬ tm c vl vt vst (nI d) vs1 vs2 un zX zV zO zM zS u1 s := by
      intro s
      unfold tm tX11_moves_187
      rcases q with q | q
      · rw [if_pos q, ite_self]; exact id
      · rw [if_neg q, ite_self, ite_self]; exact id
    have e1 : run (tm c vl vt vst (nI d) vs1 vs2 un zX zV zO zM zS u1) (bm c vl vt vst (nI d) vs1 vs2 un zX zV zO zM zS u1) 20 (nI to, z2) = (nI to, z2) := if_neg (hn _)
    have e2 : NR (tm c vl vt vst (nI d) vs1 vs2 un zX zV zO zM zS u1) (bm c vl vt vst (nI d) vs1 vs2 un zX zV zO zM zS u1) 20 (nI to, z2) = 0 := if_neg (hn _)
    rw [e1, e2]
    refine ⟨True.intro, hn (nI to, z2), fun _ a b => ?_⟩
    rcases q with q | q
    · exact a q
    · exact q b
  · have q1 : ¬ u1 = 0 := fun h => q (Or.inl h)
    have q2 : eX11_moves_181 c vl vt vst (nI d) vs1 vs2 un zX zV zO zM zS u1 = 0 := Classical.byContradiction (fun h => q (Or.inr h))
    have hb : ∀ i s, i < 16 → bm c vl vt vst (nI d) vs1 vs2 un zX zV zO zM zS u1 (nI i, s) = (nI (i + 1), fX11_open__zV c s (nI d) (nI 8) (nI i)) := by
      intro i s hi
      unfold bm bX11_moves_187_L7 bX11_moves_187_zV
      simp only [if_neg (h16 i hi), if_neg q1, if_pos q2]
      rw [show (1 : Int32) = nI 1 by decide, nI_add]; rfl
    have ht : ∀ s, ¬ tm c vl vt vst (nI d) vs1 vs2 un zX zV zO zM zS u1 (nI 16, s) := by
      intro s
      unfold tm tX11_moves_187
      rw [if_pos (show (16 : Int32) ≤ nI 16 by decide)]; exact id
    have hr := run_itr (tm c vl vt vst (nI d) vs1 vs2 un zX zV zO zM zS u1) (bm c vl vt vst (nI d) vs1 vs2 un zX zV zO zM zS u1) (fun k s => fX11_open__zV c s (nI d) (nI 8) (nI k)) 16 (by
      intro i s hi
      unfold tm tX11_moves_187
      rw [if_neg (h16 i hi), if_neg q1, if_pos q2]; exact True.intro) ht hb (16 - to) to 20 z2 (by omega) (by omega)
    rw [hr]
    refine ⟨?_, ht _, fun h => absurd (show (16 : Int32) ≤ nI 16 by decide) h⟩
    exact run_K (fun i s => s.1 = nI i) _ _ _ 16 (fun i s hi h q => by
      obtain ⟨s1, s2⟩ := s
      have h : s1 = nI i := h
      subst h
      refine ⟨fun _ _ _ => ?_, by rw [hb i s2 hi]⟩
      rw [show (8 : Int32) = nI 8 from nI8]
      exact ok_open _ (Or.inl rfl) (by omega) c) (fun s h => by
      obtain ⟨s1, s2⟩ := s
      have h : s1 = nI 16 := h
      subst h
      exact ht s2) 20 to _ (by omega) rfl
theorem ok_moves {vt ms ml tb ts te tm tt tk : Int32} (hT : TI vt tb ts te tm tt tk) (hMS : MS vt ms ml) {L st : Nat} (hL : VLok vt L) (hst : st < 128) (c : Int64) (u un u1 f : Int32) {d s1 s2 : Nat} (hd : d < 32) (h1 : s1 < 32) (h2 : s2 < 32) (zX z zO m zS : Nat → Int32) : okX11_moves c (nI L) vt (nI st) u (nI d) (nI s1) (nI s2) f ms ml un zX z zO m zS u1 := by
  rcases wOf f with ⟨_, w2⟩ | ⟨W, hW, hWe, _, w2⟩
  · unfold okX11_moves
    exact ⟨fun h => absurd w2 h, fun h => absurd w2 h, fun h => absurd w2 h, fun h => absurd w2 h, fun h => absurd w2 h, fun h => absurd w2 h, fun h => absurd w2 h, fun h => absurd w2 h, fun h => absurd w2 h, fun h => absurd w2 h, fun h => absurd w2 h, fun h => absurd w2 h⟩
  have hle := hW.le
  have hL2 := hL.le
  have hn3 : sru u 29 + 1 = nI (fld u 29 3 + 1) := by rw [show sru u 29 = nI (fld u 29 3) from fld_top (u := u) (k := 29) (n := 3) (by decide) (by decide), show (1 : Int32) = nI 1 by decide, nI_add]
  have hf3 := fld_lt u 29 3
  have C1 : okX11_wholeMoves c vt (nI st) (nI d) (nI s1) (nI s2) un zX z zO m zS u1 (nI W) (nI (fld u 29 3 + 1)) := by
    have hz : ∀ k : Int32, ¬ k = 0 → nI (fld u 29 3 + 1) = k → ¬ nI (fld u 29 3 + 1) = 0 := fun k hk e h => hk (e.symm.trans h)
    refine ⟨fun _ => hz 1 (by decide), fun _ _ => hz 2 (by decide), fun _ _ _ => hz 4 (by decide), fun _ _ _ _ => hz 8 (by decide), fun _ => nI_ne0 (by omega) (by omega), fun h => ?_⟩
    by_cases hn : fld u 29 3 + 1 ∈ [1, 2, 4, 8]
    · rw [(wh_3 hn _ _ _ _).1] at h
      have hq : irem (nI d) (nI (fld u 29 3 + 1)) = 0 := by
        refine Classical.byContradiction (fun q => h ?_)
        rw [if_neg q, ite_self]
      obtain ⟨_, b2, _, b4⟩ := wh_1 _ hn d hd W hW.mem
      have b5 := b4 (b2.mp hq)
      have hb : (fld u 29 3 + 1) * 128 / W * W ≤ (fld u 29 3 + 1) * 128 := Nat.div_mul_le_self _ _
      have hb2 : (fld u 29 3 + 1) * 128 / W ≤ (fld u 29 3 + 1) * 128 / 8 := Nat.div_le_div_left hle.1 (by decide)
      have e : nI (fld u 29 3 + 1) * 128 / nI W = nI ((fld u 29 3 + 1) * 128 / W) := by rw [nI128, pk_mul, pk_div (by omega) (by omega) (by omega)]
      rw [e]
      exact walks_ok (B := 8) c vt hW (by omega) hst (by omega) h1 un zX z zO m zS u1 _ 1 (Or.inl rfl)
    · obtain ⟨n1, n2, n4, n8⟩ := wh_2 _ (by omega) hn
      unfold pX11_wholeMoves_52_S1 at h
      rw [if_neg n1, if_neg n2, if_neg n4, if_neg n8, ite_self] at h
      exact absurd rfl h
  by_cases hi : fX11_isIll vt = 0
  case neg =>
    unfold okX11_moves
    rw [w2, hn3]
    exact ⟨fun _ _ _ _ => C1, fun _ _ _ _ h => absurd h hi, fun _ _ _ _ h => absurd h hi, fun _ _ _ _ h => absurd h hi, fun _ _ _ _ h => absurd h hi, fun _ _ _ _ h => absurd h hi, fun _ _ _ _ h => absurd h hi, fun _ _ _ _ h => absurd h hi, fun _ _ _ _ h => absurd h hi, fun _ _ _ _ h => absurd h hi, fun _ _ _ _ h => absurd h hi, fun _ _ _ _ h => absurd h hi⟩
  obtain ⟨S, E, hp, e1, e2, e3, e4, hLM, _, e5, e6, hSe, hSB⟩ := ty_all hT hMS hL hi
  have hto : (nI L + 7) / 8 = nI ((L + 7) / 8) := by rw [show (7 : Int32) = nI 7 by decide, nI_add, nI8, pk_div (by omega) (by decide) (by decide)]
  have hD : ∃ D, D ∈ eews ∧ okB D ∧ pX11_moves_252_S1 u f ms = nI D := by
    unfold pX11_moves_252_S1
    rw [w2, e1]
    by_cases q : pX11_moves_237_S1 u = 0
    · rw [if_pos q]; exact ⟨W, hWe, hW, rfl⟩
    · rw [if_neg q]; exact ⟨S, hSe, hSB, rfl⟩
  obtain ⟨D, hDe, hDB, eD⟩ := hD
  have hDl := hDB.le
  obtain ⟨k1, k2, k3⟩ := mb_ok (to := (L + 7) / 8) hd (by omega) c (nI L) vt (nI st) (nI s1) (nI s2) un zX z zO m zS (fX11_walks__zV c vt (nI st) (nI d) (nI s1) (nI s2) un zX z zO m zS u1 8 (nI ((L + 7) / 8)) 1 1 0) u1
  have C2 : okX11_walks c vt (nI st) (nI d) (nI s1) (nI s2) un zX z zO m zS u1 8 (nI ((L + 7) / 8)) 1 1 0 := by
    have h := walks_ok (W := 8) (to := (L + 7) / 8) (s2 := s2) (B := 8) c vt (Or.inl rfl) (by omega) hst (by omega) h1 un zX z zO m zS u1 1 1 (d := d) (u7 := 0) (Or.inl rfl)
    rw [← nI8] at h
    exact h
  have hg : ¬ fX11_isGroup ms ml (nI d) (nI D) = 0 → legalG S E D d = true := by
    rw [e1, e2]; exact legal_of hp hDe hd
  unfold okX11_moves
  rw [hn3, w2, hto, eD]
  refine ⟨fun _ _ _ _ => C1, fun _ _ _ _ _ _ _ _ _ _ => C2, fun _ _ _ _ _ _ _ _ _ _ => k1, fun _ _ _ _ _ _ _ _ _ _ => k2, fun _ _ _ _ _ _ _ _ _ _ a b d => absurd d (k3 a b), fun _ _ _ _ _ _ _ => ?_, fun _ _ _ _ _ _ _ _ _ _ => ?_, fun _ _ _ _ _ _ _ _ _ _ _ _ => ?_, fun _ _ _ _ _ _ _ _ _ _ _ _ => vp32 h2, fun _ _ _ _ _ _ _ h _ hj _ => ?_, fun _ _ _ _ _ _ _ _ _ _ _ _ _ => ?_, fun _ _ _ _ _ _ _ h _ _ _ _ _ => ?_⟩
  · rw [e1, e2]; exact ((g_0 hp hDe).2 0).1
  · rw [e1, e2]; exact ((g_0 hp hWe).2 0).1
  · rw [e1]; exact (g_0 hp hWe).1
  · obtain ⟨a1, a2, a3, a4, a5, a6⟩ := G3 hp hDe hd (hg h)
    have hb : L * D ≤ 16 * E / S * D := Nat.mul_le_mul_right _ hLM
    refine walks_ok (B := W) c vt hDB hL2 hst (by omega) h1 un zX z zO m zS u1 _ 0 ?_
    unfold pX11_moves_430_S8
    by_cases q : pX11_moves_237_S1 u = 0
    · rw [if_pos q]; exact Or.inl rfl
    · rw [if_neg q, w2]
      refine Or.inr ⟨rfl, hW, fun i hi => ?_⟩
      unfold jX11_moves_377 at hj
      rw [if_neg q, w2, e1, e2] at hj
      have hgs : legalG S E W s2 = true := by
        refine legal_of hp hWe h2 (fun w => ?_)
        rw [if_pos w] at hj; exact hj
      obtain ⟨b1, b2, b3, b4, b5, b6⟩ := G3 hp hWe h2 hgs
      have hb : (i + 1) * W ≤ 16 * E / S * W := Nat.mul_le_mul_right _ (by omega)
      have : (i + 1) * W = i * W + W := Nat.succ_mul i W
      omega
  · rw [e1]; exact (g_0 hp hWe).1
  · obtain ⟨a1, a2, a3, a4, a5, a6⟩ := G3 hp hDe hd (hg h)
    obtain ⟨b1, b2, b3, b4, b5⟩ := G1 hp hDe
    obtain ⟨l, hl, hl2⟩ := wk_vl c vt (d := d) (s1 := s1) (s2 := s2) (W := D) (to := L) (st := st) (vl := L) hL2 hst hL2 un zX z zO m zS u1 (pX11_moves_417_S5 u (nI s2) f ms zX) 0 (pX11_moves_277_S1 u (nI s2) u1) (pX11_moves_430_S8 u f)
    rw [hl2, e1, e2, b2]
    exact ok_tailM _ hDB a4 b4 a1 (by omega) c vt
/-- the group that is moved -/
theorem pl_cond {S E W d : Nat} (hp : (S, E) ∈ PE) (hWe : W ∈ eews) (hd : d < 32) {isS im un u1 : Int32} (hS : isS = 0 ↔ ¬ u1 = 0) (hmu : im = 0 ↔ ¬ un = 0) :
    (fX7_coverPlain isS im (nI S) (nI E) (nI 0) (nI 1) (nI d) (nI W) = 0 ∧ ∀ {α : Type} (X Y : α), (if fX11_isGroup (nI S) (nI E) (nI d) (nI W) = 0 then Y else (if u1 = 0 then X else (if fX11_mayMask un (nI d) = 0 then Y else X))) = Y) ∨
    (¬ fX7_coverPlain isS im (nI S) (nI E) (nI 0) (nI 1) (nI d) (nI W) = 0 ∧ legalG S E W d = true ∧ (isS = 0 → im = 0 ∨ ¬ d = 0) ∧ ∀ {α : Type} (X Y : α), (if fX11_isGroup (nI S) (nI E) (nI d) (nI W) = 0 then Y else (if u1 = 0 then X else (if fX11_mayMask un (nI d) = 0 then Y else X))) = X) := by
  obtain ⟨b1, b2, b3, b4, b5⟩ := G1 hp hWe
  obtain ⟨c1, c2⟩ := G2 hp hWe hd
  unfold fX7_coverPlain pX7_coverPlain_45_S1 fX2_cover__g_first fX2_cover__g_eew fX2_cover__g_eighths
  rw [b1, b3, c1, c2]
  by_cases q : legalG S E W d = true
  · obtain ⟨a1, a2, a3, a4, a5, a6⟩ := G3 hp hWe hd q
    have hmm := mask_meets (d := d) (g := gN S E W) a5 (by omega)
    simp only [if_pos q]
    rw [if_neg (by decide)]
    simp only [if_neg (show ¬ (1 : Int32) = 0 by decide)]
    unfold fX7_mayBeTarget pX7_mayBeTarget_33_S1 fX11_mayMask pX11_mayMask_16_S1
    by_cases s0 : isS = 0
    · have hu1 := hS.mp s0
      simp only [if_pos s0, if_neg hu1]
      by_cases m0 : im = 0
      · have hun := hmu.mp m0
        simp only [if_pos m0, if_neg hun]
        refine Or.inr ⟨by decide, q, fun _ => Or.inl m0, fun X Y => by simp⟩
      · have hun : un = 0 := Classical.byContradiction (fun w => m0 (hmu.mpr w))
        simp only [if_neg m0, if_pos hun]
        by_cases d0 : d = 0
        · have hx : ¬ fX2_meets (nI d) (nI (gN S E W)) (nI 0) (nI 1) = 0 := fun w => hmm.mp w d0
          have hz : nI d = 0 := by rw [d0]; decide
          simp only [if_neg hx, if_pos hz]
          exact Or.inl ⟨by simp, fun X Y => by simp⟩
        · have hx : fX2_meets (nI d) (nI (gN S E W)) (nI 0) (nI 1) = 0 := hmm.mpr d0
          have hz : ¬ nI d = 0 := nI_ne0 (by omega) (by omega)
          simp only [if_pos hx, if_neg hz]
          exact Or.inr ⟨by decide, q, fun _ => Or.inr d0, fun X Y => by simp⟩
    · have hu1 : u1 = 0 := Classical.byContradiction (fun w => s0 (hS.mpr w))
      simp only [if_neg s0, if_pos hu1]
      exact Or.inr ⟨by decide, q, fun w => absurd w s0, fun X Y => by simp⟩
  · simp only [if_neg q]
    exact Or.inl ⟨by simp, fun X Y => by simp⟩
theorem ix_cond {S E W d s2 : Nat} (hp : (S, E) ∈ PE) (hWe : W ∈ eews) (hSe : S ∈ eews) (hd : d < 32) (h2 : s2 < 32) (hl : legalG S E S d = true) {isS u1 : Int32} (hS : isS = 0 ↔ ¬ u1 = 0) :
    ((if fX2_isLegal (nI s2) (nI W) (fX9_eighthsFor (nI S) (nI E) (nI W)) (fX2_cover__g_registers (fX9_eighthsFor (nI S) (nI E) (nI W))) = 0 then (0 : Int32) else (if isS = 0 then (if fX2_mayOverwrite (nI d) (nI S) (fX2_cover__g_registers (fX9_eighthsFor (nI S) (nI E) (nI S))) (nI s2) (nI W) (fX9_eighthsFor (nI S) (nI E) (nI W)) (fX2_cover__g_registers (fX9_eighthsFor (nI S) (nI E) (nI W))) = 0 then 0 else 1) else 1)) = 0 ∧ ∀ {α : Type} (X Y : α), (if fX11_isGroup (nI S) (nI E) (nI s2) (nI W) = 0 then Y else (if u1 = 0 then X else (if fX11_may (nI d) (nI S) (fX11_emul (nI S) (nI E) (nI S)) (nI s2) (nI W) (fX11_emul (nI S) (nI E) (nI W)) = 0 then Y else X))) = Y) ∨
    ((if fX2_isLegal (nI s2) (nI W) (fX9_eighthsFor (nI S) (nI E) (nI W)) (fX2_cover__g_registers (fX9_eighthsFor (nI S) (nI E) (nI W))) = 0 then (0 : Int32) else (if isS = 0 then (if fX2_mayOverwrite (nI d) (nI S) (fX2_cover__g_registers (fX9_eighthsFor (nI S) (nI E) (nI S))) (nI s2) (nI W) (fX9_eighthsFor (nI S) (nI E) (nI W)) (fX2_cover__g_registers (fX9_eighthsFor (nI S) (nI E) (nI W))) = 0 then 0 else 1) else 1)) = 1 ∧ legalG S E W s2 = true ∧ (isS = 0 → ovl d S (gN S E S) s2 W (gN S E W)) ∧ ∀ {α : Type} (X Y : α), (if fX11_isGroup (nI S) (nI E) (nI s2) (nI W) = 0 then Y else (if u1 = 0 then X else (if fX11_may (nI d) (nI S) (fX11_emul (nI S) (nI E) (nI S)) (nI s2) (nI W) (fX11_emul (nI S) (nI E) (nI W)) = 0 then Y else X))) = X) := by
  obtain ⟨b1, b2, b3, b4, b5⟩ := G1 hp hWe
  obtain ⟨d1, d2, d3, d4, d5⟩ := G1 hp hSe
  obtain ⟨c1, c2⟩ := G2 hp hWe h2
  obtain ⟨a1, a2, a3, a4, a5, a6⟩ := G3 hp hSe hd hl
  rw [b1, d1, b3, d3, c1, c2, b2, d2, may_same d4 b4]
  by_cases q : legalG S E W s2 = true
  · obtain ⟨f1, f2, f3, f4, f5, f6⟩ := G3 hp hWe h2 q
    simp only [if_pos q, if_neg (show ¬ (1 : Int32) = 0 by decide)]
    by_cases s0 : isS = 0
    · have hu1 := hS.mp s0
      simp only [if_pos s0, if_neg hu1]
      by_cases m0 : fX2_mayOverwrite (nI d) (nI S) (nI (gN S E S)) (nI s2) (nI W) (nI (gE S E W)) (nI (gN S E W)) = 0
      · simp only [if_pos m0]
        exact Or.inl ⟨by simp, fun X Y => by simp⟩
      · simp only [if_neg m0]
        have hge : gE S E S ≤ 64 := by
          unfold legalG at hl
          simp only [Bool.and_eq_true, decide_eq_true_eq] at hl
          exact hl.1.2
        exact Or.inr ⟨by simp, q, fun _ => over_ovl hp hSe hWe hd h2 hge ⟨a5, a4⟩ f4 a6 f6 m0, fun X Y => by simp⟩
    · have hu1 : u1 = 0 := Classical.byContradiction (fun w => s0 (hS.mpr w))
      simp only [if_neg s0, if_pos hu1]
      exact Or.inr ⟨by simp, q, fun w => absurd w s0, fun X Y => by simp⟩
  · simp only [if_neg q]
    exact Or.inl ⟨by simp, fun X Y => by simp⟩
theorem port_hm {L st d W : Nat} {x z : Nat → Int32} (h0 : Sy x z) (hd : d < 32) (hL : L ≤ 128) {isS im : Int32} (hdm : isS = 0 → im = 0 ∨ ¬ d = 0) : ∀ i xx, st ≤ i → i < L → Jv d W st z x isS i xx → ¬ im = 0 → fX2_element (nI 0) (nI 1) (fX10_ones (nI 1)) xx (nI i) = if fX11_bit z (0 : Int32) (nI i) = 0 then 0 else 1 := by
  intro i xx hi1 hi2 hJ hm
  by_cases s0 : isS = 0
  · rcases hdm s0 with h | h
    · exact absurd h hm
    · exact mk_bit hJ.1 (by omega) (by omega)
  · rw [hJ.2 s0]
    exact mk_bit (D := 0) (w := 1) (st := i) (Iv.start h0) (by omega) (by omega)
theorem port_ha {s1 s2 : Nat} {xS zX : Nat → Int32} (hX : SX xS zX) (h1 : s1 < 32) (z : Nat → Int32) (str xf xe : Int32) (xl : Int64) : ∀ (i : Nat) (xx : Nat → Int32), fX7_addressOf (fX8_scalar xS (nI s1)) str 0 xx xf xe xl (nI i) = eX11_walks_80 (nI s1) (nI s2) zX z str 0 (nI i) := by
  intro i xx
  unfold fX7_addressOf pX7_addressOf_29_S2 eX11_walks_80 pX11_walks_79_S2
  rw [hX.scalar h1, nI_clamp (by omega), if_pos rfl, if_pos (by decide)]
theorem port_hx {S E d s1 s2 W L st : Nat} {x z xS zX : Nat → Int32} (h0 : Sy x z) (hX : SX xS zX) (h1 : s1 < 32) (h2 : s2 < 32) (hW : okB W) (hp : (S, E) ∈ PE) (hWe : W ∈ eews) (hSe : S ∈ eews) (hd : d < 32) (hLM : L ≤ 16 * E / S) (hl : legalG S E S d = true) (hl2 : legalG S E W s2 = true) {isS : Int32} (ho : isS = 0 → ovl d S (gN S E S) s2 W (gN S E W)) (str u4 : Int32) : ∀ (i : Nat) (xx : Nat → Int32), st ≤ i → i < L → Jv d S st z x isS i xx → fX7_addressOf (fX8_scalar xS (nI s1)) str 1 xx (nI s2) (nI W) (fX10_ones (nI W)) (nI i) = eX11_walks_80 (nI s1) (nI s2) zX z u4 (nI W) (nI i) := by
  intro i xx hi1 hi2 hJ
  obtain ⟨a1, a2, a3, a4, a5, a6⟩ := G3 hp hSe hd hl
  obtain ⟨f1, f2, f3, f4, f5, f6⟩ := G3 hp hWe h2 hl2
  have hle := hW.le
  have e1 : (i + 1) * W ≤ 16 * E / S * W := Nat.mul_le_mul_right _ (by omega)
  have e2 : (i + 1) * W = i * W + W := Nat.succ_mul i W
  have e3 : (i + 1) * S ≤ 16 * E / S * S := Nat.mul_le_mul_right _ (by omega)
  have e4 : (i + 1) * S = i * S + S := Nat.succ_mul i S
  unfold fX7_addressOf pX7_addressOf_29_S2 eX11_walks_80 pX11_walks_79_S2
  rw [hX.scalar h1, nI_clamp (by omega), if_neg (by decide), if_neg (show ¬ nI W ≤ 0 from nI_ge (a := 0) (by omega) (by omega))]
  by_cases s0 : isS = 0
  · rw [rd h0.1 hJ.1 hW (by omega) (ovl.pos (ho s0) (by omega) (by omega))]
  · rw [hJ.2 s0, h0.el hW (by omega)]
theorem TI.mo {vt tb ts te tm tt tk : Int32} (hT : TI vt tb ts te tm tt tk) : tk = fX11_isMaskOpen vt ∧ tt = fX11_isTailOpen vt := by
  obtain ⟨_, h⟩ := hT
  rcases h with ⟨h, _, _, _, e1, e2⟩ | ⟨v, _, _, _, _, _, _, e1, e2⟩
  · rw [e1, e2, h]; decide
  · exact ⟨e2, e1⟩
theorem port_eq {vt ms ml tb ts te tm tt tk : Int32} (hT : TI vt tb ts te tm tt tk) (hMS : MS vt ms ml) {L st : Nat} (hL : VLok vt L) (hst : st < 128) {x z w m xS zX zS : Nat → Int32} {sp : Int32} (h0 : Sy x z) (hM : SyM w m) (hX : SX xS zX) (hP : SyP sp zS) (c : Int64) (u f code im un u1 : Int32) {d s1 s2 : Nat} (hd : d < 32) (h1 : s1 < 32) (h2 : s2 < 32) (hS : fX7_prepare__o_isStore code = 0 ↔ ¬ u1 = 0) (hmu : im = 0 ↔ ¬ un = 0) (him : narrow .boolean (.int im) = .int im) (tr df de dg : Int32) (dl : Int64) (xf xe : Int32) (xl : Int64) :
    PO L (fX7_execute (nI L) (nI st) c tb ts te tk xS x sp w df de dl xf xe xl (nI 0) (nI 1) (nI 1) (fX10_ones (nI 1)) u code f (nI d) (nI s1) (nI s2) im) (fX7_execute__r_length (nI L) (nI st) c tb ts te tk xS x sp w df de dl xf xe xl (nI 0) (nI 1) (nI 1) (fX10_ones (nI 1)) u code f (nI d) (nI s1) (nI s2) im) (fX7_execute__r_start (nI L) (nI st) c tb ts te tk xS x sp w df de dl xf xe xl (nI 0) (nI 1) (nI 1) (fX10_ones (nI 1)) u code f (nI d) (nI s1) (nI s2) im) (fX7_execute__o_trapAddress tr (nI L) (nI st) c tb ts te tk xS x sp w df de dl xf xe xl (nI 0) (nI 1) (nI 1) (fX10_ones (nI 1)) u code f (nI d) (nI s1) (nI s2) im) (fX7_execute__xV (nI L) (nI st) c tb ts te tt tk xS x sp w df de dg dl xf xe xl (nI 0) (nI 1) (nI 1) (fX10_ones (nI 1)) u code f (nI d) (nI s1) (nI s2) im) (fX7_execute__xW (nI L) (nI st) c tb ts te tk xS x sp w df de dl xf xe xl (nI 0) (nI 1) (nI 1) (fX10_ones (nI 1)) u code f (nI d) (nI s1) (nI s2) im)
      (fX11_moves c (nI L) vt (nI st) u (nI d) (nI s1) (nI s2) f ms ml un zX z z m zS u1) (fX11_moves__m_vl c (nI L) vt (nI st) u (nI d) (nI s1) (nI s2) f ms ml un zX z z m zS u1) (fX11_moves__m_vstart c (nI L) vt (nI st) u (nI d) (nI s1) (nI s2) f ms ml un zX z z m zS u1) (fX11_moves__m_trapAddress c (nI L) vt (nI st) tr u (nI d) (nI s1) (nI s2) f ms ml un zX z z m zS u1) (fX11_moves__zV c (nI L) vt (nI st) u (nI d) (nI s1) (nI s2) f ms ml un zX z z m zS u1) (fX11_moves__zM c (nI L) vt (nI st) u (nI d) (nI s1) (nI s2) f ms ml un zX z z m zS u1) ∧ okX7_execute (nI L) (nI st) c tb ts te tk xS x sp w df de dg dl xf xe xl (nI 0) (nI 1) (nI 1) (fX10_ones (nI 1)) u code f (nI d) (nI s1) (nI s2) im := by
  have hL2 := hL.le
  have K : ∀ {P : Prop}, P → (¬ fX7_widthOf f = 0 → pX7_execute_26_S1 u = 0 → ¬ fX7_cover (fX7_prepare__o_isStore code) im tb ts te (nI 0) (nI 1) u (nI d) (nI s2) (fX7_widthOf f) = 0 → okX7_transfer (fX7_prepare__o_base xS (nI s1)) (fX7_cover__o_stride (fX7_prepare__o_stride (fX7_widthOf f)) tb xS u (nI s2)) (fX7_cover__o_length (nI L) (fX7_prepare__o_isStore code) im (nI L) tb u (nI s2) (fX7_widthOf f)) (fX7_prepare__o_isStore code) im (fX7_cover__o_isIndexed fX7_prepare__o_isIndexed tb u (nI s2)) (fX7_cover__o_isFirstOnly fX7_prepare__o_isFirstOnly tb u (nI s2)) (nI st) c tk x sp w (fX7_cover__da_first (fX7_prepare__o_isStore code) im tb df u (nI d) (nI s2) (fX7_widthOf f)) (fX7_cover__da_eew (fX7_prepare__o_isStore code) im tb ts de u (nI s2) (fX7_widthOf f)) (fX7_cover__da_registers (fX7_prepare__o_isStore code) im tb ts te dg u (nI s2) (fX7_widthOf f)) (fX7_cover__da_full (fX7_prepare__o_isStore code) im tb ts dl u (nI s2) (fX7_widthOf f)) (fX7_cover__ix_first tb xf u (nI s2)) (fX7_cover__ix_eew tb xe u (nI s2) (fX7_widthOf f)) (fX7_cover__ix_full tb xl u (nI s2) (fX7_widthOf f)) (nI 0) (nI 1) (fX10_ones (nI 1))) → P ∧ okX7_execute (nI L) (nI st) c tb ts te tk xS x sp w df de dg dl xf xe xl (nI 0) (nI 1) (nI 1) (fX10_ones (nI 1)) u code f (nI d) (nI s1) (nI s2) im := fun a b => ⟨a, fun _ _ => ⟨ok_scalar s1 h1, him⟩, fun _ _ => ok_cover _ _ _ _ _ h2 _, b⟩
  rcases wOf f with ⟨w1, w2⟩ | ⟨W, hW, hWe, w1, w2⟩
  · refine K ?_ (fun h => absurd w1 h)
    simp only [fX7_execute, fX7_execute__r_length, fX7_execute__r_start, fX7_execute__o_trapAddress, fX7_execute__xV, fX7_execute__xW, pX7_execute_60_S1, pX7_execute_60_r_length, pX7_execute_60_r_start, pX7_execute_60_o_trapAddress, pX7_execute_60_xV, pX7_execute_60_xW, fX11_moves, fX11_moves__m_vl, fX11_moves__m_vstart, fX11_moves__m_trapAddress, fX11_moves__zV, fX11_moves__zM, w1, w2, if_true]
    exact PO.same hst h0 hM tr (Or.inr rfl)
  have hle := hW.le
  have hw0 : ¬ nI W = 0 := nI_ne0 (by omega) (by omega)
  have e28 : sru u 28 &&& 1 = shr u 28 &&& 1 := (fld_u (u := u) (k := 28) (n := 1) (by decide)).trans (fld_s (u := u) (k := 28) (n := 1) (by decide) (by decide)).symm
  have e26 : sru u 26 &&& 3 = shr u 26 &&& 3 := (fld_u (u := u) (k := 26) (n := 2) (by decide)).trans (fld_s (u := u) (k := 26) (n := 2) (by decide) (by decide)).symm
  have e26n : shr u 26 &&& 3 = nI (fld u 26 2) := fld_s (u := u) (k := 26) (n := 2) (by decide) (by decide)
  have hf2 := fld_lt u 26 2
  by_cases q28 : shr u 28 &&& 1 = 1
  · have hp : pX7_execute_26_S1 u = 1 := by unfold pX7_execute_26_S1; rw [e28, if_pos q28]
    refine K ?_ (fun _ h => absurd (hp.symm.trans h) (by decide))
    simp only [fX7_execute, fX7_execute__r_length, fX7_execute__r_start, fX7_execute__o_trapAddress, fX7_execute__xV, fX7_execute__xW, pX7_execute_60_S1, pX7_execute_60_r_length, pX7_execute_60_r_start, pX7_execute_60_o_trapAddress, pX7_execute_60_xV, pX7_execute_60_xW, fX11_moves, fX11_moves__m_vl, fX11_moves__m_vstart, fX11_moves__m_trapAddress, fX11_moves__zV, fX11_moves__zM, w1, w2, hp, if_pos q28, if_neg hw0, if_neg (show ¬ (1 : Int32) = 0 by decide)]
    exact PO.same hst h0 hM tr (Or.inr rfl)
  have hp : pX7_execute_26_S1 u = 0 := by unfold pX7_execute_26_S1; rw [e28, if_neg q28]
  by_cases qWh : shr u 26 &&& 3 = 0 ∧ nI s2 = 8
  · obtain ⟨qw, q8⟩ := qWh
    have hn3 : sru u 29 + 1 = nI (fld u 29 3 + 1) := by rw [show sru u 29 = nI (fld u 29 3) from fld_top (u := u) (k := 29) (n := 3) (by decide) (by decide), show (1 : Int32) = nI 1 by decide, nI_add]
    have hf3 := fld_lt u 29 3
    generalize hN : fld u 29 3 + 1 = N at hn3
    by_cases hn : N ∈ [1, 2, 4, 8]
    · obtain ⟨g1, g2, g3, g4⟩ := wh_1 N hn d hd W hW.mem
      have g5 := (wh_3 hn (nI d) un u1 (nI W)).1
      have g6 := (wh_3 hn (nI d) un u1 (nI W)).2
      have hcap : fX2_capacity (nI W) (nI N) = nI (N * 128 / W) := cap_nI (by omega) (by omega) (by omega)
      have e : nI N * 128 / nI W = nI (N * 128 / W) := by rw [nI128, pk_mul, pk_div (by omega) (by omega) (by omega)]
      have hb2 : N * 128 / W ≤ N * 128 / 8 := Nat.div_le_div_left hle.1 (by decide)
      by_cases hc : im = 0 ∧ (fX7_prepare__o_isStore code = 0 ∨ W = 8) ∧ d % N = 0
      · obtain ⟨c1, c2, c3⟩ := hc
        have hun := hmu.mp c1
        have t1 : ∀ {α : Type} (X Y : α), (if fX7_prepare__o_isStore code = 0 then X else (if nI W = 8 then X else Y)) = X := by
          intro α X Y
          rcases c2 with h | h
          · exact if_pos h
          · rw [if_pos (show nI W = 8 by rw [h]; decide), ite_self]
        have t2 : (if u1 = 0 then (if nI W = 8 then (1 : Int32) else 0) else 1) = 1 := by
          by_cases h : u1 = 0
          · rw [if_pos h]
            rcases c2 with k | k
            · exact absurd h (hS.mp k)
            · rw [if_pos (show nI W = 8 by rw [k]; decide)]
          · exact if_neg h
        have g1' : fX2_isLegal (nI d) (nI W) (8 * nI N) (nI N) = 1 := by
          have h := g1
          rw [g3, if_pos c3] at h
          exact h
        refine K ?_ (fun _ _ _ => ?_)
        · simp only [fX7_execute, fX7_execute__r_length, fX7_execute__r_start, fX7_execute__o_trapAddress, fX7_execute__xV, fX7_execute__xW, pX7_execute_60_S1, pX7_execute_60_r_length, pX7_execute_60_r_start, pX7_execute_60_o_trapAddress, pX7_execute_60_xV, pX7_execute_60_xW, fX7_cover, fX7_cover__o_stride, fX7_cover__o_length, fX7_cover__o_isIndexed, fX7_cover__o_isFirstOnly, fX7_cover__o_isMaskBytes, fX7_cover__da_first, fX7_cover__da_eew, fX7_cover__da_registers, fX7_cover__da_full, fX7_cover__ix_first, fX7_cover__ix_eew, fX7_cover__ix_full, rX7_cover_43, rX7_cover_43__o_stride, rX7_cover_43__o_length, rX7_cover_43__o_isIndexed, rX7_cover_43__o_isFirstOnly, rX7_cover_43__o_isMaskBytes, rX7_cover_43__da_first, rX7_cover_43__da_eew, rX7_cover_43__da_registers, rX7_cover_43__da_full, rX7_cover_43__ix_first, rX7_cover_43__ix_eew, rX7_cover_43__ix_full, fX7_prepare__o_base, fX7_prepare__o_stride, fX7_prepare__o_length, fX7_prepare__o_isMasked, fX7_prepare__o_isIndexed, fX7_prepare__o_isFirstOnly, fX7_prepare__o_isMaskBytes, fX7_coverWhole, fX7_coverWhole__o_length, fX7_coverWhole__da_first, fX7_coverWhole__da_eew, fX7_coverWhole__da_registers, fX7_coverWhole__da_full, rX7_coverWhole_55, rX7_coverWhole_55__o_length, rX7_coverWhole_55__da_first, rX7_coverWhole_55__da_eew, rX7_coverWhole_55__da_registers, rX7_coverWhole_55__da_full, eX7_coverWhole_79, fX11_moves, fX11_moves__m_vl, fX11_moves__m_vstart, fX11_moves__m_trapAddress, fX11_moves__zV, fX11_moves__zM, fX11_wholeMoves, fX11_wholeMoves__m_vl, fX11_wholeMoves__m_vstart, fX11_wholeMoves__m_trapAddress, fX11_wholeMoves__zV, fX11_wholeMoves__zM, fX2_cover__g_first, fX2_cover__g_eew, fX2_cover__g_eighths, fX2_cover__g_full, w1, w2, hp, e26, hn3, g3, g5, g6, hcap, e, t1, t2, g1', if_pos qw, if_pos q8, if_neg q28, if_neg hw0, if_pos c1, if_neg hun, if_pos (g2.mpr c3), if_neg (show ¬ (1 : Int32) = 0 by decide), if_true]
          exact port_whole (g := N) hW (by omega) (g4 c3) rfl hst h0 hM hT.mo.1 hS hmu c1 hP (port_ha hX h1 z _ _ _ _) tr
        · simp only [fX7_cover, fX7_cover__o_stride, fX7_cover__o_length, fX7_cover__o_isIndexed, fX7_cover__o_isFirstOnly, fX7_cover__o_isMaskBytes, fX7_cover__da_first, fX7_cover__da_eew, fX7_cover__da_registers, fX7_cover__da_full, fX7_cover__ix_first, fX7_cover__ix_eew, fX7_cover__ix_full, rX7_cover_43, rX7_cover_43__o_stride, rX7_cover_43__o_length, rX7_cover_43__o_isIndexed, rX7_cover_43__o_isFirstOnly, rX7_cover_43__o_isMaskBytes, rX7_cover_43__da_first, rX7_cover_43__da_eew, rX7_cover_43__da_registers, rX7_cover_43__da_full, rX7_cover_43__ix_first, rX7_cover_43__ix_eew, rX7_cover_43__ix_full, fX7_prepare__o_base, fX7_prepare__o_stride, fX7_prepare__o_length, fX7_prepare__o_isMasked, fX7_prepare__o_isIndexed, fX7_prepare__o_isFirstOnly, fX7_prepare__o_isMaskBytes, fX7_coverWhole, fX7_coverWhole__o_length, fX7_coverWhole__da_first, fX7_coverWhole__da_eew, fX7_coverWhole__da_registers, fX7_coverWhole__da_full, rX7_coverWhole_55, rX7_coverWhole_55__o_length, rX7_coverWhole_55__da_first, rX7_coverWhole_55__da_eew, rX7_coverWhole_55__da_registers, rX7_coverWhole_55__da_full, eX7_coverWhole_79, fX2_cover__g_first, fX2_cover__g_eew, fX2_cover__g_eighths, fX2_cover__g_full, w1, e26, hn3, g3, g6, hcap, t1, if_pos qw, if_pos q8, if_pos c1, if_neg (show ¬ (1 : Int32) = 0 by decide)]
          exact transfer_ok hW (by omega) hst (by omega) _ _ _ _ _ _ _ _ _ _ _ _ _ _ _ _ _ _ _
      · have t1 : fX7_coverWhole (fX7_prepare__o_isStore code) im (nI d) (nI W) (nI N) = 0 := by
          unfold fX7_coverWhole rX7_coverWhole_55 fX2_cover__g_first fX2_cover__g_eew fX2_cover__g_eighths
          rw [g1, g6, if_neg (by decide)]
          by_cases c1 : im = 0
          · rw [if_pos c1]
            by_cases c3 : d % N = 0
            · have c2 : ¬ (fX7_prepare__o_isStore code = 0 ∨ W = 8) := fun h => hc ⟨c1, h, c3⟩
              rw [if_neg (fun h => c2 (Or.inl h)), if_neg (fun h => c2 (Or.inr ((nI_eq (by omega) (by decide)).mp (h.trans nI8))))]
            · simp only [if_neg c3, ite_self]
          · rw [if_neg c1]
        have t2 : pX11_wholeMoves_52_S1 (nI d) un u1 (nI W) (nI N) = 0 := by
          rw [g5]
          by_cases c1 : un = 0
          · rw [if_pos c1]
          · rw [if_neg c1]
            have c1' := hmu.mpr c1
            by_cases c3 : d % N = 0
            · have c2 : ¬ (fX7_prepare__o_isStore code = 0 ∨ W = 8) := fun h => hc ⟨c1', h, c3⟩
              have hu : u1 = 0 := Classical.byContradiction (fun h => c2 (Or.inl (hS.mpr h)))
              rw [if_pos (g2.mpr c3), if_pos hu, if_neg (fun h => c2 (Or.inr ((nI_eq (by omega) (by decide)).mp (h.trans nI8))))]
            · rw [if_neg (fun h => c3 (g2.mp h))]
        have t3 : fX7_cover (fX7_prepare__o_isStore code) im tb ts te (nI 0) (nI 1) u (nI d) (nI s2) (nI W) = 0 := by
          unfold fX7_cover
          rw [e26, if_pos qw, if_pos q8, hn3, t1]
        refine K ?_ (fun _ _ h => False.elim (h (by rw [w1]; exact t3)))
        simp only [fX7_execute, fX7_execute__r_length, fX7_execute__r_start, fX7_execute__o_trapAddress, fX7_execute__xV, fX7_execute__xW, pX7_execute_60_S1, pX7_execute_60_r_length, pX7_execute_60_r_start, pX7_execute_60_o_trapAddress, pX7_execute_60_xV, pX7_execute_60_xW, fX7_prepare__o_isMasked, t3, fX11_moves, fX11_moves__m_vl, fX11_moves__m_vstart, fX11_moves__m_trapAddress, fX11_moves__zV, fX11_moves__zM, fX11_wholeMoves, fX11_wholeMoves__m_vl, fX11_wholeMoves__m_vstart, fX11_wholeMoves__m_trapAddress, fX11_wholeMoves__zV, fX11_wholeMoves__zM, w1, w2, hp, hn3, t2, if_pos qw, if_pos q8, if_neg q28, if_neg hw0, if_true]
        exact PO.same hst h0 hM tr (Or.inr rfl)
    · obtain ⟨n1, n2, n4, n8⟩ := wh_2 N (by omega) hn
      have t1 : fX7_coverWhole (fX7_prepare__o_isStore code) im (nI d) (nI W) (nI N) = 0 := by
        unfold fX7_coverWhole pX7_coverWhole_26_S1
        rw [if_neg n1, if_neg n2, if_neg n4, if_neg n8, if_pos rfl]
      have t2 : pX11_wholeMoves_52_S1 (nI d) un u1 (nI W) (nI N) = 0 := by
        unfold pX11_wholeMoves_52_S1
        rw [if_neg n1, if_neg n2, if_neg n4, if_neg n8, ite_self]
      have t3 : fX7_cover (fX7_prepare__o_isStore code) im tb ts te (nI 0) (nI 1) u (nI d) (nI s2) (nI W) = 0 := by
        unfold fX7_cover
        rw [e26, if_pos qw, if_pos q8, hn3, t1]
      refine K ?_ (fun _ _ h => False.elim (h (by rw [w1]; exact t3)))
      simp only [fX7_execute, fX7_execute__r_length, fX7_execute__r_start, fX7_execute__o_trapAddress, fX7_execute__xV, fX7_execute__xW, pX7_execute_60_S1, pX7_execute_60_r_length, pX7_execute_60_r_start, pX7_execute_60_o_trapAddress, pX7_execute_60_xV, pX7_execute_60_xW, fX7_prepare__o_isMasked, t3, fX11_moves, fX11_moves__m_vl, fX11_moves__m_vstart, fX11_moves__m_trapAddress, fX11_moves__zV, fX11_moves__zM, fX11_wholeMoves, fX11_wholeMoves__m_vl, fX11_wholeMoves__m_vstart, fX11_wholeMoves__m_trapAddress, fX11_wholeMoves__zV, fX11_wholeMoves__zM, w1, w2, hp, hn3, t2, if_pos qw, if_pos q8, if_neg q28, if_neg hw0, if_true]
      exact PO.same hst h0 hM tr (Or.inr rfl)
  have v1 : ∀ {α : Type} (X Y : α), (if shr u 26 &&& 3 = 0 then (if nI s2 = 8 then X else Y) else Y) = Y := by
    intro α X Y
    by_cases qa : shr u 26 &&& 3 = 0
    · rw [if_pos qa, if_neg (fun h => qWh ⟨qa, h⟩)]
    · rw [if_neg qa]
  have v2 : ∀ (X : Int32), (if shr u 26 &&& 3 = 0 then (if nI s2 = 8 then X else X) else X) = X := fun X => v1 X X
  by_cases qI : sru u 29 = 0 ∧ fX11_isIll vt = 0
  case neg =>
    have hII : fX9_isIll tb = 0 ↔ fX11_isIll vt = 0 := by
      obtain ⟨e, h⟩ := hT
      rw [e]
      rcases h with ⟨h, _⟩ | ⟨v, hv, _, h, _⟩
      · rw [h]; decide
      · rw [h]; exact ⟨fun _ => (isIll_v v hv).2, fun _ => (isIll_v v hv).1⟩
    have y1 : ∀ {α : Type} (X Y : α), (if sru u 29 = 0 then (if fX9_isIll tb = 0 then X else Y) else Y) = Y := by
      intro α X Y
      by_cases qa : sru u 29 = 0
      · rw [if_pos qa, if_neg (fun h => qI ⟨qa, hII.mp h⟩)]
      · rw [if_neg qa]
    have y2 : ∀ {α : Type} (X Y : α), (if sru u 29 = 0 then (if fX11_isIll vt = 0 then X else Y) else Y) = Y := by
      intro α X Y
      by_cases qa : sru u 29 = 0
      · rw [if_pos qa, if_neg (fun h => qI ⟨qa, h⟩)]
      · rw [if_neg qa]
    have t3 : fX7_cover (fX7_prepare__o_isStore code) im tb ts te (nI 0) (nI 1) u (nI d) (nI s2) (nI W) = 0 := by
      unfold fX7_cover rX7_cover_43
      rw [e26, v1, y1]
    refine K ?_ (fun _ _ h => False.elim (h (by rw [w1]; exact t3)))
    simp only [fX7_execute, fX7_execute__r_length, fX7_execute__r_start, fX7_execute__o_trapAddress, fX7_execute__xV, fX7_execute__xW, pX7_execute_60_S1, pX7_execute_60_r_length, pX7_execute_60_r_start, pX7_execute_60_o_trapAddress, pX7_execute_60_xV, pX7_execute_60_xW, fX7_prepare__o_isMasked, t3, fX11_moves, fX11_moves__m_vl, fX11_moves__m_vstart, fX11_moves__m_trapAddress, fX11_moves__zV, fX11_moves__zM, w1, w2, hp, v1, if_neg q28, if_neg hw0, if_true]
    simp only [rX11_moves_103, rX11_moves_103__m_vl, rX11_moves_103__m_vstart, rX11_moves_103__m_trapAddress, rX11_moves_103__zV, rX11_moves_103__zM, y2]
    exact PO.same hst h0 hM tr (Or.inr rfl)
  obtain ⟨q29, qi⟩ := qI
  obtain ⟨S, E, hpe, m1, m2, m3, m4, hLM, _, m5, m6, hSe, hSB⟩ := ty_all hT hMS hL qi
  have qi' : fX9_isIll tb = 0 := by
    obtain ⟨e, h⟩ := hT
    rw [e]
    rcases h with ⟨h, _⟩ | ⟨v, hv, _, h, _⟩
    · rw [h] at qi; exact absurd qi (by decide)
    · rw [h]; exact (isIll_v v hv).1
  subst m1 m2 m3 m4 m5 m6
  have hnot : ∀ {α : Type} (X Y : α) (a : Int32), (if a = 0 then X else (if a = 0 then Y else X)) = X := by
    intro α X Y a
    by_cases h : a = 0
    · rw [if_pos h]
    · rw [if_neg h, if_neg h]
  by_cases qw : shr u 26 &&& 3 = 0
  · have q8 : ¬ nI s2 = 8 := fun h => qWh ⟨qw, h⟩
    have p237 : pX11_moves_237_S1 u = 0 := by unfold pX11_moves_237_S1; rw [qw]; decide
    have p252 : pX11_moves_252_S1 u f (nI S) = nI W := by unfold pX11_moves_252_S1; rw [p237, if_pos rfl, w2]
    have p430 : pX11_moves_430_S8 u f = 0 := by unfold pX11_moves_430_S8; rw [p237, if_pos rfl]
    have p417 : pX11_moves_417_S5 u (nI s2) f (nI S) zX = nI W / 8 := by unfold pX11_moves_417_S5; rw [qw, if_neg (by decide), p252]
    by_cases q11 : nI s2 = 11
    · have n0 : ¬ nI s2 = 0 := by rw [q11]; decide
      by_cases hc : W = 8 ∧ im = 0
      · obtain ⟨c1, c2⟩ := hc
        have hun := hmu.mp c2
        have hW8 : nI W = 8 := by rw [c1]; decide
        have d8 : (8 : Int32) / 8 = 1 := by decide
        have r8 : fX2_cover__g_registers 8 = nI 1 := by decide
        have hto : (nI L + 7) / 8 = nI ((L + 7) / 8) := by rw [show (7 : Int32) = nI 7 by decide, nI_add, nI8, pk_div (by omega) (by decide) (by decide)]
        have h102 : pX7_coverUnit_102_S1 im 8 = 1 := by unfold pX7_coverUnit_102_S1; rw [if_pos rfl, if_pos c2]
        refine K ?_ (fun _ _ _ => ?_)
        · have h := port_mask (s2 := s2) (zX := zX) hd hL2 hst h0 hM (tt := fX11_isTailOpen vt) (str := 1) (xf := xf) (xe := xe) (xl := xl) (c := c) hT.mo.1 hS hmu c2 hP (port_ha hX h1 z _ _ _ _) tr
          rw [← nI8] at h
          simp only [fX7_execute, fX7_execute__r_length, fX7_execute__r_start, fX7_execute__o_trapAddress, fX7_execute__xV, fX7_execute__xW, pX7_execute_60_S1, pX7_execute_60_r_length, pX7_execute_60_r_start, pX7_execute_60_o_trapAddress, pX7_execute_60_xV, pX7_execute_60_xW, fX7_cover, fX7_cover__o_stride, fX7_cover__o_length, fX7_cover__o_isIndexed, fX7_cover__o_isFirstOnly, fX7_cover__o_isMaskBytes, fX7_cover__da_first, fX7_cover__da_eew, fX7_cover__da_registers, fX7_cover__da_full, fX7_cover__ix_first, fX7_cover__ix_eew, fX7_cover__ix_full, rX7_cover_43, rX7_cover_43__o_stride, rX7_cover_43__o_length, rX7_cover_43__o_isIndexed, rX7_cover_43__o_isFirstOnly, rX7_cover_43__o_isMaskBytes, rX7_cover_43__da_first, rX7_cover_43__da_eew, rX7_cover_43__da_registers, rX7_cover_43__da_full, rX7_cover_43__ix_first, rX7_cover_43__ix_eew, rX7_cover_43__ix_full, fX7_prepare__o_base, fX7_prepare__o_stride, fX7_prepare__o_length, fX7_prepare__o_isMasked, fX7_prepare__o_isIndexed, fX7_prepare__o_isFirstOnly, fX7_prepare__o_isMaskBytes, fX7_coverUnit, fX7_coverUnit__o_length, fX7_coverUnit__o_isFirstOnly, fX7_coverUnit__o_isMaskBytes, fX7_coverUnit__da_first, fX7_coverUnit__da_eew, fX7_coverUnit__da_registers, fX7_coverUnit__da_full, pX7_coverUnit_129_S1, pX7_coverUnit_129_da_first, pX7_coverUnit_129_da_eew, pX7_coverUnit_129_da_registers, pX7_coverUnit_129_da_full, h102, fX7_coverPlain__da_first, fX7_coverPlain__da_eew, fX7_coverPlain__da_registers, fX7_coverPlain__da_full, fX2_cover__g_first, fX2_cover__g_eew, fX2_cover__g_eighths, fX2_cover__g_full, fX11_moves, fX11_moves__m_vl, fX11_moves__m_vstart, fX11_moves__m_trapAddress, fX11_moves__zV, fX11_moves__zM, rX11_moves_103, rX11_moves_103__m_vl, rX11_moves_103__m_vstart, rX11_moves_103__m_trapAddress, rX11_moves_103__zV, rX11_moves_103__zM, w1, w2, hW8, hp, e26, v1, v2, d8, r8, if_pos qw, if_neg n0, if_pos q11, if_pos c2, if_pos q29, if_pos qi, if_pos qi', if_neg q28, if_neg hun, if_neg (show ¬ (8 : Int32) = 0 by decide), if_neg (show ¬ (1 : Int32) = 0 by decide), if_true]
          exact h
        · simp only [fX7_cover, fX7_cover__o_stride, fX7_cover__o_length, fX7_cover__o_isIndexed, fX7_cover__o_isFirstOnly, fX7_cover__o_isMaskBytes, fX7_cover__da_first, fX7_cover__da_eew, fX7_cover__da_registers, fX7_cover__da_full, fX7_cover__ix_first, fX7_cover__ix_eew, fX7_cover__ix_full, rX7_cover_43, rX7_cover_43__o_stride, rX7_cover_43__o_length, rX7_cover_43__o_isIndexed, rX7_cover_43__o_isFirstOnly, rX7_cover_43__o_isMaskBytes, rX7_cover_43__da_first, rX7_cover_43__da_eew, rX7_cover_43__da_registers, rX7_cover_43__da_full, rX7_cover_43__ix_first, rX7_cover_43__ix_eew, rX7_cover_43__ix_full, fX7_prepare__o_base, fX7_prepare__o_stride, fX7_prepare__o_length, fX7_prepare__o_isMasked, fX7_prepare__o_isIndexed, fX7_prepare__o_isFirstOnly, fX7_prepare__o_isMaskBytes, fX7_coverUnit, fX7_coverUnit__o_length, fX7_coverUnit__o_isFirstOnly, fX7_coverUnit__o_isMaskBytes, fX7_coverUnit__da_first, fX7_coverUnit__da_eew, fX7_coverUnit__da_registers, fX7_coverUnit__da_full, pX7_coverUnit_102_S1, pX7_coverUnit_129_S1, pX7_coverUnit_129_da_first, pX7_coverUnit_129_da_eew, pX7_coverUnit_129_da_registers, pX7_coverUnit_129_da_full, fX7_coverPlain__da_first, fX7_coverPlain__da_eew, fX7_coverPlain__da_registers, fX7_coverPlain__da_full, fX2_cover__g_first, fX2_cover__g_eew, fX2_cover__g_eighths, fX2_cover__g_full, w1, hW8, e26, v1, v2, r8, if_pos qw, if_neg n0, if_pos q11, if_pos q29, if_pos qi', hto]
          have h := transfer_ok (W := 8) (to := (L + 7) / 8) (st := st) (g := 1) (Or.inl rfl) (by omega) hst (by decide) (fX8_scalar xS (nI s1)) (8 / 8) (fX7_prepare__o_isStore code) im 0 0 c (fX11_isMaskOpen vt) sp (nI d) x w (fX10_ones 8) xf xe xl (nI 0) (nI 1) (fX10_ones (nI 1))
          rw [← nI8] at h
          exact h
      · have t1 : pX7_coverUnit_102_S1 im (nI W) = 0 := by
          unfold pX7_coverUnit_102_S1
          by_cases a : nI W = 8
          · have a2 : W = 8 := (nI_eq (by omega) (by decide)).mp (a.trans nI8)
            rw [if_pos a, if_neg (fun h => hc ⟨a2, h⟩)]
          · rw [if_neg a]
        have t2 : ∀ {α : Type} (X Y : α), (if nI W = 8 then (if un = 0 then Y else X) else Y) = Y := by
          intro α X Y
          by_cases a : nI W = 8
          · have a2 : W = 8 := (nI_eq (by omega) (by decide)).mp (a.trans nI8)
            have a3 : un = 0 := Classical.byContradiction (fun h => hc ⟨a2, hmu.mpr h⟩)
            rw [if_pos a, if_pos a3]
          · rw [if_neg a]
        have t3 : fX7_cover (fX7_prepare__o_isStore code) im tb (nI S) (nI E) (nI 0) (nI 1) u (nI d) (nI s2) (nI W) = 0 := by
          simp only [fX7_cover, rX7_cover_43, fX7_coverUnit, w1, e26, v1, t1, if_pos q29, if_pos qi', if_pos qw, if_neg n0, if_pos q11]
        refine K ?_ (fun _ _ h => False.elim (h (by rw [w1]; exact t3)))
        simp only [fX7_execute, fX7_execute__r_length, fX7_execute__r_start, fX7_execute__o_trapAddress, fX7_execute__xV, fX7_execute__xW, pX7_execute_60_S1, pX7_execute_60_r_length, pX7_execute_60_r_start, pX7_execute_60_o_trapAddress, pX7_execute_60_xV, pX7_execute_60_xW, fX7_prepare__o_isMasked, t3, fX11_moves, fX11_moves__m_vl, fX11_moves__m_vstart, fX11_moves__m_trapAddress, fX11_moves__zV, fX11_moves__zM, rX11_moves_103, rX11_moves_103__m_vl, rX11_moves_103__m_vstart, rX11_moves_103__m_trapAddress, rX11_moves_103__zV, rX11_moves_103__zM, w1, w2, hp, v1, t2, if_pos qw, if_pos q11, if_pos q29, if_pos qi, if_neg q28, if_neg hw0, if_true]
        exact PO.same hst h0 hM tr (Or.inr rfl)
    · by_cases q0 : nI s2 = 0
      · have p277 : pX11_moves_277_S1 u (nI s2) u1 = 0 := by unfold pX11_moves_277_S1; rw [if_pos qw, q0, if_neg (by decide)]
        rcases pl_cond (S := S) (E := E) hpe hWe hd hS hmu with ⟨k1, k2⟩ | ⟨k1, kl, km, k2⟩
        · have t3 : fX7_cover (fX7_prepare__o_isStore code) im tb (nI S) (nI E) (nI 0) (nI 1) u (nI d) (nI s2) (nI W) = 0 := by
            simp only [fX7_cover, rX7_cover_43, fX7_coverUnit, pX7_coverUnit_129_S1, w1, e26, v1, k1, if_pos q29, if_pos qi', if_pos qw, if_pos q0, if_true, ite_self]
          refine K ?_ (fun _ _ h => False.elim (h (by rw [w1]; exact t3)))
          simp only [fX7_execute, fX7_execute__r_length, fX7_execute__r_start, fX7_execute__o_trapAddress, fX7_execute__xV, fX7_execute__xW, pX7_execute_60_S1, pX7_execute_60_r_length, pX7_execute_60_r_start, pX7_execute_60_o_trapAddress, pX7_execute_60_xV, pX7_execute_60_xW, fX7_prepare__o_isMasked, t3, fX11_moves, fX11_moves__m_vl, fX11_moves__m_vstart, fX11_moves__m_trapAddress, fX11_moves__zV, fX11_moves__zM, rX11_moves_103, rX11_moves_103__m_vl, rX11_moves_103__m_vstart, rX11_moves_103__m_trapAddress, rX11_moves_103__zV, rX11_moves_103__zM, rX11_moves_224, rX11_moves_224__m_vl, rX11_moves_224__m_vstart, rX11_moves_224__m_trapAddress, rX11_moves_224__zV, rX11_moves_224__zM, rX11_moves_296, rX11_moves_296__m_vl, rX11_moves_296__m_vstart, rX11_moves_296__m_trapAddress, rX11_moves_296__zV, rX11_moves_296__zM, rX11_moves_326, rX11_moves_326__m_vl, rX11_moves_326__m_vstart, rX11_moves_326__m_trapAddress, rX11_moves_326__zV, rX11_moves_326__zM, rX11_moves_377, rX11_moves_377__m_vl, rX11_moves_377__m_vstart, rX11_moves_377__m_trapAddress, rX11_moves_377__zV, rX11_moves_377__zM, w1, w2, hp, v1, p237, p252, p277, if_pos qw, if_neg q11, if_pos q0, if_pos q29, if_pos qi, if_neg q28, if_neg hw0, if_true]
          simp only [k2]
          exact PO.same hst h0 hM tr (Or.inr rfl)
        · obtain ⟨b1, b2, b3, b4, b5⟩ := G1 hpe hWe
          obtain ⟨a1, a2, a3, a4, a5, a6⟩ := G3 hpe hWe hd kl
          have hb : L * W ≤ 16 * E / S * W := Nat.mul_le_mul_right _ hLM
          refine K ?_ (fun _ _ _ => ?_)
          · simp only [fX7_execute, fX7_execute__r_length, fX7_execute__r_start, fX7_execute__o_trapAddress, fX7_execute__xV, fX7_execute__xW, pX7_execute_60_S1, pX7_execute_60_r_length, pX7_execute_60_r_start, pX7_execute_60_o_trapAddress, pX7_execute_60_xV, pX7_execute_60_xW, fX7_cover, fX7_cover__o_stride, fX7_cover__o_length, fX7_cover__o_isIndexed, fX7_cover__o_isFirstOnly, fX7_cover__o_isMaskBytes, fX7_cover__da_first, fX7_cover__da_eew, fX7_cover__da_registers, fX7_cover__da_full, fX7_cover__ix_first, fX7_cover__ix_eew, fX7_cover__ix_full, rX7_cover_43, rX7_cover_43__o_stride, rX7_cover_43__o_length, rX7_cover_43__o_isIndexed, rX7_cover_43__o_isFirstOnly, rX7_cover_43__o_isMaskBytes, rX7_cover_43__da_first, rX7_cover_43__da_eew, rX7_cover_43__da_registers, rX7_cover_43__da_full, rX7_cover_43__ix_first, rX7_cover_43__ix_eew, rX7_cover_43__ix_full, fX7_prepare__o_base, fX7_prepare__o_stride, fX7_prepare__o_length, fX7_prepare__o_isMasked, fX7_prepare__o_isIndexed, fX7_prepare__o_isFirstOnly, fX7_prepare__o_isMaskBytes, fX7_coverUnit, fX7_coverUnit__o_length, fX7_coverUnit__o_isFirstOnly, fX7_coverUnit__o_isMaskBytes, fX7_coverUnit__da_first, fX7_coverUnit__da_eew, fX7_coverUnit__da_registers, fX7_coverUnit__da_full, pX7_coverUnit_102_S1, pX7_coverUnit_129_S1, pX7_coverUnit_129_da_first, pX7_coverUnit_129_da_eew, pX7_coverUnit_129_da_registers, pX7_coverUnit_129_da_full, fX7_coverPlain__da_first, fX7_coverPlain__da_eew, fX7_coverPlain__da_registers, fX7_coverPlain__da_full, fX2_cover__g_first, fX2_cover__g_eew, fX2_cover__g_eighths, fX2_cover__g_full, fX11_moves, fX11_moves__m_vl, fX11_moves__m_vstart, fX11_moves__m_trapAddress, fX11_moves__zV, fX11_moves__zM, rX11_moves_103, rX11_moves_103__m_vl, rX11_moves_103__m_vstart, rX11_moves_103__m_trapAddress, rX11_moves_103__zV, rX11_moves_103__zM, rX11_moves_224, rX11_moves_224__m_vl, rX11_moves_224__m_vstart, rX11_moves_224__m_trapAddress, rX11_moves_224__zV, rX11_moves_224__zM, rX11_moves_296, rX11_moves_296__m_vl, rX11_moves_296__m_vstart, rX11_moves_296__m_trapAddress, rX11_moves_296__zV, rX11_moves_296__zM, rX11_moves_326, rX11_moves_326__m_vl, rX11_moves_326__m_vstart, rX11_moves_326__m_trapAddress, rX11_moves_326__zV, rX11_moves_326__zM, rX11_moves_377, rX11_moves_377__m_vl, rX11_moves_377__m_vstart, rX11_moves_377__m_trapAddress, rX11_moves_377__zV, rX11_moves_377__zM, eX11_moves_433, pX11_moves_464_zV, w1, w2, hp, e26, v1, v2, p237, p252, p417, p430, if_pos qw, if_pos q0, p277, if_pos qw, if_neg q11, if_pos q0, b1, b3, b2, if_pos q29, if_pos qi, if_pos qi', if_neg q28, if_neg hw0, if_neg k1, if_neg (show ¬ (1 : Int32) = 0 by decide), if_true]
            simp only [k2]
            exact port_walk (g := gN S E W) (e8 := gE S E W) hW a4 b4 a1 (by omega) hL2 hst h0 hM hS hmu hP Iff.rfl (port_hm h0 hd hL2 km) (fun i xx _ _ _ => port_ha hX h1 z _ _ _ _ i xx) tr
          · simp only [fX7_cover, fX7_cover__o_stride, fX7_cover__o_length, fX7_cover__o_isIndexed, fX7_cover__o_isFirstOnly, fX7_cover__o_isMaskBytes, fX7_cover__da_first, fX7_cover__da_eew, fX7_cover__da_registers, fX7_cover__da_full, fX7_cover__ix_first, fX7_cover__ix_eew, fX7_cover__ix_full, rX7_cover_43, rX7_cover_43__o_stride, rX7_cover_43__o_length, rX7_cover_43__o_isIndexed, rX7_cover_43__o_isFirstOnly, rX7_cover_43__o_isMaskBytes, rX7_cover_43__da_first, rX7_cover_43__da_eew, rX7_cover_43__da_registers, rX7_cover_43__da_full, rX7_cover_43__ix_first, rX7_cover_43__ix_eew, rX7_cover_43__ix_full, fX7_prepare__o_base, fX7_prepare__o_stride, fX7_prepare__o_length, fX7_prepare__o_isMasked, fX7_prepare__o_isIndexed, fX7_prepare__o_isFirstOnly, fX7_prepare__o_isMaskBytes, fX7_coverUnit, fX7_coverUnit__o_length, fX7_coverUnit__o_isFirstOnly, fX7_coverUnit__o_isMaskBytes, fX7_coverUnit__da_first, fX7_coverUnit__da_eew, fX7_coverUnit__da_registers, fX7_coverUnit__da_full, pX7_coverUnit_102_S1, pX7_coverUnit_129_S1, pX7_coverUnit_129_da_first, pX7_coverUnit_129_da_eew, pX7_coverUnit_129_da_registers, pX7_coverUnit_129_da_full, fX7_coverPlain__da_first, fX7_coverPlain__da_eew, fX7_coverPlain__da_registers, fX7_coverPlain__da_full, fX2_cover__g_first, fX2_cover__g_eew, fX2_cover__g_eighths, fX2_cover__g_full, w1, e26, v1, v2, if_pos qw, if_pos q0, b1, b3, if_pos q29, if_pos qi', if_true]
            exact transfer_ok hW hL2 hst a4 _ _ _ _ _ _ _ _ _ _ _ _ _ _ _ _ _ _ _
      · by_cases q16 : nI s2 = 16 ∧ ¬ u1 = 0
        · obtain ⟨q16, hu⟩ := q16
          have s0 := hS.mpr hu
          have p277 : pX11_moves_277_S1 u (nI s2) u1 = 1 := by unfold pX11_moves_277_S1; rw [if_pos qw, if_pos q16, if_neg hu]
          rcases pl_cond (S := S) (E := E) hpe hWe hd hS hmu with ⟨k1, k2⟩ | ⟨k1, kl, km, k2⟩
          · have t3 : fX7_cover (fX7_prepare__o_isStore code) im tb (nI S) (nI E) (nI 0) (nI 1) u (nI d) (nI s2) (nI W) = 0 := by
              simp only [fX7_cover, rX7_cover_43, fX7_coverUnit, pX7_coverUnit_129_S1, w1, e26, v1, k1, if_pos q29, if_pos qi', if_pos qw, if_neg q0, if_neg q11, if_pos q16, if_pos s0, if_true, ite_self]
            refine K ?_ (fun _ _ h => False.elim (h (by rw [w1]; exact t3)))
            simp only [fX7_execute, fX7_execute__r_length, fX7_execute__r_start, fX7_execute__o_trapAddress, fX7_execute__xV, fX7_execute__xW, pX7_execute_60_S1, pX7_execute_60_r_length, pX7_execute_60_r_start, pX7_execute_60_o_trapAddress, pX7_execute_60_xV, pX7_execute_60_xW, fX7_prepare__o_isMasked, t3, fX11_moves, fX11_moves__m_vl, fX11_moves__m_vstart, fX11_moves__m_trapAddress, fX11_moves__zV, fX11_moves__zM, rX11_moves_103, rX11_moves_103__m_vl, rX11_moves_103__m_vstart, rX11_moves_103__m_trapAddress, rX11_moves_103__zV, rX11_moves_103__zM, rX11_moves_224, rX11_moves_224__m_vl, rX11_moves_224__m_vstart, rX11_moves_224__m_trapAddress, rX11_moves_224__zV, rX11_moves_224__zM, rX11_moves_296, rX11_moves_296__m_vl, rX11_moves_296__m_vstart, rX11_moves_296__m_trapAddress, rX11_moves_296__zV, rX11_moves_296__zM, rX11_moves_326, rX11_moves_326__m_vl, rX11_moves_326__m_vstart, rX11_moves_326__m_trapAddress, rX11_moves_326__zV, rX11_moves_326__zM, rX11_moves_377, rX11_moves_377__m_vl, rX11_moves_377__m_vstart, rX11_moves_377__m_trapAddress, rX11_moves_377__zV, rX11_moves_377__zM, w1, w2, hp, v1, p237, p252, p277, if_pos qw, if_neg q11, if_neg q0, if_neg (show ¬ (1 : Int32) = 0 by decide), if_pos q29, if_pos qi, if_neg q28, if_neg hw0, if_true]
            simp only [k2]
            exact PO.same hst h0 hM tr (Or.inr rfl)
          · obtain ⟨b1, b2, b3, b4, b5⟩ := G1 hpe hWe
            obtain ⟨a1, a2, a3, a4, a5, a6⟩ := G3 hpe hWe hd kl
            have hb : L * W ≤ 16 * E / S * W := Nat.mul_le_mul_right _ hLM
            refine K ?_ (fun _ _ _ => ?_)
            · simp only [fX7_execute, fX7_execute__r_length, fX7_execute__r_start, fX7_execute__o_trapAddress, fX7_execute__xV, fX7_execute__xW, pX7_execute_60_S1, pX7_execute_60_r_length, pX7_execute_60_r_start, pX7_execute_60_o_trapAddress, pX7_execute_60_xV, pX7_execute_60_xW, fX7_cover, fX7_cover__o_stride, fX7_cover__o_length, fX7_cover__o_isIndexed, fX7_cover__o_isFirstOnly, fX7_cover__o_isMaskBytes, fX7_cover__da_first, fX7_cover__da_eew, fX7_cover__da_registers, fX7_cover__da_full, fX7_cover__ix_first, fX7_cover__ix_eew, fX7_cover__ix_full, rX7_cover_43, rX7_cover_43__o_stride, rX7_cover_43__o_length, rX7_cover_43__o_isIndexed, rX7_cover_43__o_isFirstOnly, rX7_cover_43__o_isMaskBytes, rX7_cover_43__da_first, rX7_cover_43__da_eew, rX7_cover_43__da_registers, rX7_cover_43__da_full, rX7_cover_43__ix_first, rX7_cover_43__ix_eew, rX7_cover_43__ix_full, fX7_prepare__o_base, fX7_prepare__o_stride, fX7_prepare__o_length, fX7_prepare__o_isMasked, fX7_prepare__o_isIndexed, fX7_prepare__o_isFirstOnly, fX7_prepare__o_isMaskBytes, fX7_coverUnit, fX7_coverUnit__o_length, fX7_coverUnit__o_isFirstOnly, fX7_coverUnit__o_isMaskBytes, fX7_coverUnit__da_first, fX7_coverUnit__da_eew, fX7_coverUnit__da_registers, fX7_coverUnit__da_full, pX7_coverUnit_102_S1, pX7_coverUnit_129_S1, pX7_coverUnit_129_da_first, pX7_coverUnit_129_da_eew, pX7_coverUnit_129_da_registers, pX7_coverUnit_129_da_full, fX7_coverPlain__da_first, fX7_coverPlain__da_eew, fX7_coverPlain__da_registers, fX7_coverPlain__da_full, fX2_cover__g_first, fX2_cover__g_eew, fX2_cover__g_eighths, fX2_cover__g_full, fX11_moves, fX11_moves__m_vl, fX11_moves__m_vstart, fX11_moves__m_trapAddress, fX11_moves__zV, fX11_moves__zM, rX11_moves_103, rX11_moves_103__m_vl, rX11_moves_103__m_vstart, rX11_moves_103__m_trapAddress, rX11_moves_103__zV, rX11_moves_103__zM, rX11_moves_224, rX11_moves_224__m_vl, rX11_moves_224__m_vstart, rX11_moves_224__m_trapAddress, rX11_moves_224__zV, rX11_moves_224__zM, rX11_moves_296, rX11_moves_296__m_vl, rX11_moves_296__m_vstart, rX11_moves_296__m_trapAddress, rX11_moves_296__zV, rX11_moves_296__zM, rX11_moves_326, rX11_moves_326__m_vl, rX11_moves_326__m_vstart, rX11_moves_326__m_trapAddress, rX11_moves_326__zV, rX11_moves_326__zM, rX11_moves_377, rX11_moves_377__m_vl, rX11_moves_377__m_vstart, rX11_moves_377__m_trapAddress, rX11_moves_377__zV, rX11_moves_377__zM, eX11_moves_433, pX11_moves_464_zV, w1, w2, hp, e26, v1, v2, p237, p252, p417, p430, if_pos qw, if_neg q0, if_neg q11, if_pos q16, if_pos s0, p277, if_pos qw, if_neg q11, if_neg q0, if_neg (show ¬ (1 : Int32) = 0 by decide), b1, b3, b2, if_pos q29, if_pos qi, if_pos qi', if_neg q28, if_neg hw0, if_neg k1, if_neg (show ¬ (1 : Int32) = 0 by decide), if_true]
              simp only [k2]
              exact port_walk (g := gN S E W) (e8 := gE S E W) hW a4 b4 a1 (by omega) hL2 hst h0 hM hS hmu hP Iff.rfl (port_hm h0 hd hL2 km) (fun i xx _ _ _ => port_ha hX h1 z _ _ _ _ i xx) tr
            · simp only [fX7_cover, fX7_cover__o_stride, fX7_cover__o_length, fX7_cover__o_isIndexed, fX7_cover__o_isFirstOnly, fX7_cover__o_isMaskBytes, fX7_cover__da_first, fX7_cover__da_eew, fX7_cover__da_registers, fX7_cover__da_full, fX7_cover__ix_first, fX7_cover__ix_eew, fX7_cover__ix_full, rX7_cover_43, rX7_cover_43__o_stride, rX7_cover_43__o_length, rX7_cover_43__o_isIndexed, rX7_cover_43__o_isFirstOnly, rX7_cover_43__o_isMaskBytes, rX7_cover_43__da_first, rX7_cover_43__da_eew, rX7_cover_43__da_registers, rX7_cover_43__da_full, rX7_cover_43__ix_first, rX7_cover_43__ix_eew, rX7_cover_43__ix_full, fX7_prepare__o_base, fX7_prepare__o_stride, fX7_prepare__o_length, fX7_prepare__o_isMasked, fX7_prepare__o_isIndexed, fX7_prepare__o_isFirstOnly, fX7_prepare__o_isMaskBytes, fX7_coverUnit, fX7_coverUnit__o_length, fX7_coverUnit__o_isFirstOnly, fX7_coverUnit__o_isMaskBytes, fX7_coverUnit__da_first, fX7_coverUnit__da_eew, fX7_coverUnit__da_registers, fX7_coverUnit__da_full, pX7_coverUnit_102_S1, pX7_coverUnit_129_S1, pX7_coverUnit_129_da_first, pX7_coverUnit_129_da_eew, pX7_coverUnit_129_da_registers, pX7_coverUnit_129_da_full, fX7_coverPlain__da_first, fX7_coverPlain__da_eew, fX7_coverPlain__da_registers, fX7_coverPlain__da_full, fX2_cover__g_first, fX2_cover__g_eew, fX2_cover__g_eighths, fX2_cover__g_full, w1, e26, v1, v2, if_pos qw, if_neg q0, if_neg q11, if_pos q16, if_pos s0, b1, b3, if_pos q29, if_pos qi', if_true]
              exact transfer_ok hW hL2 hst a4 _ _ _ _ _ _ _ _ _ _ _ _ _ _ _ _ _ _ _
        · have t1 : fX7_coverUnit (fX7_prepare__o_isStore code) im (nI S) (nI E) (nI 0) (nI 1) (nI d) (nI s2) (nI W) = 0 := by
            unfold fX7_coverUnit pX7_coverUnit_129_S1
            rw [if_neg q0, if_neg q11]
            by_cases a : nI s2 = 16
            · have hu : u1 = 0 := Classical.byContradiction (fun h => q16 ⟨a, h⟩)
              rw [if_pos a, if_neg (fun h => hS.mp h hu)]
            · rw [if_neg a]
          have p277 : pX11_moves_277_S1 u (nI s2) u1 = 0 := by
            unfold pX11_moves_277_S1
            rw [if_pos qw]
            by_cases a : nI s2 = 16
            · have hu : u1 = 0 := Classical.byContradiction (fun h => q16 ⟨a, h⟩)
              rw [if_pos a, if_pos hu]
            · rw [if_neg a]
          have t3 : fX7_cover (fX7_prepare__o_isStore code) im tb (nI S) (nI E) (nI 0) (nI 1) u (nI d) (nI s2) (nI W) = 0 := by
            simp only [fX7_cover, rX7_cover_43, w1, e26, v1, t1, if_pos q29, if_pos qi', if_pos qw]
          refine K ?_ (fun _ _ h => False.elim (h (by rw [w1]; exact t3)))
          simp only [fX7_execute, fX7_execute__r_length, fX7_execute__r_start, fX7_execute__o_trapAddress, fX7_execute__xV, fX7_execute__xW, pX7_execute_60_S1, pX7_execute_60_r_length, pX7_execute_60_r_start, pX7_execute_60_o_trapAddress, pX7_execute_60_xV, pX7_execute_60_xW, fX7_prepare__o_isMasked, t3, fX11_moves, fX11_moves__m_vl, fX11_moves__m_vstart, fX11_moves__m_trapAddress, fX11_moves__zV, fX11_moves__zM, rX11_moves_103, rX11_moves_103__m_vl, rX11_moves_103__m_vstart, rX11_moves_103__m_trapAddress, rX11_moves_103__zV, rX11_moves_103__zM, rX11_moves_224, rX11_moves_224__m_vl, rX11_moves_224__m_vstart, rX11_moves_224__m_trapAddress, rX11_moves_224__zV, rX11_moves_224__zM, rX11_moves_296, rX11_moves_296__m_vl, rX11_moves_296__m_vstart, rX11_moves_296__m_trapAddress, rX11_moves_296__zV, rX11_moves_296__zM, rX11_moves_326, rX11_moves_326__m_vl, rX11_moves_326__m_vstart, rX11_moves_326__m_trapAddress, rX11_moves_326__zV, rX11_moves_326__zM, rX11_moves_377, rX11_moves_377__m_vl, rX11_moves_377__m_vstart, rX11_moves_377__m_trapAddress, rX11_moves_377__zV, rX11_moves_377__zM, w1, w2, hp, v1, p277, if_pos qw, if_neg q11, if_neg q0, if_pos q29, if_pos qi, if_neg q28, if_neg hw0, if_true]
          exact PO.same hst h0 hM tr (Or.inr rfl)
  by_cases qw2 : shr u 26 &&& 3 = 2
  · have p237 : pX11_moves_237_S1 u = 0 := by unfold pX11_moves_237_S1; rw [qw2]; decide
    have p252 : pX11_moves_252_S1 u f (nI S) = nI W := by unfold pX11_moves_252_S1; rw [p237, if_pos rfl, w2]
    have p430 : pX11_moves_430_S8 u f = 0 := by unfold pX11_moves_430_S8; rw [p237, if_pos rfl]
    have p417 : pX11_moves_417_S5 u (nI s2) f (nI S) zX = zX s2 := by unfold pX11_moves_417_S5; rw [if_pos qw2, nI_clamp (by omega)]
    have p277 : pX11_moves_277_S1 u (nI s2) u1 = 0 := by unfold pX11_moves_277_S1; rw [if_neg qw]
    have hsc := hX.scalar h2
    rcases pl_cond (S := S) (E := E) hpe hWe hd hS hmu with ⟨k1, k2⟩ | ⟨k1, kl, km, k2⟩
    · have t3 : fX7_cover (fX7_prepare__o_isStore code) im tb (nI S) (nI E) (nI 0) (nI 1) u (nI d) (nI s2) (nI W) = 0 := by
        simp only [fX7_cover, rX7_cover_43, fX7_coverUnit, pX7_coverUnit_129_S1, w1, e26, v1, k1, if_pos q29, if_pos qi', if_neg qw, if_pos qw2, hsc, if_true, ite_self]
      refine K ?_ (fun _ _ h => False.elim (h (by rw [w1]; exact t3)))
      simp only [fX7_execute, fX7_execute__r_length, fX7_execute__r_start, fX7_execute__o_trapAddress, fX7_execute__xV, fX7_execute__xW, pX7_execute_60_S1, pX7_execute_60_r_length, pX7_execute_60_r_start, pX7_execute_60_o_trapAddress, pX7_execute_60_xV, pX7_execute_60_xW, fX7_prepare__o_isMasked, t3, fX11_moves, fX11_moves__m_vl, fX11_moves__m_vstart, fX11_moves__m_trapAddress, fX11_moves__zV, fX11_moves__zM, rX11_moves_103, rX11_moves_103__m_vl, rX11_moves_103__m_vstart, rX11_moves_103__m_trapAddress, rX11_moves_103__zV, rX11_moves_103__zM, rX11_moves_224, rX11_moves_224__m_vl, rX11_moves_224__m_vstart, rX11_moves_224__m_trapAddress, rX11_moves_224__zV, rX11_moves_224__zM, rX11_moves_296, rX11_moves_296__m_vl, rX11_moves_296__m_vstart, rX11_moves_296__m_trapAddress, rX11_moves_296__zV, rX11_moves_296__zM, rX11_moves_326, rX11_moves_326__m_vl, rX11_moves_326__m_vstart, rX11_moves_326__m_trapAddress, rX11_moves_326__zV, rX11_moves_326__zM, rX11_moves_377, rX11_moves_377__m_vl, rX11_moves_377__m_vstart, rX11_moves_377__m_trapAddress, rX11_moves_377__zV, rX11_moves_377__zM, w1, w2, hp, v1, p237, p252, p277, if_neg qw, if_pos q29, if_pos qi, if_neg q28, if_neg hw0, if_true]
      simp only [k2]
      exact PO.same hst h0 hM tr (Or.inr rfl)
    · obtain ⟨b1, b2, b3, b4, b5⟩ := G1 hpe hWe
      obtain ⟨a1, a2, a3, a4, a5, a6⟩ := G3 hpe hWe hd kl
      have hb : L * W ≤ 16 * E / S * W := Nat.mul_le_mul_right _ hLM
      refine K ?_ (fun _ _ _ => ?_)
      · simp only [fX7_execute, fX7_execute__r_length, fX7_execute__r_start, fX7_execute__o_trapAddress, fX7_execute__xV, fX7_execute__xW, pX7_execute_60_S1, pX7_execute_60_r_length, pX7_execute_60_r_start, pX7_execute_60_o_trapAddress, pX7_execute_60_xV, pX7_execute_60_xW, fX7_cover, fX7_cover__o_stride, fX7_cover__o_length, fX7_cover__o_isIndexed, fX7_cover__o_isFirstOnly, fX7_cover__o_isMaskBytes, fX7_cover__da_first, fX7_cover__da_eew, fX7_cover__da_registers, fX7_cover__da_full, fX7_cover__ix_first, fX7_cover__ix_eew, fX7_cover__ix_full, rX7_cover_43, rX7_cover_43__o_stride, rX7_cover_43__o_length, rX7_cover_43__o_isIndexed, rX7_cover_43__o_isFirstOnly, rX7_cover_43__o_isMaskBytes, rX7_cover_43__da_first, rX7_cover_43__da_eew, rX7_cover_43__da_registers, rX7_cover_43__da_full, rX7_cover_43__ix_first, rX7_cover_43__ix_eew, rX7_cover_43__ix_full, fX7_prepare__o_base, fX7_prepare__o_stride, fX7_prepare__o_length, fX7_prepare__o_isMasked, fX7_prepare__o_isIndexed, fX7_prepare__o_isFirstOnly, fX7_prepare__o_isMaskBytes, fX7_coverUnit, fX7_coverUnit__o_length, fX7_coverUnit__o_isFirstOnly, fX7_coverUnit__o_isMaskBytes, fX7_coverUnit__da_first, fX7_coverUnit__da_eew, fX7_coverUnit__da_registers, fX7_coverUnit__da_full, pX7_coverUnit_102_S1, pX7_coverUnit_129_S1, pX7_coverUnit_129_da_first, pX7_coverUnit_129_da_eew, pX7_coverUnit_129_da_registers, pX7_coverUnit_129_da_full, fX7_coverPlain__da_first, fX7_coverPlain__da_eew, fX7_coverPlain__da_registers, fX7_coverPlain__da_full, fX2_cover__g_first, fX2_cover__g_eew, fX2_cover__g_eighths, fX2_cover__g_full, fX11_moves, fX11_moves__m_vl, fX11_moves__m_vstart, fX11_moves__m_trapAddress, fX11_moves__zV, fX11_moves__zM, rX11_moves_103, rX11_moves_103__m_vl, rX11_moves_103__m_vstart, rX11_moves_103__m_trapAddress, rX11_moves_103__zV, rX11_moves_103__zM, rX11_moves_224, rX11_moves_224__m_vl, rX11_moves_224__m_vstart, rX11_moves_224__m_trapAddress, rX11_moves_224__zV, rX11_moves_224__zM, rX11_moves_296, rX11_moves_296__m_vl, rX11_moves_296__m_vstart, rX11_moves_296__m_trapAddress, rX11_moves_296__zV, rX11_moves_296__zM, rX11_moves_326, rX11_moves_326__m_vl, rX11_moves_326__m_vstart, rX11_moves_326__m_trapAddress, rX11_moves_326__zV, rX11_moves_326__zM, rX11_moves_377, rX11_moves_377__m_vl, rX11_moves_377__m_vstart, rX11_moves_377__m_trapAddress, rX11_moves_377__zV, rX11_moves_377__zM, eX11_moves_433, pX11_moves_464_zV, w1, w2, hp, e26, v1, v2, p237, p252, p417, p430, if_neg qw, if_pos qw2, hsc, p277, if_neg qw, b1, b3, b2, if_pos q29, if_pos qi, if_pos qi', if_neg q28, if_neg hw0, if_neg k1, if_neg (show ¬ (1 : Int32) = 0 by decide), if_true]
        simp only [k2]
        exact port_walk (g := gN S E W) (e8 := gE S E W) hW a4 b4 a1 (by omega) hL2 hst h0 hM hS hmu hP Iff.rfl (port_hm h0 hd hL2 km) (fun i xx _ _ _ => port_ha hX h1 z _ _ _ _ i xx) tr
      · simp only [fX7_cover, fX7_cover__o_stride, fX7_cover__o_length, fX7_cover__o_isIndexed, fX7_cover__o_isFirstOnly, fX7_cover__o_isMaskBytes, fX7_cover__da_first, fX7_cover__da_eew, fX7_cover__da_registers, fX7_cover__da_full, fX7_cover__ix_first, fX7_cover__ix_eew, fX7_cover__ix_full, rX7_cover_43, rX7_cover_43__o_stride, rX7_cover_43__o_length, rX7_cover_43__o_isIndexed, rX7_cover_43__o_isFirstOnly, rX7_cover_43__o_isMaskBytes, rX7_cover_43__da_first, rX7_cover_43__da_eew, rX7_cover_43__da_registers, rX7_cover_43__da_full, rX7_cover_43__ix_first, rX7_cover_43__ix_eew, rX7_cover_43__ix_full, fX7_prepare__o_base, fX7_prepare__o_stride, fX7_prepare__o_length, fX7_prepare__o_isMasked, fX7_prepare__o_isIndexed, fX7_prepare__o_isFirstOnly, fX7_prepare__o_isMaskBytes, fX7_coverUnit, fX7_coverUnit__o_length, fX7_coverUnit__o_isFirstOnly, fX7_coverUnit__o_isMaskBytes, fX7_coverUnit__da_first, fX7_coverUnit__da_eew, fX7_coverUnit__da_registers, fX7_coverUnit__da_full, pX7_coverUnit_102_S1, pX7_coverUnit_129_S1, pX7_coverUnit_129_da_first, pX7_coverUnit_129_da_eew, pX7_coverUnit_129_da_registers, pX7_coverUnit_129_da_full, fX7_coverPlain__da_first, fX7_coverPlain__da_eew, fX7_coverPlain__da_registers, fX7_coverPlain__da_full, fX2_cover__g_first, fX2_cover__g_eew, fX2_cover__g_eighths, fX2_cover__g_full, w1, e26, v1, v2, if_neg qw, if_pos qw2, hsc, b1, b3, if_pos q29, if_pos qi', if_true]
        exact transfer_ok hW hL2 hst a4 _ _ _ _ _ _ _ _ _ _ _ _ _ _ _ _ _ _ _
  have hway : shr u 26 &&& 3 = 1 ∨ shr u 26 &&& 3 = 3 := by
    rw [e26n] at qw qw2 ⊢
    have : ∀ k, k < 2 ^ 2 → ¬ nI k = 0 → ¬ nI k = 2 → nI k = 1 ∨ nI k = 3 := by decide +kernel
    exact this _ hf2 qw qw2
  have p237 : pX11_moves_237_S1 u = 1 := by
    unfold pX11_moves_237_S1
    rcases hway with h | h <;> rw [h] <;> decide
  have p252 : pX11_moves_252_S1 u f (nI S) = nI S := by unfold pX11_moves_252_S1; rw [p237, if_neg (by decide)]
  have p430 : pX11_moves_430_S8 u f = nI W := by unfold pX11_moves_430_S8; rw [p237, if_neg (by decide), w2]
  have p417 : pX11_moves_417_S5 u (nI s2) f (nI S) zX = nI S / 8 := by unfold pX11_moves_417_S5; rw [if_neg qw2, p252]
  have p277 : pX11_moves_277_S1 u (nI s2) u1 = 0 := by unfold pX11_moves_277_S1; rw [if_neg qw]
  rcases pl_cond (S := S) (E := E) hpe hSe hd hS hmu with ⟨k1, k2⟩ | ⟨k1, kl, km, k2⟩
  · have t3 : fX7_cover (fX7_prepare__o_isStore code) im tb (nI S) (nI E) (nI 0) (nI 1) u (nI d) (nI s2) (nI W) = 0 := by
      simp only [fX7_cover, rX7_cover_43, fX7_coverIndexed, pX7_coverIndexed_84_S1, eX7_coverIndexed_43, w1, e26, v1, k1, if_pos q29, if_pos qi', if_neg qw, if_neg qw2, if_true]
    refine K ?_ (fun _ _ h => False.elim (h (by rw [w1]; exact t3)))
    simp only [fX7_execute, fX7_execute__r_length, fX7_execute__r_start, fX7_execute__o_trapAddress, fX7_execute__xV, fX7_execute__xW, pX7_execute_60_S1, pX7_execute_60_r_length, pX7_execute_60_r_start, pX7_execute_60_o_trapAddress, pX7_execute_60_xV, pX7_execute_60_xW, fX7_prepare__o_isMasked, t3, fX11_moves, fX11_moves__m_vl, fX11_moves__m_vstart, fX11_moves__m_trapAddress, fX11_moves__zV, fX11_moves__zM, rX11_moves_103, rX11_moves_103__m_vl, rX11_moves_103__m_vstart, rX11_moves_103__m_trapAddress, rX11_moves_103__zV, rX11_moves_103__zM, rX11_moves_224, rX11_moves_224__m_vl, rX11_moves_224__m_vstart, rX11_moves_224__m_trapAddress, rX11_moves_224__zV, rX11_moves_224__zM, rX11_moves_296, rX11_moves_296__m_vl, rX11_moves_296__m_vstart, rX11_moves_296__m_trapAddress, rX11_moves_296__zV, rX11_moves_296__zM, rX11_moves_326, rX11_moves_326__m_vl, rX11_moves_326__m_vstart, rX11_moves_326__m_trapAddress, rX11_moves_326__zV, rX11_moves_326__zM, rX11_moves_377, rX11_moves_377__m_vl, rX11_moves_377__m_vstart, rX11_moves_377__m_trapAddress, rX11_moves_377__zV, rX11_moves_377__zM, w1, w2, hp, v1, p237, p252, if_neg qw, if_pos q29, if_pos qi, if_neg q28, if_neg hw0, if_true]
    simp only [k2]
    exact PO.same hst h0 hM tr (Or.inr rfl)
  · rcases ix_cond (u1 := u1) hpe hWe hSe hd h2 kl hS with ⟨j1, j2⟩ | ⟨j1, jl, jo, j2⟩
    · have t3 : fX7_cover (fX7_prepare__o_isStore code) im tb (nI S) (nI E) (nI 0) (nI 1) u (nI d) (nI s2) (nI W) = 0 := by
        have k1' : ¬ eX7_coverIndexed_43 (fX7_prepare__o_isStore code) im (nI S) (nI E) (nI 0) (nI 1) (nI d) = 0 := k1
        simp only [fX7_cover, rX7_cover_43, fX7_coverIndexed, w1, e26, v1, if_pos q29, if_pos qi', if_neg qw, if_neg qw2]
        unfold pX7_coverIndexed_84_S1
        rw [if_neg k1']
        exact j1
      refine K ?_ (fun _ _ h => False.elim (h (by rw [w1]; exact t3)))
      simp only [fX7_execute, fX7_execute__r_length, fX7_execute__r_start, fX7_execute__o_trapAddress, fX7_execute__xV, fX7_execute__xW, pX7_execute_60_S1, pX7_execute_60_r_length, pX7_execute_60_r_start, pX7_execute_60_o_trapAddress, pX7_execute_60_xV, pX7_execute_60_xW, fX7_prepare__o_isMasked, t3, fX11_moves, fX11_moves__m_vl, fX11_moves__m_vstart, fX11_moves__m_trapAddress, fX11_moves__zV, fX11_moves__zM, rX11_moves_103, rX11_moves_103__m_vl, rX11_moves_103__m_vstart, rX11_moves_103__m_trapAddress, rX11_moves_103__zV, rX11_moves_103__zM, rX11_moves_224, rX11_moves_224__m_vl, rX11_moves_224__m_vstart, rX11_moves_224__m_trapAddress, rX11_moves_224__zV, rX11_moves_224__zM, rX11_moves_296, rX11_moves_296__m_vl, rX11_moves_296__m_vstart, rX11_moves_296__m_trapAddress, rX11_moves_296__zV, rX11_moves_296__zM, rX11_moves_326, rX11_moves_326__m_vl, rX11_moves_326__m_vstart, rX11_moves_326__m_trapAddress, rX11_moves_326__zV, rX11_moves_326__zM, rX11_moves_377, rX11_moves_377__m_vl, rX11_moves_377__m_vstart, rX11_moves_377__m_trapAddress, rX11_moves_377__zV, rX11_moves_377__zM, w1, w2, hp, v1, p237, p252, if_neg qw, if_pos q29, if_pos qi, if_neg q28, if_neg hw0, if_neg (show ¬ (1 : Int32) = 0 by decide), if_true]
      simp only [k2, j2]
      exact PO.same hst h0 hM tr (Or.inr rfl)
    · obtain ⟨b1, b2, b3, b4, b5⟩ := G1 hpe hSe
      obtain ⟨a1, a2, a3, a4, a5, a6⟩ := G3 hpe hSe hd kl
      have hb : L * S ≤ 16 * E / S * S := Nat.mul_le_mul_right _ hLM
      refine K ?_ (fun _ _ _ => ?_)
      · simp only [fX7_execute, fX7_execute__r_length, fX7_execute__r_start, fX7_execute__o_trapAddress, fX7_execute__xV, fX7_execute__xW, pX7_execute_60_S1, pX7_execute_60_r_length, pX7_execute_60_r_start, pX7_execute_60_o_trapAddress, pX7_execute_60_xV, pX7_execute_60_xW, fX7_cover, fX7_cover__o_stride, fX7_cover__o_length, fX7_cover__o_isIndexed, fX7_cover__o_isFirstOnly, fX7_cover__o_isMaskBytes, fX7_cover__da_first, fX7_cover__da_eew, fX7_cover__da_registers, fX7_cover__da_full, fX7_cover__ix_first, fX7_cover__ix_eew, fX7_cover__ix_full, rX7_cover_43, rX7_cover_43__o_stride, rX7_cover_43__o_length, rX7_cover_43__o_isIndexed, rX7_cover_43__o_isFirstOnly, rX7_cover_43__o_isMaskBytes, rX7_cover_43__da_first, rX7_cover_43__da_eew, rX7_cover_43__da_registers, rX7_cover_43__da_full, rX7_cover_43__ix_first, rX7_cover_43__ix_eew, rX7_cover_43__ix_full, fX7_prepare__o_base, fX7_prepare__o_stride, fX7_prepare__o_length, fX7_prepare__o_isMasked, fX7_prepare__o_isIndexed, fX7_prepare__o_isFirstOnly, fX7_prepare__o_isMaskBytes, fX7_coverPlain__da_first, fX7_coverPlain__da_eew, fX7_coverPlain__da_registers, fX7_coverPlain__da_full, fX2_cover__g_first, fX2_cover__g_eew, fX2_cover__g_eighths, fX2_cover__g_full, fX7_coverIndexed, pX7_coverIndexed_84_S1, eX7_coverIndexed_43, fX7_coverIndexed__o_isIndexed, fX7_coverIndexed__da_first, fX7_coverIndexed__da_eew, fX7_coverIndexed__da_registers, fX7_coverIndexed__da_full, fX7_coverIndexed__ix_first, fX7_coverIndexed__ix_eew, fX7_coverIndexed__ix_full, fX11_moves, fX11_moves__m_vl, fX11_moves__m_vstart, fX11_moves__m_trapAddress, fX11_moves__zV, fX11_moves__zM, rX11_moves_103, rX11_moves_103__m_vl, rX11_moves_103__m_vstart, rX11_moves_103__m_trapAddress, rX11_moves_103__zV, rX11_moves_103__zM, rX11_moves_224, rX11_moves_224__m_vl, rX11_moves_224__m_vstart, rX11_moves_224__m_trapAddress, rX11_moves_224__zV, rX11_moves_224__zM, rX11_moves_296, rX11_moves_296__m_vl, rX11_moves_296__m_vstart, rX11_moves_296__m_trapAddress, rX11_moves_296__zV, rX11_moves_296__zM, rX11_moves_326, rX11_moves_326__m_vl, rX11_moves_326__m_vstart, rX11_moves_326__m_trapAddress, rX11_moves_326__zV, rX11_moves_326__zM, rX11_moves_377, rX11_moves_377__m_vl, rX11_moves_377__m_vstart, rX11_moves_377__m_trapAddress, rX11_moves_377__zV, rX11_moves_377__zM, eX11_moves_433, pX11_moves_464_zV, w1, w2, hp, e26, v1, v2, p237, p252, p417, p430, p277, if_neg qw, if_neg qw2, j1, if_pos q29, if_pos qi, if_pos qi', if_neg q28, if_neg hw0, if_neg k1, if_neg (show ¬ (1 : Int32) = 0 by decide), if_true]
        simp only [k2]
        simp only [j2]
        simp only [b1, b2, b3]
        exact port_walk (g := gN S E S) (e8 := gE S E S) hSB a4 b4 a1 (by omega) hL2 hst h0 hM hS hmu hP Iff.rfl (port_hm h0 hd hL2 km) (port_hx h0 hX h1 h2 hW hpe hWe hSe hd hLM kl jl jo _ _) tr
      · simp only [fX7_cover, fX7_cover__o_stride, fX7_cover__o_length, fX7_cover__o_isIndexed, fX7_cover__o_isFirstOnly, fX7_cover__o_isMaskBytes, fX7_cover__da_first, fX7_cover__da_eew, fX7_cover__da_registers, fX7_cover__da_full, fX7_cover__ix_first, fX7_cover__ix_eew, fX7_cover__ix_full, rX7_cover_43, rX7_cover_43__o_stride, rX7_cover_43__o_length, rX7_cover_43__o_isIndexed, rX7_cover_43__o_isFirstOnly, rX7_cover_43__o_isMaskBytes, rX7_cover_43__da_first, rX7_cover_43__da_eew, rX7_cover_43__da_registers, rX7_cover_43__da_full, rX7_cover_43__ix_first, rX7_cover_43__ix_eew, rX7_cover_43__ix_full, fX7_prepare__o_base, fX7_prepare__o_stride, fX7_prepare__o_length, fX7_prepare__o_isMasked, fX7_prepare__o_isIndexed, fX7_prepare__o_isFirstOnly, fX7_prepare__o_isMaskBytes, fX7_coverPlain__da_first, fX7_coverPlain__da_eew, fX7_coverPlain__da_registers, fX7_coverPlain__da_full, fX2_cover__g_first, fX2_cover__g_eew, fX2_cover__g_eighths, fX2_cover__g_full, fX7_coverIndexed, pX7_coverIndexed_84_S1, eX7_coverIndexed_43, fX7_coverIndexed__o_isIndexed, fX7_coverIndexed__da_first, fX7_coverIndexed__da_eew, fX7_coverIndexed__da_registers, fX7_coverIndexed__da_full, fX7_coverIndexed__ix_first, fX7_coverIndexed__ix_eew, fX7_coverIndexed__ix_full, w1, e26, v1, v2, b1, b3, if_neg qw, if_neg qw2, if_pos q29, if_pos qi', if_true]
        exact transfer_ok hSB hL2 hst a4 _ _ _ _ _ _ _ _ _ _ _ _ _ _ _ _ _ _ _
