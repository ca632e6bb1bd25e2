/-! ===== the reference's obligations ===== -/
def HR (S E L st d s1 s2 : Nat) (vt : Int32) (z : Nat → Int32) : Prop := (S, E) ∈ PE ∧ okB S ∧ S ∈ eews ∧ 2 * S ∈ eews ∧ d < 32 ∧ s1 < 32 ∧ s2 < 32 ∧ L ≤ 16 * E / S ∧ L ≤ 128 ∧ st < 128 ∧ zB z ∧ fX11_registers (nI E) = nI (gN S E S) ∧ okX11_most vt ∧ fX11_vlmax vt = nI (16 * E / S)
theorem ok_made_lin {p : Int32} (h : ¬ p = 28 ∧ ¬ p = 29 ∧ ¬ p = 30 ∧ ¬ p = 31) (b : Int64) (W : Int32) : okX11_made p b W := by
  unfold okX11_made
  repeat' apply And.intro
  all_goals intros
  all_goals first | exact absurd (by assumption) h.1 | exact absurd (by assumption) h.2.1 | exact absurd (by assumption) h.2.2.1 | exact absurd (by assumption) h.2.2.2
theorem ok_made_div {S : Nat} {b : Int64} (hb : ¬ b = 0 → ¬ fX11_signed b (nI S) = 0) (p : Int32) : okX11_made p b (nI S) := by
  unfold okX11_made
  repeat' apply And.intro
  all_goals intros
  all_goals first | assumption | exact hb (by assumption)
theorem ok_alikeB (z zX : Nat → Int32) (hz : zB z) {s1 S i : Nat} (hS : okB S) (h1 : s1 < 32) (hi : i < 4096) (F p : Int32) : okX11_made p (pX11_alike_141_S1 (nI s1) F (nI S) zX z p (nI i)) (nI S) := by
  by_cases q : ¬ p = 28 ∧ ¬ p = 29 ∧ ¬ p = 30 ∧ ¬ p = 31
  · exact ok_made_lin q _ _
  · refine ok_made_div (fun w => ?_) p
    have e : pX11_alike_73_S1 p = 0 := by
      unfold pX11_alike_73_S1
      rw [if_neg (fun e => q (by rw [e]; decide)), if_neg (fun e => q (by rw [e]; decide)), if_neg (fun e => q (by rw [e]; decide)), if_neg (fun e => q (by rw [e]; decide)), if_neg (fun e => q (by rw [e]; decide))]
    unfold pX11_alike_141_S1 at w ⊢
    rw [if_pos e] at w ⊢
    rw [signed_eq]
    exact fun e2 => w ((signed0 hS (low_second z zX hz hS h1 hi F)).mp e2)
theorem ok_isG {S E e : Nat} (hp : (S, E) ∈ PE) (he : e ∈ eews) : okX11_isGroup (nI S) (nI E) (nI e) := ((g_0 hp he).2 0).1
theorem ok_mayBe {S E dw aw bw : Nat} (hp : (S, E) ∈ PE) (hdw : dw ∈ eews) (haw : aw ∈ eews) (hbw : bw ∈ eews) (d un A B : Int32) : okX11_mayBe d (nI S) (nI E) un (nI dw) A (nI aw) B (nI bw) := ⟨ok_isG hp hdw, fun _ _ _ => ok_isG hp haw, fun _ _ _ _ => (g_0 hp hdw).1, fun _ _ _ _ => ok_isG hp hbw, fun _ _ _ _ _ => (g_0 hp hdw).1⟩
theorem ok_mayBeMask {S E : Nat} (hp : (S, E) ∈ PE) (hSe : S ∈ eews) (d A B : Int32) : okX11_mayBeMask d (nI S) (nI E) A (nI S) B (nI S) := ⟨ok_isG hp hSe, fun _ => (g_0 hp hSe).1, fun _ _ => ok_isG hp hSe, fun _ _ _ => (g_0 hp hSe).1⟩
theorem ok_second {S s1 i : Nat} (hS : okB S) (h1 : s1 < 32) (hi : i < 4096) {F : Int32} (z : Nat → Int32) (hb : ¬ fX11_isV F = 0 → s1 * 128 + i * S + S ≤ 4096) : okX11_second_ (nI s1) F z (nI S) (nI i) := ⟨fun _ _ => vp32 h1, fun w => ok_get z hS (hb w) (by omega) hi⟩
theorem ok_shift {S s1 i : Nat} (hS : okB S) (h1 : s1 < 32) (hi : i < 4096) {F : Int32} (z : Nat → Int32) (hb : ¬ fX11_isV F = 0 → s1 * 128 + i * S + S ≤ 4096) : okX11_shift (nI s1) F z (nI S) (nI i) := ⟨fun _ _ => vp32 h1, fun w => ok_get z hS (hb w) (by omega) hi⟩
theorem ok_maskTail {L d : Nat} (hL : L ≤ 128) (hd : d < 32) (c : Int64) (z : Nat → Int32) : okX11_maskTail c (nI L) z (nI d) := by
  have h128 : (128 : Int32) = nI 128 := by decide
  unfold okX11_maskTail
  rw [h128, cnt_nI (by omega) (by omega), itX11_maskTail_5 (b9 := 128) _ _ h128 (by omega) (128 - L) L z (by omega), show L + (128 - L) = 128 by omega]
  exact ⟨ktX11_maskTail_5 (b9 := 128) _ _ h128 (by omega) (fun _ _ => True) (fun a w _ ha => ⟨fun _ => ok_openBit (by omega) c, True.intro⟩) (128 - L) L z (by omega) True.intro, by unfold tX11_maskTail_5; rw [h128, if_pos (Int32.le_refl _)]; exact id, fun h => absurd (Int32.le_refl _) h⟩
theorem bd {S E e s L i : Nat} (hp : (S, E) ∈ PE) (he : e ∈ eews) (hs : s < 32) (hLM : L ≤ 16 * E / S) (hl : legalG S E e s = true) (hi : i < L) : s * 128 + i * e + e ≤ 4096 := by
  obtain ⟨a1, a2, a3, a4, _⟩ := geo_d hp he hs hLM hl
  have : i * e + e ≤ gN S E e * 128 := mul_in hi a4
  omega
theorem secV {F : Int32} {s1 : Nat} (w : ¬ fX11_isV F = 0) : fX11_second (nI s1) F = nI s1 := by
  unfold fX11_second pX11_second_15_S1; rw [if_neg w]
theorem sec2 (F : Int32) (s1 : Nat) : fX11_second (nI s1) F = nI s1 ∨ fX11_second (nI s1) F = -1 := by
  unfold fX11_second pX11_second_15_S1
  by_cases w : fX11_isV F = 0
  · rw [if_pos w]; exact Or.inr rfl
  · rw [if_neg w]; exact Or.inl rfl
theorem ok_alike {S E L st d s1 s2 : Nat} {vt : Int32} {z : Nat → Int32} (h : HR S E L st d s1 s2 vt z) (c : Int64) (F md sat un p : Int32) (zX : Nat → Int32) : okX11_alike c (nI L) vt (nI st) md sat (nI d) (nI s1) (nI s2) F (nI S) (nI E) un zX z z p := by
  obtain ⟨hp, hS, hSe, h2e, hd, h1, h2, hLM, hL, hst, hz, hreg, hmo, hvm⟩ := h
  have hle := hS.le
  have M0 := ok_mayBe hp hSe hSe hSe (nI d) un (nI s2) (fX11_second (nI s1) F)
  by_cases hC : fX11_mayBe (nI d) (nI S) (nI E) un (nI S) (nI s2) (nI S) (fX11_second (nI s1) F) (nI S) = 0
  · unfold okX11_alike
    refine ⟨M0, ?_⟩
    repeat' apply And.intro
    all_goals intro h
    all_goals exact absurd hC h
  obtain ⟨g1, g2, g3, g4⟩ := (mayBe_iff (un := un) (b := s1) hp hSe hSe hSe hd h2 h1 (Or.inl rfl) (sec2 F s1)).mp hC
  have hdB : okB S := (geo_d hp hSe hd hLM g1).2.2.2.2.1
  have hlB : okB S := okW.B (G3 hp hSe h2 (g3 rfl).1).2.1
  have hD : ∀ a, a < L → d * 128 + a * S + S ≤ 4096 := fun a ha => bd hp hSe hd hLM g1 ha
  have hA : ∀ a, a < L → s2 * 128 + a * S + S ≤ 4096 := fun a ha => bd hp hSe h2 hLM (g3 rfl).1 ha
  have hV : ¬ fX11_isV F = 0 → ∀ a, a < L → s1 * 128 + a * S + S ≤ 4096 := fun w a ha => bd hp hSe h1 hLM (g4 (secV w)).1 ha
  have O : ∀ a, a < L → ∀ (w0 : Int32) (w1 : (Nat → Int32)), oX11_alike_79 c (nI L) vt md (nI d) (nI s1) (nI s2) F (nI S) un zX z p (nI a) w0 w1 := by
    intro a ha w0 w1
    unfold oX11_alike_79
    repeat' apply And.intro
    all_goals intros
    all_goals first | exact ok_isActive (by omega) _ | exact ok_masked _ hdB (hD a ha) _ _ | exact ok_get _ hlB (hA a ha) (by omega) (by omega) | exact ok_get _ hdB (hD a ha) (by omega) (by omega) | exact ok_put _ hdB (hD a ha) (by omega) (by omega) _ | exact ok_second hS h1 (by omega) _ (fun w => hV w a ha) | exact ok_shift hS h1 (by omega) _ (fun w => hV w a ha) | exact ok_alikeB _ _ hz hS h1 (by omega) _ _
  unfold okX11_alike
  have he := goes_eq (vl := L) (st := st) (by omega) (by omega)
  rcases Nat.lt_or_ge st L with q | q
  · rw [cnt_nI (by omega) (by omega), itX11_alike_79 (b9 := L) _ _ _ _ _ _ _ _ _ _ _ _ _ rfl (by omega) (L - st) st sat z (by omega), show st + (L - st) = L by omega]
    refine ⟨M0, ?_⟩
    repeat' apply And.intro
    all_goals intros
    all_goals first | exact absurd (Int32.le_refl (nI L)) (by assumption) | exact ktX11_alike_79 (b9 := L) _ _ _ _ _ _ _ _ _ _ _ _ _ rfl (by omega) (fun _ _ => True) (fun a w0 w1 _ ha => ⟨O a ha w0 w1, True.intro⟩) (L - st) st sat z (by omega) True.intro | exact ok_tailM _ hdB (geo_d hp hSe hd hLM g1).2.1 hreg (geo_d hp hSe hd hLM g1).1 (by omega) _ _ | (unfold tX11_alike_79; rw [if_pos (Int32.le_refl _)]; exact id)
  · refine ⟨M0, ?_⟩
    repeat' apply And.intro
    all_goals intros
    all_goals exact absurd (he.mpr q) (by assumption)
theorem ok_narrows {S E L st d s1 s2 : Nat} {vt : Int32} {z : Nat → Int32} (h : HR S E L st d s1 s2 vt z) (c : Int64) (F md sat un u1 u2 : Int32) (zX : Nat → Int32) : okX11_narrows c (nI L) vt (nI st) md sat (nI d) (nI s1) (nI s2) F (nI S) (nI E) un zX z z u1 u2 := by
  obtain ⟨hp, hS, hSe, h2e, hd, h1, h2, hLM, hL, hst, hz, hreg, hmo, hvm⟩ := h
  have hle := hS.le
  have M0 := ok_mayBe hp hSe h2e hSe (nI d) un (nI s2) (fX11_second (nI s1) F)
  by_cases hC : fX11_mayBe (nI d) (nI S) (nI E) un (nI S) (nI s2) (nI (2 * S)) (fX11_second (nI s1) F) (nI S) = 0
  · unfold okX11_narrows
    rw [two_nI]
    refine ⟨M0, ?_⟩
    repeat' apply And.intro
    all_goals intro h
    all_goals exact absurd hC h
  obtain ⟨g1, g2, g3, g4⟩ := (mayBe_iff (un := un) (b := s1) hp hSe h2e hSe hd h2 h1 (Or.inl rfl) (sec2 F s1)).mp hC
  have hdB : okB S := (geo_d hp hSe hd hLM g1).2.2.2.2.1
  have hlB : okB (2 * S) := okW.B (G3 hp h2e h2 (g3 rfl).1).2.1
  have hD : ∀ a, a < L → d * 128 + a * S + S ≤ 4096 := fun a ha => bd hp hSe hd hLM g1 ha
  have hA : ∀ a, a < L → s2 * 128 + a * (2 * S) + (2 * S) ≤ 4096 := fun a ha => bd hp h2e h2 hLM (g3 rfl).1 ha
  have hV : ¬ fX11_isV F = 0 → ∀ a, a < L → s1 * 128 + a * S + S ≤ 4096 := fun w a ha => bd hp hSe h1 hLM (g4 (secV w)).1 ha
  have O : ∀ a, a < L → ∀ (w0 : Int32) (w1 : (Nat → Int32)), oX11_narrows_45 c (nI L) vt md (nI d) (nI s1) (nI s2) F (nI S) un zX z u1 u2 (nI a) w0 w1 := by
    intro a ha w0 w1
    unfold oX11_narrows_45
    rw [two_nI]
    repeat' apply And.intro
    all_goals intros
    all_goals first | exact ok_isActive (by omega) _ | exact ok_masked _ hdB (hD a ha) _ _ | exact ok_get _ hlB (hA a ha) (by omega) (by omega) | exact ok_get _ hdB (hD a ha) (by omega) (by omega) | exact ok_put _ hdB (hD a ha) (by omega) (by omega) _ | exact ok_second hS h1 (by omega) _ (fun w => hV w a ha) | exact ok_shift hS h1 (by omega) _ (fun w => hV w a ha)
  unfold okX11_narrows
  rw [two_nI]
  have he := goes_eq (vl := L) (st := st) (by omega) (by omega)
  rcases Nat.lt_or_ge st L with q | q
  · rw [cnt_nI (by omega) (by omega), itX11_narrows_45 (b9 := L) _ _ _ _ _ _ _ _ _ _ _ _ _ _ rfl (by omega) (L - st) st sat z (by omega), show st + (L - st) = L by omega]
    refine ⟨M0, ?_⟩
    repeat' apply And.intro
    all_goals intros
    all_goals first | exact absurd (Int32.le_refl (nI L)) (by assumption) | exact ktX11_narrows_45 (b9 := L) _ _ _ _ _ _ _ _ _ _ _ _ _ _ rfl (by omega) (fun _ _ => True) (fun a w0 w1 _ ha => ⟨O a ha w0 w1, True.intro⟩) (L - st) st sat z (by omega) True.intro | exact ok_tailM _ hdB (geo_d hp hSe hd hLM g1).2.1 hreg (geo_d hp hSe hd hLM g1).1 (by omega) _ _ | (unfold tX11_narrows_45; rw [if_pos (Int32.le_refl _)]; exact id)
  · refine ⟨M0, ?_⟩
    repeat' apply And.intro
    all_goals intros
    all_goals exact absurd (he.mpr q) (by assumption)
theorem ok_widens {S E L st d s1 s2 : Nat} {vt : Int32} {z : Nat → Int32} (h : HR S E L st d s1 s2 vt z) (c : Int64) (F un u1 u2 : Int32) (zX : Nat → Int32) : okX11_widens c (nI L) vt (nI st) (nI d) (nI s1) (nI s2) F (nI S) (nI E) un zX z z u1 u2 0 := by
  obtain ⟨hp, hS, hSe, h2e, hd, h1, h2, hLM, hL, hst, hz, hreg, hmo, hvm⟩ := h
  have hle := hS.le
  have hw3 : pX11_widens_28_S4 (nI S) 0 = nI S := by unfold pX11_widens_28_S4; rw [if_pos rfl]
  have hw4 : pX11_widens_110_S3 (nI S) 0 = nI S := by unfold pX11_widens_110_S3; rw [if_pos rfl]
  have M0 := ok_mayBe hp h2e hSe hSe (nI d) un (nI s2) (fX11_second (nI s1) F)
  by_cases hC : fX11_mayBe (nI d) (nI S) (nI E) un (nI (2 * S)) (nI s2) (nI S) (fX11_second (nI s1) F) (nI S) = 0
  · unfold okX11_widens
    rw [hw3, two_nI, two_nI]
    refine ⟨M0, ?_⟩
    repeat' apply And.intro
    all_goals intro h
    all_goals exact absurd hC h
  obtain ⟨g1, g2, g3, g4⟩ := (mayBe_iff (un := un) (b := s1) hp h2e hSe hSe hd h2 h1 (Or.inl rfl) (sec2 F s1)).mp hC
  have hdB : okB (2 * S) := (geo_d hp h2e hd hLM g1).2.2.2.2.1
  have hlB : okB S := okW.B (G3 hp hSe h2 (g3 rfl).1).2.1
  have hD : ∀ a, a < L → d * 128 + a * (2 * S) + (2 * S) ≤ 4096 := fun a ha => bd hp h2e hd hLM g1 ha
  have hA : ∀ a, a < L → s2 * 128 + a * S + S ≤ 4096 := fun a ha => bd hp hSe h2 hLM (g3 rfl).1 ha
  have hV : ¬ fX11_isV F = 0 → ∀ a, a < L → s1 * 128 + a * S + S ≤ 4096 := fun w a ha => bd hp hSe h1 hLM (g4 (secV w)).1 ha
  have O : ∀ a, a < L → ∀ (w0 : (Nat → Int32)), oX11_widens_59 c (nI L) vt (nI d) (nI s1) (nI s2) F (nI S) un zX z u1 u2 0 (nI a) w0 := by
    intro a ha w0
    unfold oX11_widens_59
    rw [hw4, two_nI]
    repeat' apply And.intro
    all_goals intros
    all_goals first | exact ok_isActive (by omega) _ | exact ok_masked _ hdB (hD a ha) _ _ | exact ok_get _ hlB (hA a ha) (by omega) (by omega) | exact ok_get _ hdB (hD a ha) (by omega) (by omega) | exact ok_put _ hdB (hD a ha) (by omega) (by omega) _ | exact ok_second hS h1 (by omega) _ (fun w => hV w a ha) | exact ok_shift hS h1 (by omega) _ (fun w => hV w a ha)
  unfold okX11_widens
  rw [hw3, two_nI, two_nI]
  have he := goes_eq (vl := L) (st := st) (by omega) (by omega)
  rcases Nat.lt_or_ge st L with q | q
  · rw [cnt_nI (by omega) (by omega), itX11_widens_59 (b9 := L) _ _ _ _ _ _ _ _ _ _ _ _ _ _ rfl (by omega) (L - st) st z (by omega), show st + (L - st) = L by omega]
    refine ⟨M0, ?_⟩
    repeat' apply And.intro
    all_goals intros
    all_goals first | exact absurd (Int32.le_refl (nI L)) (by assumption) | exact ktX11_widens_59 (b9 := L) _ _ _ _ _ _ _ _ _ _ _ _ _ _ rfl (by omega) (fun _ _ => True) (fun a w0 _ ha => ⟨O a ha w0, True.intro⟩) (L - st) st z (by omega) True.intro | exact ok_tailM _ hdB (geo_d hp h2e hd hLM g1).2.1 (by rw [← gE2 hp]; exact (G1 hp h2e).2.2.2.1) (geo_d hp h2e hd hLM g1).1 (by omega) _ _ | (unfold tX11_widens_59; rw [if_pos (Int32.le_refl _)]; exact id)
  · refine ⟨M0, ?_⟩
    repeat' apply And.intro
    all_goals intros
    all_goals exact absurd (he.mpr q) (by assumption)
theorem ok_widensW {S E L st d s1 s2 : Nat} {vt : Int32} {z : Nat → Int32} (h : HR S E L st d s1 s2 vt z) (c : Int64) (F un u1 u2 : Int32) (zX : Nat → Int32) : okX11_widens c (nI L) vt (nI st) (nI d) (nI s1) (nI s2) F (nI S) (nI E) un zX z z u1 u2 1 := by
  obtain ⟨hp, hS, hSe, h2e, hd, h1, h2, hLM, hL, hst, hz, hreg, hmo, hvm⟩ := h
  have hle := hS.le
  have hw3 : pX11_widens_28_S4 (nI S) 1 = nI (2 * S) := by unfold pX11_widens_28_S4; rw [if_neg (by decide), two_nI]
  have hw4 : pX11_widens_110_S3 (nI S) 1 = nI (2 * S) := by unfold pX11_widens_110_S3; rw [if_neg (by decide), two_nI]
  have M0 := ok_mayBe hp h2e h2e hSe (nI d) un (nI s2) (fX11_second (nI s1) F)
  by_cases hC : fX11_mayBe (nI d) (nI S) (nI E) un (nI (2 * S)) (nI s2) (nI (2 * S)) (fX11_second (nI s1) F) (nI S) = 0
  · unfold okX11_widens
    rw [hw3, two_nI, two_nI]
    refine ⟨M0, ?_⟩
    repeat' apply And.intro
    all_goals intro h
    all_goals exact absurd hC h
  obtain ⟨g1, g2, g3, g4⟩ := (mayBe_iff (un := un) (b := s1) hp h2e h2e hSe hd h2 h1 (Or.inl rfl) (sec2 F s1)).mp hC
  have hdB : okB (2 * S) := (geo_d hp h2e hd hLM g1).2.2.2.2.1
  have hlB : okB (2 * S) := okW.B (G3 hp h2e h2 (g3 rfl).1).2.1
  have hD : ∀ a, a < L → d * 128 + a * (2 * S) + (2 * S) ≤ 4096 := fun a ha => bd hp h2e hd hLM g1 ha
  have hA : ∀ a, a < L → s2 * 128 + a * (2 * S) + (2 * S) ≤ 4096 := fun a ha => bd hp h2e h2 hLM (g3 rfl).1 ha
  have hV : ¬ fX11_isV F = 0 → ∀ a, a < L → s1 * 128 + a * S + S ≤ 4096 := fun w a ha => bd hp hSe h1 hLM (g4 (secV w)).1 ha
  have O : ∀ a, a < L → ∀ (w0 : (Nat → Int32)), oX11_widens_59 c (nI L) vt (nI d) (nI s1) (nI s2) F (nI S) un zX z u1 u2 1 (nI a) w0 := by
    intro a ha w0
    unfold oX11_widens_59
    rw [hw4, two_nI]
    repeat' apply And.intro
    all_goals intros
    all_goals first | exact ok_isActive (by omega) _ | exact ok_masked _ hdB (hD a ha) _ _ | exact ok_get _ hlB (hA a ha) (by omega) (by omega) | exact ok_get _ hdB (hD a ha) (by omega) (by omega) | exact ok_put _ hdB (hD a ha) (by omega) (by omega) _ | exact ok_second hS h1 (by omega) _ (fun w => hV w a ha) | exact ok_shift hS h1 (by omega) _ (fun w => hV w a ha)
  unfold okX11_widens
  rw [hw3, two_nI, two_nI]
  have he := goes_eq (vl := L) (st := st) (by omega) (by omega)
  rcases Nat.lt_or_ge st L with q | q
  · rw [cnt_nI (by omega) (by omega), itX11_widens_59 (b9 := L) _ _ _ _ _ _ _ _ _ _ _ _ _ _ rfl (by omega) (L - st) st z (by omega), show st + (L - st) = L by omega]
    refine ⟨M0, ?_⟩
    repeat' apply And.intro
    all_goals intros
    all_goals first | exact absurd (Int32.le_refl (nI L)) (by assumption) | exact ktX11_widens_59 (b9 := L) _ _ _ _ _ _ _ _ _ _ _ _ _ _ rfl (by omega) (fun _ _ => True) (fun a w0 _ ha => ⟨O a ha w0, True.intro⟩) (L - st) st z (by omega) True.intro | exact ok_tailM _ hdB (geo_d hp h2e hd hLM g1).2.1 (by rw [← gE2 hp]; exact (G1 hp h2e).2.2.2.1) (geo_d hp h2e hd hLM g1).1 (by omega) _ _ | (unfold tX11_widens_59; rw [if_pos (Int32.le_refl _)]; exact id)
  · refine ⟨M0, ?_⟩
    repeat' apply And.intro
    all_goals intros
    all_goals exact absurd (he.mpr q) (by assumption)
theorem ok_multiplies {S E L st d s1 s2 : Nat} {vt : Int32} {z : Nat → Int32} (h : HR S E L st d s1 s2 vt z) (c : Int64) (F un u1 u2 u3 : Int32) (zX : Nat → Int32) : okX11_multiplies c (nI L) vt (nI st) (nI d) (nI s1) (nI s2) F (nI S) (nI E) un zX z z u1 u2 u3 := by
  obtain ⟨hp, hS, hSe, h2e, hd, h1, h2, hLM, hL, hst, hz, hreg, hmo, hvm⟩ := h
  have hle := hS.le
  have M0 := ok_mayBe hp h2e hSe hSe (nI d) un (nI s2) (fX11_second (nI s1) F)
  by_cases hC : fX11_mayBe (nI d) (nI S) (nI E) un (nI (2 * S)) (nI s2) (nI S) (fX11_second (nI s1) F) (nI S) = 0
  · unfold okX11_multiplies
    rw [two_nI, two_nI]
    refine ⟨M0, ?_⟩
    repeat' apply And.intro
    all_goals intro h
    all_goals exact absurd hC h
  obtain ⟨g1, g2, g3, g4⟩ := (mayBe_iff (un := un) (b := s1) hp h2e hSe hSe hd h2 h1 (Or.inl rfl) (sec2 F s1)).mp hC
  have hdB : okB (2 * S) := (geo_d hp h2e hd hLM g1).2.2.2.2.1
  have hlB : okB S := okW.B (G3 hp hSe h2 (g3 rfl).1).2.1
  have hD : ∀ a, a < L → d * 128 + a * (2 * S) + (2 * S) ≤ 4096 := fun a ha => bd hp h2e hd hLM g1 ha
  have hA : ∀ a, a < L → s2 * 128 + a * S + S ≤ 4096 := fun a ha => bd hp hSe h2 hLM (g3 rfl).1 ha
  have hV : ¬ fX11_isV F = 0 → ∀ a, a < L → s1 * 128 + a * S + S ≤ 4096 := fun w a ha => bd hp hSe h1 hLM (g4 (secV w)).1 ha
  have O : ∀ a, a < L → ∀ (w0 : (Nat → Int32)), oX11_multiplies_50 c (nI L) vt (nI d) (nI s1) (nI s2) F (nI S) un zX z u1 u2 u3 (nI a) w0 := by
    intro a ha w0
    unfold oX11_multiplies_50
    rw [two_nI]
    repeat' apply And.intro
    all_goals intros
    all_goals first | exact ok_isActive (by omega) _ | exact ok_masked _ hdB (hD a ha) _ _ | exact ok_get _ hlB (hA a ha) (by omega) (by omega) | exact ok_get _ hdB (hD a ha) (by omega) (by omega) | exact ok_put _ hdB (hD a ha) (by omega) (by omega) _ | exact ok_second hS h1 (by omega) _ (fun w => hV w a ha) | exact ok_shift hS h1 (by omega) _ (fun w => hV w a ha)
  unfold okX11_multiplies
  rw [two_nI, two_nI]
  have he := goes_eq (vl := L) (st := st) (by omega) (by omega)
  rcases Nat.lt_or_ge st L with q | q
  · rw [cnt_nI (by omega) (by omega), itX11_multiplies_50 (b9 := L) _ _ _ _ _ _ _ _ _ _ _ _ _ _ rfl (by omega) (L - st) st z (by omega), show st + (L - st) = L by omega]
    refine ⟨M0, ?_⟩
    repeat' apply And.intro
    all_goals intros
    all_goals first | exact absurd (Int32.le_refl (nI L)) (by assumption) | exact ktX11_multiplies_50 (b9 := L) _ _ _ _ _ _ _ _ _ _ _ _ _ _ rfl (by omega) (fun _ _ => True) (fun a w0 _ ha => ⟨O a ha w0, True.intro⟩) (L - st) st z (by omega) True.intro | exact ok_tailM _ hdB (geo_d hp h2e hd hLM g1).2.1 (by rw [← gE2 hp]; exact (G1 hp h2e).2.2.2.1) (geo_d hp h2e hd hLM g1).1 (by omega) _ _ | (unfold tX11_multiplies_50; rw [if_pos (Int32.le_refl _)]; exact id)
  · refine ⟨M0, ?_⟩
    repeat' apply And.intro
    all_goals intros
    all_goals exact absurd (he.mpr q) (by assumption)
theorem ok_slidesDown {S E L st d s1 s2 : Nat} {vt : Int32} {z : Nat → Int32} (h : HR S E L st d s1 s2 vt z) (c : Int64) (F un : Int32) (zX : Nat → Int32) : okX11_slidesDown c (nI L) vt (nI st) (nI d) (nI s1) (nI s2) F (nI S) (nI E) un zX z z := by
  obtain ⟨hp, hS, hSe, h2e, hd, h1, h2, hLM, hL, hst, hz, hreg, hmo, hvm⟩ := h
  have hle := hS.le
  have M0 := ok_mayBe hp hSe hSe hSe (nI d) un (nI s2) (-1)
  by_cases hC : fX11_mayBe (nI d) (nI S) (nI E) un (nI S) (nI s2) (nI S) (-1) (nI S) = 0
  · unfold okX11_slidesDown
    refine ⟨M0, ?_⟩
    repeat' apply And.intro
    all_goals intro h
    all_goals exact absurd hC h
  obtain ⟨g1, g2, g3, g4⟩ := (mayBe_iff (un := un) (b := s1) hp hSe hSe hSe hd h2 h1 (Or.inl rfl) (Or.inr rfl)).mp hC
  have hdB : okB S := (geo_d hp hSe hd hLM g1).2.2.2.2.1
  have hlB : okB S := okW.B (G3 hp hSe h2 (g3 rfl).1).2.1
  have hD : ∀ a, a < L → d * 128 + a * S + S ≤ 4096 := fun a ha => bd hp hSe hd hLM g1 ha
  have hA : ∀ a, a < L → s2 * 128 + a * S + S ≤ 4096 := fun a ha => bd hp hSe h2 hLM (g3 rfl).1 ha
  have hK : ∀ a, a < L → ¬ Int32.toInt64 (fX11_vlmax vt) ≤ Int32.toInt64 (nI a) + pX11_slidesDown_64_S1 (nI s1) F zX → okX11_get z (nI s2) (nI S) (Int64.toInt32 (Int32.toInt64 (nI a) + pX11_slidesDown_64_S1 (nI s1) F zX)) := by
    intro a ha w
    have hM128 : 16 * E / S ≤ 128 := by
      have : ∀ p ∈ PE, 16 * p.2 / p.1 ≤ 128 := by decide
      exact this (S, E) hp
    obtain ⟨b, hb, eb⟩ : ∃ b, b < 2 ^ 32 ∧ pX11_slidesDown_64_S1 (nI s1) F zX = lN b := by
      unfold pX11_slidesDown_64_S1
      by_cases q : fX11_isX F = 0
      · rw [if_pos q]; exact ⟨s1, by omega, nI_l (by omega)⟩
      · rw [if_neg q]; exact andw _
    rw [hvm, eb, nI_l (by omega), nI_l (by omega), lN_add] at w
    rw [eb, nI_l (by omega), lN_add, lN_i]
    have hlt : a + b < 16 * E / S := Nat.lt_of_not_le (fun v => w ((pk_lLE (by omega) (by omega)).mpr v))
    exact ok_get z hS (bd hp hSe h2 (Nat.le_refl _) (g3 rfl).1 hlt) (by omega) (by omega)
  have O : ∀ a, a < L → ∀ (w0 : (Nat → Int32)), oX11_slidesDown_70 c (nI L) vt (nI d) (nI s1) (nI s2) F (nI S) un zX z (nI a) w0 := by
    intro a ha w0
    unfold oX11_slidesDown_70
    repeat' apply And.intro
    all_goals intros
    all_goals first | exact ok_isActive (by omega) _ | exact ok_masked _ hdB (hD a ha) _ _ | exact ok_get _ hlB (hA a ha) (by omega) (by omega) | exact ok_get _ hdB (hD a ha) (by omega) (by omega) | exact ok_put _ hdB (hD a ha) (by omega) (by omega) _ | exact ok_second hS h1 (by omega) _ (fun w => hV w a ha) | exact ok_shift hS h1 (by omega) _ (fun w => hV w a ha) | exact hmo | exact hK a ha (by assumption)
  unfold okX11_slidesDown
  have he := goes_eq (vl := L) (st := st) (by omega) (by omega)
  rcases Nat.lt_or_ge st L with q | q
  · rw [cnt_nI (by omega) (by omega), itX11_slidesDown_70 (b9 := L) _ _ _ _ _ _ _ _ _ _ _ rfl (by omega) (L - st) st z (by omega), show st + (L - st) = L by omega]
    refine ⟨M0, ?_⟩
    repeat' apply And.intro
    all_goals intros
    all_goals first | exact absurd (Int32.le_refl (nI L)) (by assumption) | exact ktX11_slidesDown_70 (b9 := L) _ _ _ _ _ _ _ _ _ _ _ rfl (by omega) (fun _ _ => True) (fun a w0 _ ha => ⟨O a ha w0, True.intro⟩) (L - st) st z (by omega) True.intro | exact (by first | exact vp32 h1 | exact ok_tailM _ hdB (geo_d hp hSe hd hLM g1).2.1 hreg (geo_d hp hSe hd hLM g1).1 (by omega) _ _) | (unfold tX11_slidesDown_70; rw [if_pos (Int32.le_refl _)]; exact id)
  · refine ⟨M0, ?_⟩
    repeat' apply And.intro
    all_goals intros
    all_goals exact absurd (he.mpr q) (by assumption)
theorem ok_merges {S E L st d s1 s2 : Nat} {vt : Int32} {z : Nat → Int32} (h : HR S E L st d s1 s2 vt z) (c : Int64) (F un : Int32) (zX : Nat → Int32) : okX11_merges c (nI L) vt (nI st) (nI d) (nI s1) (nI s2) F (nI S) (nI E) un zX z z := by
  obtain ⟨hp, hS, hSe, h2e, hd, h1, h2, hLM, hL, hst, hz, hreg, hmo, hvm⟩ := h
  have hle := hS.le
  have M0 := ok_mayBe hp hSe hSe hSe (nI d) un (pX11_merges_34_S3 (nI s2) un) (fX11_second (nI s1) F)
  by_cases hC : fX11_mayBe (nI d) (nI S) (nI E) un (nI S) (pX11_merges_34_S3 (nI s2) un) (nI S) (fX11_second (nI s1) F) (nI S) = 0
  · unfold okX11_merges
    refine ⟨M0, ?_⟩
    repeat' apply And.intro
    all_goals intro h
    all_goals exact absurd hC h
  have hA2 : pX11_merges_34_S3 (nI s2) un = nI s2 ∨ pX11_merges_34_S3 (nI s2) un = -1 := by
    unfold pX11_merges_34_S3
    by_cases w : un = 0
    · rw [if_pos w]; exact Or.inl rfl
    · rw [if_neg w]; exact Or.inr rfl
  obtain ⟨g1, g2, g3, g4⟩ := (mayBe_iff (un := un) hp hSe hSe hSe hd h2 h1 hA2 (sec2 F s1)).mp hC
  have hdB := hS
  have hlB := hS
  have hD : ∀ a, a < L → d * 128 + a * S + S ≤ 4096 := fun a ha => bd hp hSe hd hLM g1 ha
  have hA : un = 0 → ∀ a, a < L → s2 * 128 + a * S + S ≤ 4096 := fun w a ha => bd hp hSe h2 hLM (g3 (by unfold pX11_merges_34_S3; rw [if_pos w])).1 ha
  have hV : ¬ fX11_isV F = 0 → ∀ a, a < L → s1 * 128 + a * S + S ≤ 4096 := fun w a ha => bd hp hSe h1 hLM (g4 (secV w)).1 ha
  have O : ∀ a, a < L → ∀ (w0 : (Nat → Int32)), oX11_merges_68 (nI L) (nI d) (nI s1) (nI s2) F (nI S) un zX z (nI a) w0 := by
    intro a ha w0
    unfold oX11_merges_68
    repeat' apply And.intro
    all_goals intros
    all_goals first | exact ok_bit (r := 0) (by omega) | exact ok_get _ hlB (hA (by assumption) a ha) (by omega) (by omega) | exact ok_put _ hdB (hD a ha) (by omega) (by omega) _ | exact ok_second hS h1 (by omega) _ (fun w => hV w a ha) | exact ok_shift hS h1 (by omega) _ (fun w => hV w a ha)
  unfold okX11_merges
  have he := goes_eq (vl := L) (st := st) (by omega) (by omega)
  rcases Nat.lt_or_ge st L with q | q
  · rw [cnt_nI (by omega) (by omega), itX11_merges_68 (b9 := L) _ _ _ _ _ _ _ _ _ rfl (by omega) (L - st) st z (by omega), show st + (L - st) = L by omega]
    refine ⟨M0, ?_⟩
    repeat' apply And.intro
    all_goals intros
    all_goals first | exact absurd (Int32.le_refl (nI L)) (by assumption) | exact ktX11_merges_68 (b9 := L) _ _ _ _ _ _ _ _ _ rfl (by omega) (fun _ _ => True) (fun a w0 _ ha => ⟨O a ha w0, True.intro⟩) (L - st) st z (by omega) True.intro | exact ok_tailM _ hdB (geo_d hp hSe hd hLM g1).2.1 hreg (geo_d hp hSe hd hLM g1).1 (by omega) _ _ | (unfold tX11_merges_68; rw [if_pos (Int32.le_refl _)]; exact id)
  · refine ⟨M0, ?_⟩
    repeat' apply And.intro
    all_goals intros
    all_goals exact absurd (he.mpr q) (by assumption)
