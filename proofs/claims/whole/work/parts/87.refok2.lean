/-! ===== the reference's obligations, on ===== -/
theorem ok_compares {S E L st d s1 s2 : Nat} {vt : Int32} {z : Nat → Int32} (h : HR S E L st d s1 s2 vt z) (c : Int64) (F un p : Int32) (zX : Nat → Int32) : okX11_compares c (nI L) vt (nI st) (nI d) (nI s1) (nI s2) F (nI S) (nI E) un zX z z p := by
  obtain ⟨hp, hS, hSe, h2e, hd, h1, h2, hLM, hL, hst, hz, hreg, hmo, hvm⟩ := h
  have hle := hS.le
  have M0 := ok_mayBeMask hp hSe (nI d) (nI s2) (fX11_second (nI s1) F)
  by_cases hC : fX11_mayBeMask (nI d) (nI S) (nI E) (nI s2) (nI S) (fX11_second (nI s1) F) (nI S) = 0
  · unfold okX11_compares
    refine ⟨M0, ?_⟩
    repeat' apply And.intro
    all_goals intro h
    all_goals exact absurd hC h
  have qk := (cond_M (F := F) (d := d) (im := 0) hp hSe h1 h2 (k := 2) (Or.inl rfl)).mpr hC
  have l2 : legalG S E S s2 = true := by have := (qk.2.2.1 (e_ne1 hSe).2).1; rw [(gn_e hSe).2.2] at this; exact this
  have hlB := hS
  have hA : ∀ a, a < L → s2 * 128 + a * S + S ≤ 4096 := fun a ha => bd hp hSe h2 hLM l2 ha
  have hV : ¬ fX11_isV F = 0 → ∀ a, a < L → s1 * 128 + a * S + S ≤ 4096 := by
    intro w a ha
    have hr : ¬ pX4_cover_31_S2 F (nI S) = 0 := by rw [hr_eq (eE1 hSe) (e_ne1 hSe).2]; exact w
    have := (qk.2.2.2 hr).1
    rw [(gn_e hSe).2.2] at this
    exact bd hp hSe h1 hLM this ha
  have O : ∀ a, a < L → ∀ (w0 : (Nat → Int32)), oX11_compares_39 c (nI L) vt (nI d) (nI s1) (nI s2) F (nI S) un z (nI a) w0 := by
    intro a ha w0
    unfold oX11_compares_39
    repeat' apply And.intro
    all_goals intros
    all_goals first | exact ok_isActive (by omega) _ | exact ok_get _ hlB (hA a ha) (by omega) (by omega) | exact ok_second hS h1 (by omega) _ (fun w => hV w a ha) | exact ok_putBit (by omega) | exact ok_openBit (by omega) _ | exact ok_bit (by omega) | exact ok_bit (r := 0) (by omega)
  unfold okX11_compares
  have he := goes_eq (vl := L) (st := st) (by omega) (by omega)
  rcases Nat.lt_or_ge st L with q | q
  · rw [cnt_nI (by omega) (by omega), itX11_compares_39 (b9 := L) _ _ _ _ _ _ _ _ _ _ _ _ rfl (by omega) (L - st) st z (by omega), show st + (L - st) = L by omega]
    refine ⟨M0, ?_⟩
    repeat' apply And.intro
    all_goals intros
    all_goals first | exact absurd (Int32.le_refl (nI L)) (by assumption) | exact ktX11_compares_39 (b9 := L) _ _ _ _ _ _ _ _ _ _ _ _ rfl (by omega) (fun _ _ => True) (fun a w0 _ ha => ⟨O a ha w0, True.intro⟩) (L - st) st z (by omega) True.intro | (unfold tX11_compares_39; rw [if_pos (Int32.le_refl _)]; exact id) | exact ok_maskTail hL hd _ _
  · refine ⟨M0, ?_⟩
    repeat' apply And.intro
    all_goals intros
    all_goals first | exact absurd (he.mpr q) (by assumption) | assumption
theorem ok_adc {S E L st d s1 s2 : Nat} {vt : Int32} {z : Nat → Int32} (h : HR S E L st d s1 s2 vt z) (c : Int64) (F un u1 : Int32) (zX : Nat → Int32) : okX11_carries c (nI L) vt (nI st) (nI d) (nI s1) (nI s2) F (nI S) (nI E) un zX z z u1 0 := by
  obtain ⟨hp, hS, hSe, h2e, hd, h1, h2, hLM, hL, hst, hz, hreg, hmo, hvm⟩ := h
  have hle := hS.le
  have M0 := ok_mayBe hp hSe hSe hSe (nI d) un (nI s2) (fX11_second (nI s1) F)
  by_cases hC : fX11_mayBe (nI d) (nI S) (nI E) un (nI S) (nI s2) (nI S) (fX11_second (nI s1) F) (nI S) = 0
  · unfold okX11_carries
    exact ⟨fun _ _ => M0, fun _ _ h => absurd hC h, fun _ _ h => absurd hC h, fun _ _ h => absurd hC h, fun _ _ h => absurd hC h, fun _ _ h => absurd hC h, fun _ _ h => absurd hC h, fun _ _ h => absurd hC h, fun _ _ h => absurd hC h, fun _ _ h => absurd hC h, fun h => absurd rfl h, fun h => absurd rfl h, fun h => absurd rfl h, fun h => absurd rfl h, fun h => absurd rfl h, fun h => absurd rfl h, fun h => absurd rfl h, fun h => absurd rfl h, fun h => absurd rfl h, fun h => absurd rfl h⟩
  obtain ⟨g1, g2, g3, g4⟩ := (mayBe_iff (un := un) (b := s1) hp hSe hSe hSe hd h2 h1 (Or.inl rfl) (sec2 F s1)).mp hC
  have hdB : okB S := (geo_d hp hSe hd hLM g1).2.2.2.2.1
  have hlB : okB S := okW.B (G3 hp hSe h2 (g3 rfl).1).2.1
  have hD : ∀ a, a < L → d * 128 + a * S + S ≤ 4096 := fun a ha => bd hp hSe hd hLM g1 ha
  have hA : ∀ a, a < L → s2 * 128 + a * S + S ≤ 4096 := fun a ha => bd hp hSe h2 hLM (g3 rfl).1 ha
  have hV : ¬ fX11_isV F = 0 → ∀ a, a < L → s1 * 128 + a * S + S ≤ 4096 := fun w a ha => bd hp hSe h1 hLM (g4 (secV w)).1 ha
  have hb0 : ∀ a, a < L → okX11_bit 0 (nI a) := by
    intro a ha
    have := ok_bit (r := 0) (i := a) (by omega)
    rw [show nI 0 = (0 : Int32) by decide] at this
    exact this
  have O : ∀ a, a < L → ∀ (w0 : Nat → Int32), oX11_carries_80 (nI L) (nI d) (nI s1) (nI s2) F (nI S) un zX z u1 0 (nI a) w0 := fun a ha w0 => ⟨fun _ _ => hb0 a ha, fun _ => ok_get _ hlB (hA a ha) (by omega) (by omega), fun _ => ok_second hS h1 (by omega) _ (fun w => hV w a ha), fun _ _ => ok_put _ hdB (hD a ha) (by omega) (by omega) _, fun _ h => absurd rfl h⟩
  unfold okX11_carries
  have he := goes_eq (vl := L) (st := st) (by omega) (by omega)
  rcases Nat.lt_or_ge st L with q | q
  · rw [cnt_nI (by omega) (by omega), itX11_carries_80 (b9 := L) _ _ _ _ _ _ _ _ _ _ _ rfl (by omega) (L - st) st z (by omega), show st + (L - st) = L by omega]
    exact ⟨fun _ _ => M0, fun _ _ _ _ => ktX11_carries_80 (b9 := L) _ _ _ _ _ _ _ _ _ _ _ rfl (by omega) (fun _ _ => True) (fun a w0 _ ha => ⟨O a ha w0, True.intro⟩) (L - st) st z (by omega) True.intro, fun _ _ _ _ => by unfold tX11_carries_80; rw [if_pos (Int32.le_refl _)]; exact id, fun _ _ _ _ _ _ => ok_tailM _ hdB (geo_d hp hSe hd hLM g1).2.1 hreg (geo_d hp hSe hd hLM g1).1 (by omega) _ _, fun _ _ _ _ _ h => absurd rfl h, fun _ _ _ _ h => absurd (Int32.le_refl _) h, fun _ _ _ _ h => absurd (Int32.le_refl _) h, fun _ _ _ _ h => absurd (Int32.le_refl _) h, fun _ _ _ _ h => absurd (Int32.le_refl _) h, fun _ _ _ _ h => absurd (Int32.le_refl _) h, fun h => absurd rfl h, fun h => absurd rfl h, fun h => absurd rfl h, fun h => absurd rfl h, fun h => absurd rfl h, fun h => absurd rfl h, fun h => absurd rfl h, fun h => absurd rfl h, fun h => absurd rfl h, fun h => absurd rfl h⟩
  · exact ⟨fun _ _ => M0, fun _ _ _ h => absurd (he.mpr q) h, fun _ _ _ h => absurd (he.mpr q) h, fun _ _ _ h => absurd (he.mpr q) h, fun _ _ _ h => absurd (he.mpr q) h, fun _ _ _ h => absurd (he.mpr q) h, fun _ _ _ h => absurd (he.mpr q) h, fun _ _ _ h => absurd (he.mpr q) h, fun _ _ _ h => absurd (he.mpr q) h, fun _ _ _ h => absurd (he.mpr q) h, fun h => absurd rfl h, fun h => absurd rfl h, fun h => absurd rfl h, fun h => absurd rfl h, fun h => absurd rfl h, fun h => absurd rfl h, fun h => absurd rfl h, fun h => absurd rfl h, fun h => absurd rfl h, fun h => absurd rfl h⟩
theorem ok_madc {S E L st d s1 s2 : Nat} {vt : Int32} {z : Nat → Int32} (h : HR S E L st d s1 s2 vt z) (c : Int64) (F un u1 : Int32) (zX : Nat → Int32) : okX11_carries c (nI L) vt (nI st) (nI d) (nI s1) (nI s2) F (nI S) (nI E) un zX z z u1 1 := by
  obtain ⟨hp, hS, hSe, h2e, hd, h1, h2, hLM, hL, hst, hz, hreg, hmo, hvm⟩ := h
  have hle := hS.le
  have n1 : ¬ (1 : Int32) = 0 := by decide
  have M0 := ok_mayBeMask hp hSe (nI d) (nI s2) (fX11_second (nI s1) F)
  by_cases hC : fX11_mayBeMask (nI d) (nI S) (nI E) (nI s2) (nI S) (fX11_second (nI s1) F) (nI S) = 0
  · unfold okX11_carries
    exact ⟨fun h => absurd h n1, fun h => absurd h n1, fun h => absurd h n1, fun h => absurd h n1, fun h => absurd h n1, fun h => absurd h n1, fun h => absurd h n1, fun h => absurd h n1, fun h => absurd h n1, fun h => absurd h n1, fun _ => M0, fun _ h => absurd hC h, fun _ h => absurd hC h, fun _ h => absurd hC h, fun _ h => absurd hC h, fun _ h => absurd hC h, fun _ h => absurd hC h, fun _ h => absurd hC h, fun _ h => absurd hC h, fun _ h => absurd hC h⟩
  have qk := (cond_M (F := F) (d := d) (im := 0) hp hSe h1 h2 (k := 2) (Or.inl rfl)).mpr hC
  have l2 : legalG S E S s2 = true := by have := (qk.2.2.1 (e_ne1 hSe).2).1; rw [(gn_e hSe).2.2] at this; exact this
  have hlB := hS
  have hA : ∀ a, a < L → s2 * 128 + a * S + S ≤ 4096 := fun a ha => bd hp hSe h2 hLM l2 ha
  have hV : ¬ fX11_isV F = 0 → ∀ a, a < L → s1 * 128 + a * S + S ≤ 4096 := by
    intro w a ha
    have hr : ¬ pX4_cover_31_S2 F (nI S) = 0 := by rw [hr_eq (eE1 hSe) (e_ne1 hSe).2]; exact w
    have := (qk.2.2.2 hr).1
    rw [(gn_e hSe).2.2] at this
    exact bd hp hSe h1 hLM this ha
  have hb0 : ∀ a, a < L → okX11_bit 0 (nI a) := by
    intro a ha
    have := ok_bit (r := 0) (i := a) (by omega)
    rw [show nI 0 = (0 : Int32) by decide] at this
    exact this
  have O : ∀ a, a < L → ∀ (w0 : Nat → Int32), oX11_carries_80 (nI L) (nI d) (nI s1) (nI s2) F (nI S) un zX z u1 1 (nI a) w0 := fun a ha w0 => ⟨fun _ _ => hb0 a ha, fun _ => ok_get _ hlB (hA a ha) (by omega) (by omega), fun _ => ok_second hS h1 (by omega) _ (fun w => hV w a ha), fun _ h => absurd h n1, fun _ _ => ok_putBit (by omega)⟩
  unfold okX11_carries
  have he := goes_eq (vl := L) (st := st) (by omega) (by omega)
  rcases Nat.lt_or_ge st L with q | q
  · rw [cnt_nI (by omega) (by omega), itX11_carries_80 (b9 := L) _ _ _ _ _ _ _ _ _ _ _ rfl (by omega) (L - st) st z (by omega), show st + (L - st) = L by omega]
    exact ⟨fun h => absurd h n1, fun h => absurd h n1, fun h => absurd h n1, fun h => absurd h n1, fun h => absurd h n1, fun h => absurd h n1, fun h => absurd h n1, fun h => absurd h n1, fun h => absurd h n1, fun h => absurd h n1, fun _ => M0, fun _ _ _ => ktX11_carries_80 (b9 := L) _ _ _ _ _ _ _ _ _ _ _ rfl (by omega) (fun _ _ => True) (fun a w0 _ ha => ⟨O a ha w0, True.intro⟩) (L - st) st z (by omega) True.intro, fun _ _ _ => by unfold tX11_carries_80; rw [if_pos (Int32.le_refl _)]; exact id, fun _ _ _ _ h => absurd h n1, fun _ _ _ _ _ => ok_maskTail hL hd _ _, fun _ _ _ h => absurd (Int32.le_refl _) h, fun _ _ _ h => absurd (Int32.le_refl _) h, fun _ _ _ h => absurd (Int32.le_refl _) h, fun _ _ _ h => absurd (Int32.le_refl _) h, fun _ _ _ h => absurd (Int32.le_refl _) h⟩
  · exact ⟨fun h => absurd h n1, fun h => absurd h n1, fun h => absurd h n1, fun h => absurd h n1, fun h => absurd h n1, fun h => absurd h n1, fun h => absurd h n1, fun h => absurd h n1, fun h => absurd h n1, fun h => absurd h n1, fun _ => M0, fun _ _ h => absurd (he.mpr q) h, fun _ _ h => absurd (he.mpr q) h, fun _ _ h => absurd (he.mpr q) h, fun _ _ h => absurd (he.mpr q) h, fun _ _ h => absurd (he.mpr q) h, fun _ _ h => absurd (he.mpr q) h, fun _ _ h => absurd (he.mpr q) h, fun _ _ h => absurd (he.mpr q) h, fun _ _ h => absurd (he.mpr q) h⟩
theorem ok_extends {S E L st d s1 s2 : Nat} {vt : Int32} {z : Nat → Int32} (h : HR S E L st d s1 s2 vt z) (c : Int64) (un : Int32) : okX11_extends1 c (nI L) vt (nI st) (nI d) (nI s1) (nI s2) (nI S) (nI E) un z z := by
  obtain ⟨hp, hS, hSe, h2e, hd, h1, h2, hLM, hL, hst, hz, hreg, hmo, hvm⟩ := h
  have hle := hS.le
  by_cases hby : pX11_extends1_43_S1 (nI s1) = 0
  · unfold okX11_extends1
    repeat' apply And.intro
    all_goals intros
    all_goals first | exact absurd hby (by assumption)
  have hs1 : s1 = 4 ∨ s1 = 5 ∨ s1 = 6 ∨ s1 = 7 := by
    have : ∀ s, s < 32 → ¬ pX11_extends1_43_S1 (nI s) = 0 → s = 4 ∨ s = 5 ∨ s = 6 ∨ s = 7 := by decide +kernel
    exact this s1 h1 hby
  obtain ⟨lw, hlw, hdv⟩ : ∃ lw, lw ∈ eews ∧ nI S / pX11_extends1_43_S1 (nI s1) = nI lw := by
    have : ∀ s ∈ [4, 5, 6, 7], ∀ S ∈ [8, 16, 32], (if s < 6 then S / 4 else S / 2) ∈ eews ∧ nI S / pX11_extends1_43_S1 (nI s) = nI (if s < 6 then S / 4 else S / 2) := by decide +kernel
    exact ⟨_, this s1 (by rcases hs1 with e | e | e | e <;> rw [e] <;> decide) S hS.mem⟩
  have M0 := ok_mayBe hp hSe hlw hSe (nI d) un (nI s2) (-1)
  by_cases hC : fX11_mayBe (nI d) (nI S) (nI E) un (nI S) (nI s2) (nI lw) (-1) (nI S) = 0
  · unfold okX11_extends1
    rw [hdv]
    repeat' apply And.intro
    all_goals intros
    all_goals first | exact M0 | exact absurd hC (by assumption) | assumption
  obtain ⟨g1, g2, g3, g4⟩ := (mayBe_iff (un := un) (b := s1) hp hSe hlw hSe hd h2 h1 (Or.inl rfl) (Or.inr rfl)).mp hC
  have hdB : okB S := (geo_d hp hSe hd hLM g1).2.2.2.2.1
  have hlB : okB lw := okW.B (G3 hp hlw h2 (g3 rfl).1).2.1
  have hD : ∀ a, a < L → d * 128 + a * S + S ≤ 4096 := fun a ha => bd hp hSe hd hLM g1 ha
  have hA : ∀ a, a < L → s2 * 128 + a * lw + lw ≤ 4096 := fun a ha => bd hp hlw h2 hLM (g3 rfl).1 ha
  have O : ∀ a, a < L → ∀ (w0 : (Nat → Int32)), oX11_extends1_90 c (nI L) vt (nI d) (nI s1) (nI s2) (nI S) un z (nI a) w0 := by
    intro a ha w0
    unfold oX11_extends1_90
    rw [hdv]
    repeat' apply And.intro
    all_goals intros
    all_goals first | exact ok_isActive (by omega) _ | exact ok_masked _ hdB (hD a ha) _ _ | exact ok_get _ hlB (hA a ha) (by omega) (by omega) | exact ok_get _ hdB (hD a ha) (by omega) (by omega) | exact ok_put _ hdB (hD a ha) (by omega) (by omega) _ | exact hby
  unfold okX11_extends1
  rw [hdv]
  have he := goes_eq (vl := L) (st := st) (by omega) (by omega)
  rcases Nat.lt_or_ge st L with q | q
  · rw [cnt_nI (by omega) (by omega), itX11_extends1_90 (b9 := L) _ _ _ _ _ _ _ _ _ rfl (by omega) (L - st) st z (by omega), show st + (L - st) = L by omega]
    repeat' apply And.intro
    all_goals intros
    all_goals first | exact absurd (Int32.le_refl (nI L)) (by assumption) | exact ktX11_extends1_90 (b9 := L) _ _ _ _ _ _ _ _ _ rfl (by omega) (fun _ _ => True) (fun a w0 _ ha => ⟨O a ha w0, True.intro⟩) (L - st) st z (by omega) True.intro | (unfold tX11_extends1_90; rw [if_pos (Int32.le_refl _)]; exact id) | exact ok_tailM _ hdB (geo_d hp hSe hd hLM g1).2.1 hreg (geo_d hp hSe hd hLM g1).1 (by omega) _ _ | exact M0 | exact hby
  · repeat' apply And.intro
    all_goals intros
    all_goals first | exact absurd (he.mpr q) (by assumption) | exact M0 | exact hby
theorem ok_logic {S E L st d s1 s2 : Nat} {vt : Int32} {z : Nat → Int32} (h : HR S E L st d s1 s2 vt z) (c : Int64) (un p : Int32) : okX11_logic c (nI L) (nI st) (nI d) (nI s1) (nI s2) un z z p := by
  obtain ⟨hp, hS, hSe, h2e, hd, h1, h2, hLM, hL, hst, hz, hreg, hmo, hvm⟩ := h
  have hle := hS.le
  have O : ∀ a, a < L → ∀ (w0 : (Nat → Int32)), oX11_logic_23 (nI L) (nI d) (nI s1) (nI s2) (nI a) w0 := by
    intro a ha w0
    unfold oX11_logic_23
    repeat' apply And.intro
    all_goals intros
    all_goals first | exact ok_putBit (by omega) | exact ok_openBit (by omega) _ | exact ok_bit (by omega) | exact ok_bit (r := 0) (by omega)
  unfold okX11_logic
  have he := goes_eq (vl := L) (st := st) (by omega) (by omega)
  rcases Nat.lt_or_ge st L with q | q
  · rw [cnt_nI (by omega) (by omega), itX11_logic_23 (b9 := L) _ _ _ _ _ _ rfl (by omega) (L - st) st z (by omega), show st + (L - st) = L by omega]
    repeat' apply And.intro
    all_goals intros
    all_goals first | exact absurd (Int32.le_refl (nI L)) (by assumption) | exact ktX11_logic_23 (b9 := L) _ _ _ _ _ _ rfl (by omega) (fun _ _ => True) (fun a w0 _ ha => ⟨O a ha w0, True.intro⟩) (L - st) st z (by omega) True.intro | (unfold tX11_logic_23; rw [if_pos (Int32.le_refl _)]; exact id) | exact ok_maskTail hL hd _ _
  · repeat' apply And.intro
    all_goals intros
    all_goals first | exact absurd (he.mpr q) (by assumption) | assumption
theorem ok_numbers {S E L st d s1 s2 : Nat} {vt : Int32} {z : Nat → Int32} (h : HR S E L st d s1 s2 vt z) (c : Int64) (un : Int32) : okX11_numbers c (nI L) vt (nI st) (nI d) (nI s2) (nI S) (nI E) un z z := by
  obtain ⟨hp, hS, hSe, h2e, hd, h1, h2, hLM, hL, hst, hz, hreg, hmo, hvm⟩ := h
  have hle := hS.le
  have M0 := ok_isG hp hSe
  by_cases hC : fX11_isGroup (nI S) (nI E) (nI d) (nI S) = 0
  · unfold okX11_numbers
    repeat' apply And.intro
    all_goals intros
    all_goals first | exact M0 | exact absurd hC (by assumption)
  have g1 := (legal_iff hp hSe hd).mp hC
  have hdB := hS
  have hlB := hS
  have hD : ∀ a, a < L → d * 128 + a * S + S ≤ 4096 := fun a ha => bd hp hSe hd hLM g1 ha
  have O : ∀ a, a < L → ∀ (w0 : (Nat → Int32)), oX11_numbers_49 c (nI L) vt (nI d) (nI S) un z (nI a) w0 := by
    intro a ha w0
    unfold oX11_numbers_49
    repeat' apply And.intro
    all_goals intros
    all_goals first | exact ok_isActive (by omega) _ | exact ok_masked _ hdB (hD a ha) _ _ | exact ok_put _ hdB (hD a ha) (by omega) (by omega) _
  unfold okX11_numbers
  have he := goes_eq (vl := L) (st := st) (by omega) (by omega)
  rcases Nat.lt_or_ge st L with q | q
  · rw [cnt_nI (by omega) (by omega), itX11_numbers_49 (b9 := L) _ _ _ _ _ _ _ rfl (by omega) (L - st) st z (by omega), show st + (L - st) = L by omega]
    repeat' apply And.intro
    all_goals intros
    all_goals first | exact absurd (Int32.le_refl (nI L)) (by assumption) | exact ktX11_numbers_49 (b9 := L) _ _ _ _ _ _ _ rfl (by omega) (fun _ _ => True) (fun a w0 _ ha => ⟨O a ha w0, True.intro⟩) (L - st) st z (by omega) True.intro | (unfold tX11_numbers_49; rw [if_pos (Int32.le_refl _)]; exact id) | exact ok_tailM _ hdB (geo_d hp hSe hd hLM g1).2.1 hreg (geo_d hp hSe hd hLM g1).1 (by omega) _ _ | exact M0
  · repeat' apply And.intro
    all_goals intros
    all_goals first | exact absurd (he.mpr q) (by assumption) | exact M0
theorem ok_counts {S E L st d s1 s2 : Nat} {vt : Int32} {z : Nat → Int32} (h : HR S E L st d s1 s2 vt z) (c : Int64) (un : Int32) : okX11_counts c (nI L) vt (nI st) (nI d) (nI s2) (nI S) (nI E) un z z := by
  obtain ⟨hp, hS, hSe, h2e, hd, h1, h2, hLM, hL, hst, hz, hreg, hmo, hvm⟩ := h
  have hle := hS.le
  have M0 := ok_isG hp hSe
  by_cases hC : fX11_isGroup (nI S) (nI E) (nI d) (nI S) = 0
  · unfold okX11_counts
    repeat' apply And.intro
    all_goals intros
    all_goals first | exact M0 | exact absurd hC (by assumption)
  have g1 := (legal_iff hp hSe hd).mp hC
  have hdB := hS
  have hlB := hS
  have hD : ∀ a, a < L → d * 128 + a * S + S ≤ 4096 := fun a ha => bd hp hSe hd hLM g1 ha
  have O : ∀ a, a < L → ∀ (w0 : Int32) (w1 : (Nat → Int32)), oX11_counts_61 c (nI L) vt (nI d) (nI s2) (nI S) un z (nI a) w0 w1 := by
    intro a ha w0 w1
    unfold oX11_counts_61
    repeat' apply And.intro
    all_goals intros
    all_goals first | exact ok_isActive (by omega) _ | exact ok_masked _ hdB (hD a ha) _ _ | exact ok_put _ hdB (hD a ha) (by omega) (by omega) _ | exact ok_bit (by omega)
  unfold okX11_counts
  have he := goes_eq (vl := L) (st := st) (by omega) (by omega)
  rcases Nat.lt_or_ge st L with q | q
  · rw [← nI_0, cnt_nI (by omega) (by omega), itX11_counts_61 (b9 := L) _ _ _ _ _ _ _ _ rfl (by omega) (L - 0) 0 _ z (by omega), show 0 + (L - 0) = L by omega]
    repeat' apply And.intro
    all_goals intros
    all_goals first | exact absurd (Int32.le_refl (nI L)) (by assumption) | exact ktX11_counts_61 (b9 := L) _ _ _ _ _ _ _ _ rfl (by omega) (fun _ _ => True) (fun a w0 w1 _ ha => ⟨O a ha w0 w1, True.intro⟩) (L - 0) 0 _ z (by omega) True.intro | (unfold tX11_counts_61; rw [if_pos (Int32.le_refl _)]; exact id) | exact ok_tailM _ hdB (geo_d hp hSe hd hLM g1).2.1 hreg (geo_d hp hSe hd hLM g1).1 (by omega) _ _ | exact M0
  · repeat' apply And.intro
    all_goals intros
    all_goals first | exact absurd (he.mpr q) (by assumption) | exact M0
theorem ok_firsts {S E L st d s1 s2 : Nat} {vt : Int32} {z : Nat → Int32} (h : HR S E L st d s1 s2 vt z) (c : Int64) (un : Int32) : okX11_firsts c (nI L) vt (nI st) (nI d) (nI s1) (nI s2) un z z := by
  obtain ⟨hp, hS, hSe, h2e, hd, h1, h2, hLM, hL, hst, hz, hreg, hmo, hvm⟩ := h
  have hle := hS.le
  have O : ∀ a, a < L → ∀ (w0 : Int32) (w1 : (Nat → Int32)), oX11_firsts_44 c (nI L) vt (nI d) (nI s2) un z (nI a) w0 w1 := by
    intro a ha w0 w1
    unfold oX11_firsts_44
    repeat' apply And.intro
    all_goals intros
    all_goals first | exact ok_isActive (by omega) _ | exact ok_putBit (by omega) | exact ok_openBit (by omega) _ | exact ok_bit (by omega) | exact ok_bit (r := 0) (by omega)
  unfold okX11_firsts
  have he := goes_eq (vl := L) (st := st) (by omega) (by omega)
  rcases Nat.lt_or_ge st L with q | q
  · rw [← nI_0, cnt_nI (by omega) (by omega), itX11_firsts_44 (b9 := L) _ _ _ _ _ _ _ _ rfl (by omega) (L - 0) 0 _ z (by omega), show 0 + (L - 0) = L by omega]
    repeat' apply And.intro
    all_goals intros
    all_goals first | exact absurd (Int32.le_refl (nI L)) (by assumption) | exact ktX11_firsts_44 (b9 := L) _ _ _ _ _ _ _ _ rfl (by omega) (fun _ _ => True) (fun a w0 w1 _ ha => ⟨O a ha w0 w1, True.intro⟩) (L - 0) 0 _ z (by omega) True.intro | (unfold tX11_firsts_44; rw [if_pos (Int32.le_refl _)]; exact id) | exact ok_maskTail hL hd _ _
  · repeat' apply And.intro
    all_goals intros
    all_goals first | exact absurd (he.mpr q) (by assumption) | assumption
theorem ok_slidesUp {S E L st d s1 s2 : Nat} {vt : Int32} {z : Nat → Int32} (h : HR S E L st d s1 s2 vt z) (c : Int64) (F un : Int32) (zX : Nat → Int32) : okX11_slidesUp c (nI L) vt (nI st) (nI d) (nI s1) (nI s2) F (nI S) (nI E) un zX z z := by
  obtain ⟨hp, hS, hSe, h2e, hd, h1, h2, hLM, hL, hst, hz, hreg, hmo, hvm⟩ := h
  have hle := hS.le
  have M0 := ok_isG hp hSe
  by_cases hC : fX11_isGroup (nI S) (nI E) (nI d) (nI S) = 0
  · unfold okX11_slidesUp
    refine ⟨M0, ?_⟩
    repeat' apply And.intro
    all_goals intro h
    all_goals exact absurd hC h
  have g1 := (legal_iff hp hSe hd).mp hC
  have hdB := hS
  have hlB := hS
  have hD : ∀ a, a < L → d * 128 + a * S + S ≤ 4096 := fun a ha => bd hp hSe hd hLM g1 ha
  by_cases hC2 : fX11_isGroup (nI S) (nI E) (nI s2) (nI S) = 0
  · unfold okX11_slidesUp
    refine ⟨M0, ?_⟩
    repeat' apply And.intro
    all_goals intros
    all_goals first | exact M0 | exact absurd hC2 (by assumption)
  have g3 := (legal_iff hp hSe h2).mp hC2
  have hK : ∀ a, a < L → pX11_slidesUp_96_S1 (nI s1) F zX ≤ Int32.toInt64 (nI a) → okX11_get z (nI s2) (nI S) (Int64.toInt32 (Int32.toInt64 (nI a) - pX11_slidesUp_96_S1 (nI s1) F zX)) := by
    intro a ha w
    obtain ⟨b, hb, eb⟩ : ∃ b, b < 2 ^ 32 ∧ pX11_slidesUp_96_S1 (nI s1) F zX = lN b := by
      unfold pX11_slidesUp_96_S1
      by_cases q : fX11_isX F = 0
      · rw [if_pos q]; exact ⟨s1, by omega, nI_l (by omega)⟩
      · rw [if_neg q]; exact andw _
    rw [eb, nI_l (by omega)] at w
    have hle : b ≤ a := (pk_lLE (by omega) (by omega)).mp w
    rw [eb, nI_l (by omega), lN_sub hle, lN_i]
    exact ok_get z hS (bd hp hSe h2 hLM g3 (show a - b < L by omega)) (by omega) (by omega)
  have O : ∀ a, a < L → ∀ (w0 : (Nat → Int32)), oX11_slidesUp_102 c (nI L) vt (nI d) (nI s1) (nI s2) F (nI S) un zX z (nI a) w0 := by
    intro a ha w0
    unfold oX11_slidesUp_102
    repeat' apply And.intro
    all_goals intros
    all_goals first | exact ok_isActive (by omega) _ | exact ok_masked _ hdB (hD a ha) _ _ | exact ok_put _ hdB (hD a ha) (by omega) (by omega) _ | exact hK a ha (by assumption)
  unfold okX11_slidesUp
  have he := goes_eq (vl := L) (st := st) (by omega) (by omega)
  rcases Nat.lt_or_ge st L with q | q
  · rw [cnt_nI (by omega) (by omega), itX11_slidesUp_102 (b9 := L) _ _ _ _ _ _ _ _ _ _ _ rfl (by omega) (L - st) st z (by omega), show st + (L - st) = L by omega]
    refine ⟨M0, ?_⟩
    repeat' apply And.intro
    all_goals intros
    all_goals first | exact absurd (Int32.le_refl (nI L)) (by assumption) | exact ktX11_slidesUp_102 (b9 := L) _ _ _ _ _ _ _ _ _ _ _ rfl (by omega) (fun _ _ => True) (fun a w0 _ ha => ⟨O a ha w0, True.intro⟩) (L - st) st z (by omega) True.intro | (unfold tX11_slidesUp_102; rw [if_pos (Int32.le_refl _)]; exact id) | exact ok_tailM _ hdB (geo_d hp hSe hd hLM g1).2.1 hreg (geo_d hp hSe hd hLM g1).1 (by omega) _ _ | exact M0 | exact vp32 h1
  · refine ⟨M0, ?_⟩
    repeat' apply And.intro
    all_goals intros
    all_goals first | exact absurd (he.mpr q) (by assumption) | exact M0 | exact vp32 h1
theorem ok_slideUp1 {S E L st d s1 s2 : Nat} {vt : Int32} {z : Nat → Int32} (h : HR S E L st d s1 s2 vt z) (c : Int64) (un : Int32) (zX : Nat → Int32) : okX11_slidesOne c (nI L) vt (nI st) (nI d) (nI s1) (nI s2) (nI S) (nI E) un zX z z 1 := by
  obtain ⟨hp, hS, hSe, h2e, hd, h1, h2, hLM, hL, hst, hz, hreg, hmo, hvm⟩ := h
  have hle := hS.le
  have M0 := ok_mayBe hp hSe hSe hSe (nI d) un (nI s2) (-1)
  by_cases hC : fX11_mayBe (nI d) (nI S) (nI E) un (nI S) (nI s2) (nI S) (-1) (nI S) = 0
  · unfold okX11_slidesOne
    refine ⟨M0, ?_⟩
    repeat' apply And.intro
    all_goals intro h
    all_goals exact absurd hC h
  obtain ⟨g1, g2, g3, g4⟩ := (mayBe_iff (un := un) (b := s1) hp hSe hSe hSe hd h2 h1 (Or.inl rfl) (Or.inr rfl)).mp hC
  have hdB : okB S := (geo_d hp hSe hd hLM g1).2.2.2.2.1
  have hlB : okB S := okW.B (G3 hp hSe h2 (g3 rfl).1).2.1
  have hD : ∀ a, a < L → d * 128 + a * S + S ≤ 4096 := fun a ha => bd hp hSe hd hLM g1 ha
  have hA : ∀ a, a < L → s2 * 128 + a * S + S ≤ 4096 := fun a ha => bd hp hSe h2 hLM (g3 rfl).1 ha
  have hK : ∀ a, a < L → pX11_slidesOne_98_S1 (nI L) 1 (nI a) = 0 → okX11_get z (nI s2) (nI S) (pX11_slidesOne_156_S8 1 (nI a)) := by
    intro a ha w
    unfold pX11_slidesOne_98_S1 at w
    unfold pX11_slidesOne_156_S8
    rw [if_neg (show ¬ (1 : Int32) = 0 by decide)] at w ⊢
    have h0 : ¬ a = 0 := fun e => by rw [e, if_pos (by decide)] at w; exact absurd w (by decide)
    rw [show nI a - 1 = nI (a - 1) by rw [show (1 : Int32) = nI 1 by decide]; exact pk_sub (by omega)]
    exact ok_get z hS (hA (a - 1) (by omega)) (by omega) (by omega)
  have O : ∀ a, a < L → ∀ (w0 : (Nat → Int32)), oX11_slidesOne_59 c (nI L) vt (nI d) (nI s1) (nI s2) (nI S) un zX z 1 (nI a) w0 := by
    intro a ha w0
    unfold oX11_slidesOne_59
    repeat' apply And.intro
    all_goals intros
    all_goals first | exact ok_isActive (by omega) _ | exact ok_masked _ hdB (hD a ha) _ _ | exact ok_put _ hdB (hD a ha) (by omega) (by omega) _ | exact hK a ha (by assumption) | exact vp32 h1
  unfold okX11_slidesOne
  have he := goes_eq (vl := L) (st := st) (by omega) (by omega)
  rcases Nat.lt_or_ge st L with q | q
  · rw [cnt_nI (by omega) (by omega), itX11_slidesOne_59 (b9 := L) _ _ _ _ _ _ _ _ _ _ _ rfl (by omega) (L - st) st z (by omega), show st + (L - st) = L by omega]
    refine ⟨M0, ?_⟩
    repeat' apply And.intro
    all_goals intros
    all_goals first | exact absurd (Int32.le_refl (nI L)) (by assumption) | exact ktX11_slidesOne_59 (b9 := L) _ _ _ _ _ _ _ _ _ _ _ rfl (by omega) (fun _ _ => True) (fun a w0 _ ha => ⟨O a ha w0, True.intro⟩) (L - st) st z (by omega) True.intro | (unfold tX11_slidesOne_59; rw [if_pos (Int32.le_refl _)]; exact id) | exact ok_tailM _ hdB (geo_d hp hSe hd hLM g1).2.1 hreg (geo_d hp hSe hd hLM g1).1 (by omega) _ _
  · refine ⟨M0, ?_⟩
    repeat' apply And.intro
    all_goals intros
    all_goals first | exact absurd (he.mpr q) (by assumption) | assumption
theorem ok_slideDown1 {S E L st d s1 s2 : Nat} {vt : Int32} {z : Nat → Int32} (h : HR S E L st d s1 s2 vt z) (c : Int64) (un : Int32) (zX : Nat → Int32) : okX11_slidesOne c (nI L) vt (nI st) (nI d) (nI s1) (nI s2) (nI S) (nI E) un zX z z 0 := by
  obtain ⟨hp, hS, hSe, h2e, hd, h1, h2, hLM, hL, hst, hz, hreg, hmo, hvm⟩ := h
  have hle := hS.le
  have M0 := ok_mayBe hp hSe hSe hSe (nI d) un (nI s2) (-1)
  by_cases hC : fX11_mayBe (nI d) (nI S) (nI E) un (nI S) (nI s2) (nI S) (-1) (nI S) = 0
  · unfold okX11_slidesOne
    refine ⟨M0, ?_⟩
    repeat' apply And.intro
    all_goals intro h
    all_goals exact absurd hC h
  obtain ⟨g1, g2, g3, g4⟩ := (mayBe_iff (un := un) (b := s1) hp hSe hSe hSe hd h2 h1 (Or.inl rfl) (Or.inr rfl)).mp hC
  have hdB : okB S := (geo_d hp hSe hd hLM g1).2.2.2.2.1
  have hlB : okB S := okW.B (G3 hp hSe h2 (g3 rfl).1).2.1
  have hD : ∀ a, a < L → d * 128 + a * S + S ≤ 4096 := fun a ha => bd hp hSe hd hLM g1 ha
  have hA : ∀ a, a < L → s2 * 128 + a * S + S ≤ 4096 := fun a ha => bd hp hSe h2 hLM (g3 rfl).1 ha
  have hK : ∀ a, a < L → pX11_slidesOne_98_S1 (nI L) 0 (nI a) = 0 → okX11_get z (nI s2) (nI S) (pX11_slidesOne_156_S8 0 (nI a)) := by
    intro a ha w
    unfold pX11_slidesOne_98_S1 at w
    unfold pX11_slidesOne_156_S8
    rw [if_pos rfl] at w ⊢
    have h0 : ¬ a = L - 1 := fun e => by
      rw [if_pos (by rw [e, show (1 : Int32) = nI 1 by decide]; exact (pk_sub (by omega)).symm)] at w
      exact absurd w (by decide)
    rw [show (1 : Int32) = nI 1 by decide, nI_add]
    exact ok_get z hS (hA (a + 1) (by omega)) (by omega) (by omega)
  have O : ∀ a, a < L → ∀ (w0 : (Nat → Int32)), oX11_slidesOne_59 c (nI L) vt (nI d) (nI s1) (nI s2) (nI S) un zX z 0 (nI a) w0 := by
    intro a ha w0
    unfold oX11_slidesOne_59
    repeat' apply And.intro
    all_goals intros
    all_goals first | exact ok_isActive (by omega) _ | exact ok_masked _ hdB (hD a ha) _ _ | exact ok_put _ hdB (hD a ha) (by omega) (by omega) _ | exact hK a ha (by assumption) | exact vp32 h1
  unfold okX11_slidesOne
  have he := goes_eq (vl := L) (st := st) (by omega) (by omega)
  rcases Nat.lt_or_ge st L with q | q
  · rw [cnt_nI (by omega) (by omega), itX11_slidesOne_59 (b9 := L) _ _ _ _ _ _ _ _ _ _ _ rfl (by omega) (L - st) st z (by omega), show st + (L - st) = L by omega]
    refine ⟨M0, ?_⟩
    repeat' apply And.intro
    all_goals intros
    all_goals first | exact absurd (Int32.le_refl (nI L)) (by assumption) | exact ktX11_slidesOne_59 (b9 := L) _ _ _ _ _ _ _ _ _ _ _ rfl (by omega) (fun _ _ => True) (fun a w0 _ ha => ⟨O a ha w0, True.intro⟩) (L - st) st z (by omega) True.intro | (unfold tX11_slidesOne_59; rw [if_pos (Int32.le_refl _)]; exact id) | exact ok_tailM _ hdB (geo_d hp hSe hd hLM g1).2.1 hreg (geo_d hp hSe hd hLM g1).1 (by omega) _ _
  · refine ⟨M0, ?_⟩
    repeat' apply And.intro
    all_goals intros
    all_goals first | exact absurd (he.mpr q) (by assumption) | assumption
