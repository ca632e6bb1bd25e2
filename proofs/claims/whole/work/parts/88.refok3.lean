/-! ===== the reference's obligations, the rest ===== -/
theorem ok_gathers {S E L st d s1 s2 : Nat} {vt : Int32} {z : Nat → Int32} (h : HR S E L st d s1 s2 vt z) {B : Nat} (hB : B ∈ eews) (c : Int64) (F un : Int32) (zX : Nat → Int32) : okX11_gathers c (nI L) vt (nI st) (nI d) (nI s1) (nI s2) F (nI S) (nI E) un zX z z (nI B) := by
  obtain ⟨hp, hS, hSe, h2e, hd, h1, h2, hLM, hL, hst, hz, hreg, hmo, hvm⟩ := h
  have hle := hS.le
  have M0 := ok_isG hp hSe
  have MB := ok_isG hp hB
  have ME : okX11_emul (nI S) := (g_0 hp hSe).1
  have hM128 : 16 * E / S ≤ 128 := by
    have : ∀ p ∈ PE, 16 * p.2 / p.1 ≤ 128 := by decide
    exact this (S, E) hp
  have O : ¬ fX11_isGroup (nI S) (nI E) (nI d) (nI S) = 0 → ¬ fX11_isGroup (nI S) (nI E) (nI s2) (nI S) = 0 → jX11_gathers_95 (nI d) (nI s1) F (nI S) (nI E) (nI B) → ∀ a, a < L → ∀ (w0 : Nat → Int32), oX11_gathers_109 c (nI L) vt (nI d) (nI s1) (nI s2) F (nI S) un zX z (nI B) (nI a) w0 := by
    intro k1 k2 kj a ha w0
    have g1 := (legal_iff hp hSe hd).mp k1
    have g2 := (legal_iff hp hSe h2).mp k2
    have hD : d * 128 + a * S + S ≤ 4096 := bd hp hSe hd hLM g1 ha
    have hlB : ¬ fX11_isV F = 0 → legalG S E B s1 = true := by
      intro w
      unfold jX11_gathers_95 at kj
      rw [if_neg w] at kj
      refine (legal_iff hp hB h1).mp (fun e => ?_)
      rw [if_pos e] at kj; exact kj
    have hg1 : ¬ fX11_isV F = 0 → okX11_get z (nI s1) (nI B) (nI a) := fun w => ok_get z (okW.B (G3 hp hB h1 (hlB w)).2.1) (bd hp hB h1 hLM (hlB w) ha) (by omega) (by omega)
    have hK : ¬ Int32.toInt64 (fX11_vlmax vt) ≤ pX11_gathers_190_S1 (nI s1) F zX z (nI B) (nI a) → okX11_get z (nI s2) (nI S) (Int64.toInt32 (pX11_gathers_190_S1 (nI s1) F zX z (nI B) (nI a))) := by
      intro w
      obtain ⟨b, hb, eb⟩ : ∃ b, b < 2 ^ 32 ∧ pX11_gathers_190_S1 (nI s1) F zX z (nI B) (nI a) = lN b := by
        unfold pX11_gathers_190_S1
        by_cases v : fX11_isV F = 0
        · rw [if_pos v]
          by_cases q : fX11_isX F = 0
          · rw [if_pos q]; exact ⟨s1, by omega, nI_l (by omega)⟩
          · rw [if_neg q]; exact andw _
        · rw [if_neg v]
          have hBB := okW.B (G3 hp hB h1 (hlB v)).2.1
          obtain ⟨b, hb, eb⟩ := low_lN hBB.le.2 (low_get z hz hBB (r := s1) (i := a) (by omega) (by omega))
          exact ⟨b, Nat.lt_of_lt_of_le hb (Nat.pow_le_pow_right (by decide) hBB.le.2), eb⟩
      rw [hvm, eb, nI_l (by omega)] at w
      rw [eb, lN_i]
      have hlt : b < 16 * E / S := Nat.lt_of_not_le (fun v => w ((pk_lLE (by omega) (by omega)).mpr v))
      exact ok_get z hS (bd hp hSe h2 (Nat.le_refl _) g2 hlt) (by omega) (by omega)
    exact ⟨fun _ => ok_isActive (by omega) _, fun _ _ => ok_masked _ hS hD _ _, fun _ _ _ _ => vp32 h1, fun _ _ w => hg1 w, fun _ _ => hmo, fun _ _ w => hK w, fun _ _ => ok_put _ hS hD (by omega) (by omega) _⟩
  have he := goes_eq (vl := L) (st := st) (by omega) (by omega)
  unfold okX11_gathers
  rcases Nat.lt_or_ge st L with q | q
  · rw [cnt_nI (by omega) (by omega), itX11_gathers_109 (b9 := L) _ _ _ _ _ _ _ _ _ _ _ _ rfl (by omega) (L - st) st z (by omega), show st + (L - st) = L by omega]
    exact ⟨M0, fun _ _ => M0, fun _ _ _ _ _ => MB, fun _ _ _ _ _ _ => ME, fun k1 _ k2 _ kj _ => ktX11_gathers_109 (b9 := L) _ _ _ _ _ _ _ _ _ _ _ _ rfl (by omega) (fun _ _ => True) (fun a w0 _ ha => ⟨O k1 k2 kj a ha w0, True.intro⟩) (L - st) st z (by omega) True.intro, fun _ _ _ _ _ _ => by unfold tX11_gathers_109; rw [if_pos (Int32.le_refl _)]; exact id, fun k1 _ _ _ _ _ _ => ok_tailM _ hS (geo_d hp hSe hd hLM ((legal_iff hp hSe hd).mp k1)).2.1 hreg (geo_d hp hSe hd hLM ((legal_iff hp hSe hd).mp k1)).1 (by omega) _ _, fun _ _ _ _ _ _ h => absurd (Int32.le_refl _) h, fun _ _ _ _ _ _ h => absurd (Int32.le_refl _) h, fun _ _ _ _ _ _ h => absurd (Int32.le_refl _) h, fun _ _ _ _ _ _ h => absurd (Int32.le_refl _) h, fun _ _ _ _ _ _ h => absurd (Int32.le_refl _) h, fun _ _ _ _ _ _ h => absurd (Int32.le_refl _) h, fun _ _ _ _ _ _ h => absurd (Int32.le_refl _) h⟩
  · exact ⟨M0, fun _ _ => M0, fun _ _ _ _ _ => MB, fun _ _ _ _ _ _ => ME, fun _ _ _ _ _ h => absurd (he.mpr q) h, fun _ _ _ _ _ h => absurd (he.mpr q) h, fun _ _ _ _ _ h => absurd (he.mpr q) h, fun _ _ _ _ _ h => absurd (he.mpr q) h, fun _ _ _ _ _ h => absurd (he.mpr q) h, fun _ _ _ _ _ h => absurd (he.mpr q) h, fun _ _ _ _ _ h => absurd (he.mpr q) h, fun _ _ _ _ _ h => absurd (he.mpr q) h, fun _ _ _ _ _ h => absurd (he.mpr q) h, fun _ _ _ _ _ h => absurd (he.mpr q) h⟩
theorem comprM_at (len : Nat) (hl : len ≤ 128) (d s1 s2 S : Int32) (z z0 : Nat → Int32) : ∃ p, p ≤ 128 ∧ (LX11_compresses_87 (nI len) d s1 s2 S z (cnt 0 (nI len)) (0, 0, z0)).2.1 = nI p := by
  rw [← nI_0, cnt_nI (by omega) (by omega), itX11_compresses_87 (b9 := len) _ _ _ _ _ _ rfl (by omega) (len - 0) 0 (nI 0) z0 (by omega)]
  have key := itr_rel (fun i (s t : Int32 × (Nat → Int32)) => ∃ p, p ≤ i ∧ s.1 = nI p) (fun k s => ((pX11_compresses_139_L1 s1 z (nI k) s.1), (pX11_compresses_139_zV d s1 s2 S z (nI k) s.1 s.2))) (fun k s => s) (len - 0) 0 (nI 0, z0) (nI 0, z0) (by
    intro i s t _ _ ⟨p, hp, hs⟩
    unfold pX11_compresses_139_L1
    dsimp only
    rw [hs]
    split
    · exact ⟨p, by omega, rfl⟩
    · exact ⟨p + 1, by omega, by rw [show (1 : Int32) = nI 1 by decide, nI_add]⟩) ⟨0, Nat.le_refl 0, rfl⟩
  obtain ⟨p, hp, e⟩ := key
  exact ⟨p, by omega, e⟩
theorem ok_compresses {S E L st d s1 s2 : Nat} {vt : Int32} {z : Nat → Int32} (h : HR S E L st d s1 s2 vt z) (c : Int64) (un : Int32) : okX11_compresses c (nI L) vt (nI st) (nI d) (nI s1) (nI s2) (nI S) (nI E) un z z := by
  obtain ⟨hp, hS, hSe, h2e, hd, h1, h2, hLM, hL, hst, hz, hreg, hmo, hvm⟩ := h
  have hle := hS.le
  have M0 := ok_isG hp hSe
  obtain ⟨p, hpp, ep⟩ := comprM_at L hL (nI d) (nI s1) (nI s2) (nI S) z z
  unfold okX11_compresses
  rw [ep, ← nI_0, cnt_nI (by omega) (by omega), itX11_compresses_87 (b9 := L) _ _ _ _ _ _ rfl (by omega) (L - 0) 0 (nI 0) z (by omega), show 0 + (L - 0) = L by omega]
  exact ⟨fun _ _ => M0, fun _ _ _ => M0, fun _ _ k1 k2 _ _ _ => ktX11_compresses_87 (b9 := L) _ _ _ _ _ _ rfl (by omega) (fun i s => ∃ p, p ≤ i ∧ s.1 = nI p) (fun a w0 w1 hI ha => by
    obtain ⟨p, hp2, e⟩ := hI
    have e : w0 = nI p := e
    subst e
    refine ⟨⟨fun _ => ok_bit (by omega), fun _ _ => ok_get z hS (bd hp hSe h2 hLM ((legal_iff hp hSe h2).mp k2) ha) (by omega) (by omega), fun _ _ => ok_put _ hS (bd hp hSe hd hLM ((legal_iff hp hSe hd).mp k1) (show p < L by omega)) (by omega) (by omega) _⟩, ?_⟩
    unfold pX11_compresses_139_L1
    dsimp only
    split
    · exact ⟨p, by omega, rfl⟩
    · exact ⟨p + 1, by omega, by rw [show (1 : Int32) = nI 1 by decide, nI_add]⟩) (L - 0) 0 (nI 0) z (by omega) ⟨0, Nat.le_refl _, rfl⟩, fun _ _ _ _ _ _ _ => by unfold tX11_compresses_87; rw [if_pos (Int32.le_refl _)]; exact id, fun _ _ k1 _ _ _ _ _ => ok_tailM _ hS (geo_d hp hSe hd hLM ((legal_iff hp hSe hd).mp k1)).2.1 hreg (geo_d hp hSe hd hLM ((legal_iff hp hSe hd).mp k1)).1 (by omega) _ _, fun _ _ _ _ _ _ _ h => absurd (Int32.le_refl _) h, fun _ _ _ _ _ _ _ h => absurd (Int32.le_refl _) h, fun _ _ _ _ _ _ _ h => absurd (Int32.le_refl _) h⟩
theorem ok_wholes {S E L st d s1 s2 : Nat} {vt : Int32} {z : Nat → Int32} (h : HR S E L st d s1 s2 vt z) (un : Int32) : okX11_wholes (nI st) (nI d) (nI s1) (nI s2) (nI S) un z z := by
  obtain ⟨hp, hS, hSe, h2e, hd, h1, h2, hLM, hL, hst, hz, hreg, hmo, hvm⟩ := h
  have hle := hS.le
  have es : nI s1 + 1 = nI (s1 + 1) := by rw [show (1 : Int32) = nI 1 by decide, nI_add]
  have hn0 : ¬ nI s1 + 1 = 0 := by rw [es]; exact nI_ne0 (by omega) (by omega)
  have hb : (nI s1 + 1) * 128 / nI S = nI ((s1 + 1) * 128 / S) := by rw [es, nI128, pk_mul, pk_div (by omega) (by omega) (by omega)]
  have hb2 : (s1 + 1) * 128 / S ≤ (s1 + 1) * 128 := Nat.div_le_self _ _
  have hS0 : ¬ nI S = 0 := nI_ne0 (by omega) (by omega)
  by_cases hn : s1 + 1 ∈ [1, 2, 4, 8]
  case neg =>
    have hj : ¬ jX11_wholes_35 (nI s1) := by
      unfold jX11_wholes_35
      have : ∀ s, s < 32 → ¬ s + 1 ∈ [1, 2, 4, 8] → ¬ nI s + 1 = 1 ∧ ¬ nI s + 1 = 2 ∧ ¬ nI s + 1 = 4 ∧ ¬ nI s + 1 = 8 := by decide +kernel
      obtain ⟨n1, n2, n4, n8⟩ := this s1 h1 hn
      rw [if_neg n1, if_neg n2, if_neg n4, if_neg n8]; exact id
    unfold okX11_wholes
    exact ⟨fun _ h => absurd h hj, fun _ h => absurd h hj, fun _ h => absurd h hj, fun _ h => absurd h hj, fun _ h => absurd h hj, fun _ h => absurd h hj, fun _ h => absurd h hj⟩
  obtain ⟨_, g2, _, g4⟩ := wh_1 (s1 + 1) hn d hd S hS.mem
  obtain ⟨_, k2, _, k4⟩ := wh_1 (s1 + 1) hn s2 h2 S hS.mem
  have bnd : ∀ r, r + (s1 + 1) ≤ 32 → ∀ a, a < (s1 + 1) * 128 / S → r * 128 + a * S + S ≤ 4096 := by
    intro r hr a ha
    have := cap_in hS.E (g := s1 + 1) (i := a) ha
    omega
  unfold okX11_wholes
  rw [es]
  have hb : (nI (s1 + 1)) * 128 / nI S = nI ((s1 + 1) * 128 / S) := by rw [nI128, pk_mul, pk_div (by omega) (by omega) (by omega)]
  have hb' : (nI s1 + 1) * 128 / nI S = nI ((s1 + 1) * 128 / S) := by rw [es]; exact hb
  rw [hb, cnt_nI (by omega) (by omega)]
  have hn0 : ¬ nI (s1 + 1) = 0 := nI_ne0 (by omega) (by omega)
  rcases Nat.lt_or_ge st ((s1 + 1) * 128 / S) with q | q
  · rw [itX11_wholes_60 (b9 := (s1 + 1) * 128 / S) _ _ _ _ _ hb' (by omega) ((s1 + 1) * 128 / S - st) st z (by omega), show st + ((s1 + 1) * 128 / S - st) = (s1 + 1) * 128 / S by omega]
    exact ⟨fun _ _ => hn0, fun _ _ _ => hn0, fun _ _ r1 r2 => ktX11_wholes_60 (b9 := (s1 + 1) * 128 / S) _ _ _ _ _ hb' (by omega) (fun _ _ => True) (fun a w0 _ ha => ⟨⟨hS0, fun _ => ok_get z hS (bnd s2 (k4 (k2.mp r2)) a ha) (by omega) (by omega), fun _ => ok_put _ hS (bnd d (g4 (g2.mp r1)) a ha) (by omega) (by omega) _⟩, True.intro⟩) ((s1 + 1) * 128 / S - st) st z (by omega) True.intro, fun _ _ _ _ => by unfold tX11_wholes_60; rw [hb', if_pos (Int32.le_refl _)]; exact id, fun _ _ _ _ => hS0, fun _ _ _ _ h => absurd (Int32.le_refl _) h, fun _ _ _ _ h => absurd (Int32.le_refl _) h⟩
  · rw [show (s1 + 1) * 128 / S - st = 0 by omega]
    refine ⟨fun _ _ => hn0, fun _ _ _ => hn0, fun _ _ _ _ => True.intro, fun _ _ _ _ => ?_, fun _ _ _ _ => hS0, fun _ _ _ _ h => absurd (nI_le q (by omega)) h, fun _ _ _ _ h => absurd (nI_le q (by omega)) h⟩
    show ¬ tX11_wholes_60 (nI s1) (nI S) (nI st) z
    unfold tX11_wholes_60
    rw [hb', if_pos (nI_le q (by omega))]; exact id
theorem ok_reduces {S E L st d s1 s2 : Nat} {vt : Int32} {z : Nat → Int32} (h : HR S E L st d s1 s2 vt z) {W : Nat} {u2 : Int32} (hW : pX11_reduces_17_S1 (nI S) u2 = nI W) (hW8 : 8 ≤ W) (hW3 : W = 8 ∨ W = 16 ∨ W = 32 ∨ W = 64) {p : Int32} (hpp : ¬ p = 28 ∧ ¬ p = 29 ∧ ¬ p = 30 ∧ ¬ p = 31) (c : Int64) (md sat un u3 : Int32) : okX11_reduces c (nI L) vt (nI st) md sat (nI d) (nI s1) (nI s2) (nI S) (nI E) un z z p u2 u3 := by
  obtain ⟨hp, hS, hSe, h2e, hd, h1, h2, hLM, hL, hst, hz, hreg, hmo, hvm⟩ := h
  have hle := hS.le
  have M0 := ok_isG hp hSe
  have hWB : ¬ (32 : Int32) < nI W → okB W := by
    intro h
    have h32 : W ≤ 32 := by
      refine Classical.byContradiction (fun w => h ?_)
      rw [show (32 : Int32) = nI 32 by decide]; exact nI_lt (by omega) (by omega)
    unfold okB; omega
  have hg0 : ∀ r, r < 32 → ¬ (32 : Int32) < nI W → okX11_get z (nI r) (nI W) (nI 0) := fun r hr w => ok_get z (hWB w) (by have := (hWB w).le; omega) (by omega) (by omega)
  have hp0 : ∀ v, ¬ (32 : Int32) < nI W → okX11_put z (nI d) (nI W) (nI 0) v := fun v w => ok_put z (hWB w) (by have := (hWB w).le; omega) (by omega) (by omega) v
  have he := goes_eq (vl := L) (st := st) (by omega) (by omega)
  unfold okX11_reduces
  rw [hW, ← nI_0, cnt_nI (by omega) (by omega), itX11_reduces_75 (b9 := L) _ _ _ _ _ _ _ _ _ rfl (by omega) (L - 0) 0 (fX11_get z (nI s1) (nI W) (nI 0)) sat (by omega), show 0 + (L - 0) = L by omega]
  refine ⟨fun _ => M0, fun w _ _ _ => hg0 s1 h1 w, fun w k2 _ _ => ktX11_reduces_75 (b9 := L) _ _ _ _ _ _ _ _ _ rfl (by omega) (fun _ _ => True) (fun a w0 w1 _ ha => ⟨⟨fun _ => ok_isActive (by omega) _, fun _ _ => ok_get z hS (bd hp hSe h2 hLM ((legal_iff hp hSe h2).mp k2) ha) (by omega) (by omega), fun _ _ => ok_made_lin hpp _ _⟩, True.intro⟩) (L - 0) 0 _ sat (by omega) True.intro, fun _ _ _ _ => by unfold tX11_reduces_75; rw [if_pos (Int32.le_refl _)]; exact id, fun w _ _ _ _ => hp0 _ w, fun w _ _ _ _ => ?_, fun _ _ _ _ h => absurd (Int32.le_refl _) h, fun _ _ _ _ h => absurd (Int32.le_refl _) h, fun _ _ _ _ h => absurd (Int32.le_refl _) h⟩
  rw [nI8, show (1 : Int32) = nI 1 by decide]
  exact ok_tailM (g := 1) _ (hWB w) (by decide) (by decide) (by omega) (by omega) _ _
theorem ok_toX {S E L st d s1 s2 : Nat} {vt : Int32} {z : Nat → Int32} (h : HR S E L st d s1 s2 vt z) (un : Int32) : okX11_toX (nI L) (nI st) (nI d) (nI s1) (nI s2) (nI S) un z := by
  obtain ⟨hp, hS, hSe, h2e, hd, h1, h2, hLM, hL, hst, hz, hreg, hmo, hvm⟩ := h
  have hle := hS.le
  unfold okX11_toX
  rw [← nI_0, cnt_nI (by omega) (by omega), itX11_toX_75 (b9 := L) _ _ _ _ rfl (by omega) (L - 0) 0 (nI 0) (-1) (by omega), show 0 + (L - 0) = L by omega]
  have K := ktX11_toX_75 (nI L) (nI s2) un z (b9 := L) rfl (by omega) (fun _ _ => True) (fun a w0 w1 _ ha => ⟨⟨fun _ => ok_isActive (by omega) _, fun _ _ => ok_bit (by omega)⟩, True.intro⟩) (L - 0) 0 (nI 0) (-1) (by omega) True.intro
  have T : ∀ a b, ¬ tX11_toX_75 (nI L) (nI L) a b := fun a b => by unfold tX11_toX_75; rw [if_pos (Int32.le_refl _)]; exact id
  exact ⟨fun _ _ => ok_get z hS (by omega) (by omega) (by omega), fun _ _ _ => K, fun _ _ _ => T _ _, fun _ _ _ h => absurd (Int32.le_refl _) h, fun _ _ _ h => absurd (Int32.le_refl _) h, fun _ _ _ _ => K, fun _ _ _ _ => T _ _, fun _ _ _ _ h => absurd (Int32.le_refl _) h, fun _ _ _ _ h => absurd (Int32.le_refl _) h, fun _ => vp32 hd⟩
theorem ok_fromX {S E L st d s1 s2 : Nat} {vt : Int32} {z : Nat → Int32} (h : HR S E L st d s1 s2 vt z) (c : Int64) (un : Int32) (zX : Nat → Int32) : okX11_fromX c (nI L) vt (nI st) (nI d) (nI s1) (nI s2) (nI S) un zX z := by
  obtain ⟨hp, hS, hSe, h2e, hd, h1, h2, hLM, hL, hst, hz, hreg, hmo, hvm⟩ := h
  have hle := hS.le
  unfold okX11_fromX
  rw [← nI_0]
  refine ⟨fun _ _ _ => vp32 h1, fun _ _ _ => ok_put z hS (by omega) (by omega) (by omega) _, fun _ _ _ => ?_⟩
  rw [nI8, show (1 : Int32) = nI 1 by decide]
  exact ok_tailM (g := 1) _ hS (by decide) (by decide) (by omega) (by omega) _ _
