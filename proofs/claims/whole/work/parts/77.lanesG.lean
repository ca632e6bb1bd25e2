/-! ===== Lanes.execute: groups ===== -/
def E1 : List Nat := 0 :: 1 :: eews
def gq (S E e : Nat) : Nat := if e = 1 then 8 else gE S E e
def gn (S E e : Nat) : Nat := if e = 1 then 1 else gN S E e
def lgq (S E e r : Nat) : Bool := if e = 1 then true else legalG S E e r
theorem Q1' : ∀ p ∈ PE, ∀ e ∈ E1, fX9_eighthsFor (nI p.1) (nI p.2) (nI e) = nI (gq p.1 p.2 e) ∧ fX2_cover__g_registers (nI (gq p.1 p.2 e)) = nI (gn p.1 p.2 e) ∧ 1 ≤ gn p.1 p.2 e ∧ gn p.1 p.2 e < 1000 := by decide +kernel
theorem Q2' : ∀ p ∈ PE, ∀ e ∈ E1, ∀ r, r < 32 → fX2_isLegal (nI r) (nI e) (nI (gq p.1 p.2 e)) (nI (gn p.1 p.2 e)) = (if lgq p.1 p.2 e r = true then 1 else 0) := by decide +kernel
theorem Q1 {S E e : Nat} (hp : (S, E) ∈ PE) (he : e ∈ E1) : fX9_eighthsFor (nI S) (nI E) (nI e) = nI (gq S E e) ∧ fX2_cover__g_registers (nI (gq S E e)) = nI (gn S E e) ∧ 1 ≤ gn S E e ∧ gn S E e < 1000 := Q1' (S, E) hp e he
theorem Q2 {S E e r : Nat} (hp : (S, E) ∈ PE) (he : e ∈ E1) (hr : r < 32) : fX2_isLegal (nI r) (nI e) (nI (gq S E e)) (nI (gn S E e)) = (if lgq S E e r = true then 1 else 0) := Q2' (S, E) hp e he r hr
theorem E1.z {e : Nat} (he : e ∈ E1) : nI e = 0 ↔ e = 0 := by
  have : ∀ e ∈ E1, nI e = 0 ↔ e = 0 := by decide +kernel
  exact this e he
theorem b10 {e : Nat} (he : e ∈ E1) : pX4_cover_10_S2 (nI e) = 0 ↔ e = 0 := by
  unfold pX4_cover_10_S2
  by_cases h : e = 0
  · rw [if_pos ((E1.z he).mpr h)]; exact ⟨fun _ => h, fun _ => rfl⟩
  · rw [if_neg (fun w => h ((E1.z he).mp w))]; exact ⟨fun w => absurd w (by decide), fun w => absurd w h⟩
theorem tF {b : Bool} : ¬ (if b = true then (1 : Int32) else 0) = 0 ↔ b = true := by
  cases b <;> decide
theorem cov_iff {S E dw lw rw d s1 s2 : Nat} (hp : (S, E) ∈ PE) (hdw : dw ∈ E1) (hlw : lw ∈ E1) (hrw : rw ∈ E1) (hd : d < 32) (h1 : s1 < 32) (h2 : s2 < 32) (F : Int32) : ¬ fX4_cover (nI S) (nI E) F (nI d) (nI s1) (nI s2) (nI dw) (nI lw) (nI rw) = 0 ↔ (lgq S E dw d = true ∧ (¬ lw = 0 → lgq S E lw s2 = true) ∧ (¬ pX4_cover_31_S2 F (nI rw) = 0 → lgq S E rw s1 = true)) := by
  have e : fX4_cover (nI S) (nI E) F (nI d) (nI s1) (nI s2) (nI dw) (nI lw) (nI rw) = (if fX2_isLegal (nI d) (nI dw) (fX9_eighthsFor (nI S) (nI E) (nI dw)) (fX2_cover__g_registers (fX9_eighthsFor (nI S) (nI E) (nI dw))) = 0 then 0 else (if pX4_cover_10_S2 (nI lw) = 0 then (if pX4_cover_31_S2 F (nI rw) = 0 then 1 else (if fX2_isLegal (nI s1) (nI rw) (fX9_eighthsFor (nI S) (nI E) (nI rw)) (fX2_cover__g_registers (fX9_eighthsFor (nI S) (nI E) (nI rw))) = 0 then 0 else 1)) else (if fX2_isLegal (nI s2) (nI lw) (fX9_eighthsFor (nI S) (nI E) (nI lw)) (fX2_cover__g_registers (fX9_eighthsFor (nI S) (nI E) (nI lw))) = 0 then 0 else (if pX4_cover_31_S2 F (nI rw) = 0 then 1 else (if fX2_isLegal (nI s1) (nI rw) (fX9_eighthsFor (nI S) (nI E) (nI rw)) (fX2_cover__g_registers (fX9_eighthsFor (nI S) (nI E) (nI rw))) = 0 then 0 else 1))))) := rfl
  rw [e, (Q1 hp hdw).1, (Q1 hp hdw).2.1, (Q1 hp hlw).1, (Q1 hp hlw).2.1, (Q1 hp hrw).1, (Q1 hp hrw).2.1, Q2 hp hdw hd, Q2 hp hlw h2, Q2 hp hrw h1]
  have hb := b10 hlw
  by_cases a : lgq S E dw d = true
  · rw [if_neg (tF.mpr a)]
    by_cases l0 : lw = 0
    · rw [if_pos (hb.mpr l0)]
      by_cases r0 : pX4_cover_31_S2 F (nI rw) = 0
      · rw [if_pos r0]; exact ⟨fun _ => ⟨a, fun w => absurd l0 w, fun w => absurd r0 w⟩, fun _ => by decide⟩
      · rw [if_neg r0]
        by_cases r1 : lgq S E rw s1 = true
        · rw [if_neg (tF.mpr r1)]; exact ⟨fun _ => ⟨a, fun w => absurd l0 w, fun _ => r1⟩, fun _ => by decide⟩
        · rw [if_pos (if_neg r1)]; exact ⟨fun w => absurd rfl w, fun w => absurd (w.2.2 r0) r1⟩
    · rw [if_neg (fun w => l0 (hb.mp w))]
      by_cases l1 : lgq S E lw s2 = true
      · rw [if_neg (tF.mpr l1)]
        by_cases r0 : pX4_cover_31_S2 F (nI rw) = 0
        · rw [if_pos r0]; exact ⟨fun _ => ⟨a, fun _ => l1, fun w => absurd r0 w⟩, fun _ => by decide⟩
        · rw [if_neg r0]
          by_cases r1 : lgq S E rw s1 = true
          · rw [if_neg (tF.mpr r1)]; exact ⟨fun _ => ⟨a, fun _ => l1, fun _ => r1⟩, fun _ => by decide⟩
          · rw [if_pos (if_neg r1)]; exact ⟨fun w => absurd rfl w, fun w => absurd (w.2.2 r0) r1⟩
      · rw [if_pos (if_neg l1)]; exact ⟨fun w => absurd rfl w, fun w => absurd (w.2.1 l0) l1⟩
  · rw [if_pos (if_neg a)]; exact ⟨fun w => absurd rfl w, fun w => absurd w.1 a⟩
/-- how a source may meet the target -/
def mtC (k d dw gd s e q g : Int32) : Prop := if fX4_staysApart k = 0 then ¬ fX2_mayOverwrite d dw gd s e q g = 0 else fX2_meets d gd s g = 0
theorem mt_iff {k d dw gd s e q g u : Int32} : ¬ fX4_mayTargetMeet k d dw gd s e q g u = 0 ↔ (¬ u = 0 → mtC k d dw gd s e q g) := by
  unfold fX4_mayTargetMeet pX4_mayTargetMeet_40_S1 mtC
  by_cases a : u = 0
  · rw [if_pos a]; exact ⟨fun _ w => absurd a w, fun _ => by decide⟩
  · rw [if_neg a]
    by_cases b : fX4_staysApart k = 0
    · rw [if_pos b, if_pos b]; exact ⟨fun w _ => w, fun w => w a⟩
    · rw [if_neg b, if_neg b]
      by_cases m : fX2_meets d gd s g = 0
      · rw [if_pos m]; exact ⟨fun _ _ => m, fun _ => by decide⟩
      · rw [if_neg m]; exact ⟨fun w => absurd rfl w, fun w => absurd (w a) m⟩
theorem mbt_iff {k im hl hr d dw gd s2 lw lq lg s1 rw rq rg m0 m1 : Int32} : ¬ fX4_mayBeTarget k im hl hr d dw gd s2 lw lq lg s1 rw rq rg m0 m1 = 0 ↔ ((im = 0 ∨ fX2_meets d gd m0 m1 = 0 ∨ k = 2 ∨ k = 4) ∧ (¬ hl = 0 → mtC k d dw gd s2 lw lq lg) ∧ (¬ hr = 0 → mtC k d dw gd s1 rw rq rg)) := by
  have e : ¬ rX4_mayBeTarget_39 k hl hr d dw gd s2 lw lq lg s1 rw rq rg = 0 ↔ ((¬ hl = 0 → mtC k d dw gd s2 lw lq lg) ∧ (¬ hr = 0 → mtC k d dw gd s1 rw rq rg)) := by
    unfold rX4_mayBeTarget_39 pX4_mayBeTarget_74_S1
    rw [← mt_iff, ← mt_iff]
    by_cases a : fX4_mayTargetMeet k d dw gd s2 lw lq lg hl = 0
    · rw [if_pos a]; exact ⟨fun w => absurd rfl w, fun w => absurd a w.1⟩
    · rw [if_neg a]
      by_cases b : fX4_mayTargetMeet k d dw gd s1 rw rq rg hr = 0
      · rw [if_pos b]; exact ⟨fun w => absurd rfl w, fun w => absurd b w.2⟩
      · rw [if_neg b]; exact ⟨fun _ => ⟨a, b⟩, fun _ => by decide⟩
  unfold fX4_mayBeTarget
  by_cases a1 : im = 0
  · rw [if_pos a1, e]; exact ⟨fun w => ⟨Or.inl a1, w⟩, fun w => w.2⟩
  · rw [if_neg a1]
    by_cases a2 : fX2_meets d gd m0 m1 = 0
    · rw [if_pos a2, e]; exact ⟨fun w => ⟨Or.inr (Or.inl a2), w⟩, fun w => w.2⟩
    · rw [if_neg a2]
      by_cases a3 : k = 2
      · rw [if_pos a3, e]; exact ⟨fun w => ⟨Or.inr (Or.inr (Or.inl a3)), w⟩, fun w => w.2⟩
      · rw [if_neg a3]
        by_cases a4 : k = 4
        · rw [if_pos a4, e]; exact ⟨fun w => ⟨Or.inr (Or.inr (Or.inr a4)), w⟩, fun w => w.2⟩
        · rw [if_neg a4]
          refine ⟨fun w => absurd rfl w, fun w => ?_⟩
          rcases w.1 with h | h | h | h
          · exact absurd h a1
          · exact absurd h a2
          · exact absurd h a3
          · exact absurd h a4
/-- what execute asks of the groups -/
def okS (S E : Nat) (k : Int32) (dw d e s : Nat) : Prop := lgq S E e s = true ∧ mtC k (nI d) (nI dw) (nI (gn S E dw)) (nI s) (nI e) (nI (gq S E e)) (nI (gn S E e))
def okC (S E : Nat) (k F im : Int32) (d dw s2 lw s1 rw : Nat) : Prop := lgq S E dw d = true ∧ (im = 0 ∨ ¬ d = 0 ∨ k = 2 ∨ k = 4) ∧ (¬ lw = 0 → okS S E k dw d lw s2) ∧ (¬ pX4_cover_31_S2 F (nI rw) = 0 → okS S E k dw d rw s1)
/-- the groups of a kind -/
def CG (S E : Nat) (k sel F : Int32) (dw lw rw : Nat) : Prop := ∀ (d s1 s2 L : Nat) (rf re r8 rg : Int32) (rl : Int64), fX4_coverGroups k sel (nI S) (nI E) F (nI d) (nI s1) (nI s2) = fX4_cover (nI S) (nI E) F (nI d) (nI s1) (nI s2) (nI dw) (nI lw) (nI rw) ∧ fX4_coverGroups__n_length k (nI L) (nI S) (nI s1) = nI L ∧ fX4_coverGroups__n_hasLeft k sel (nI S) = pX4_cover_10_S2 (nI lw) ∧ fX4_coverGroups__n_hasRight k (nI S) F = pX4_cover_31_S2 F (nI rw) ∧ fX4_coverGroups__tg_first k (nI d) = nI d ∧ fX4_coverGroups__tg_eew k (nI S) = nI dw ∧ fX4_coverGroups__tg_registers k (nI S) (nI E) (nI s1) = nI (gn S E dw) ∧ fX4_coverGroups__tg_full k (nI S) = fX10_ones (nI dw) ∧ fX4_coverGroups__lf_first k (nI s2) = nI s2 ∧ fX4_coverGroups__lf_eew k sel (nI S) = nI lw ∧ fX4_coverGroups__lf_eighths k sel (nI S) (nI E) (nI s1) = nI (gq S E lw) ∧ fX4_coverGroups__lf_registers k sel (nI S) (nI E) (nI s1) = nI (gn S E lw) ∧ fX4_coverGroups__lf_full k sel (nI S) = fX10_ones (nI lw) ∧ fX4_coverGroups__rt_first k rf (nI s1) = nI s1 ∧ fX4_coverGroups__rt_eew k (nI S) re = nI rw ∧ fX4_coverGroups__rt_eighths k (nI S) (nI E) r8 = nI (gq S E rw) ∧ fX4_coverGroups__rt_registers k (nI S) (nI E) rg = nI (gn S E rw) ∧ fX4_coverGroups__rt_full k (nI S) rl = fX10_ones (nI rw)
theorem cg2 {S E : Nat} (hp : (S, E) ∈ PE) (hS : S ∈ eews) (h2 : 2 * S ∈ eews) (sel F : Int32) : CG S E 2 sel F 1 S S := by
  intro d s1 s2 L rf re r8 rg rl
  have e2 : (2 : Int32) * nI S = nI (2 * S) := by rw [show (2 : Int32) = nI 2 by decide, pk_mul]
  have m0 : (0 : Nat) ∈ E1 := by decide
  have m1 : (1 : Nat) ∈ E1 := by decide
  have m16 : (16 : Nat) ∈ E1 := by decide
  have mS : S ∈ E1 := List.mem_cons_of_mem _ (List.mem_cons_of_mem _ hS)
  have mT : 2 * S ∈ E1 := List.mem_cons_of_mem _ (List.mem_cons_of_mem _ h2)
  have z0 : (0 : Int32) = nI 0 := by decide
  have z1 : (1 : Int32) = nI 1 := by decide
  have z16 : (16 : Int32) = nI 16 := by decide
  simp (decide := true) only [fX4_coverGroups, fX4_coverGroups__n_length, fX4_coverGroups__n_hasLeft, fX4_coverGroups__n_hasRight, fX4_coverGroups__tg_first, fX4_coverGroups__tg_eew, fX4_coverGroups__tg_registers, fX4_coverGroups__tg_full, fX4_coverGroups__lf_first, fX4_coverGroups__lf_eew, fX4_coverGroups__lf_eighths, fX4_coverGroups__lf_registers, fX4_coverGroups__lf_full, fX4_coverGroups__rt_first, fX4_coverGroups__rt_eew, fX4_coverGroups__rt_eighths, fX4_coverGroups__rt_registers, fX4_coverGroups__rt_full, fX4_cover__n_hasLeft, fX4_cover__n_hasRight, fX4_cover__tg_first, fX4_cover__tg_eew, fX4_cover__tg_registers, fX4_cover__tg_full, fX4_cover__lf_first, fX4_cover__lf_eew, fX4_cover__lf_eighths, fX4_cover__lf_registers, fX4_cover__lf_full, fX4_cover__rt_first, fX4_cover__rt_eew, fX4_cover__rt_eighths, fX4_cover__rt_registers, fX4_cover__rt_full, fX2_cover__g_first, fX2_cover__g_eew, fX2_cover__g_eighths, fX2_cover__g_full, if_true, if_false]
  have q0 := (Q1 hp m0).1
  have q1 := (Q1 hp m1).1
  have q16 := (Q1 hp m16).1
  rw [← z0] at q0
  rw [← z1] at q1
  rw [← z16] at q16
  simp only [e2, ← z0, ← z1, ← z16, q0, q1, q16, (Q1 hp m0).2.1, (Q1 hp m1).2.1, (Q1 hp m16).2.1, (Q1 hp mS).1, (Q1 hp mS).2.1, (Q1 hp mT).1, (Q1 hp mT).2.1, and_self]
theorem cg4 {S E : Nat} (hp : (S, E) ∈ PE) (hS : S ∈ eews) (h2 : 2 * S ∈ eews) (sel F : Int32) : CG S E 4 sel F 1 S S := by
  intro d s1 s2 L rf re r8 rg rl
  have e2 : (2 : Int32) * nI S = nI (2 * S) := by rw [show (2 : Int32) = nI 2 by decide, pk_mul]
  have m0 : (0 : Nat) ∈ E1 := by decide
  have m1 : (1 : Nat) ∈ E1 := by decide
  have m16 : (16 : Nat) ∈ E1 := by decide
  have mS : S ∈ E1 := List.mem_cons_of_mem _ (List.mem_cons_of_mem _ hS)
  have mT : 2 * S ∈ E1 := List.mem_cons_of_mem _ (List.mem_cons_of_mem _ h2)
  have z0 : (0 : Int32) = nI 0 := by decide
  have z1 : (1 : Int32) = nI 1 := by decide
  have z16 : (16 : Int32) = nI 16 := by decide
  simp (decide := true) only [fX4_coverGroups, fX4_coverGroups__n_length, fX4_coverGroups__n_hasLeft, fX4_coverGroups__n_hasRight, fX4_coverGroups__tg_first, fX4_coverGroups__tg_eew, fX4_coverGroups__tg_registers, fX4_coverGroups__tg_full, fX4_coverGroups__lf_first, fX4_coverGroups__lf_eew, fX4_coverGroups__lf_eighths, fX4_coverGroups__lf_registers, fX4_coverGroups__lf_full, fX4_coverGroups__rt_first, fX4_coverGroups__rt_eew, fX4_coverGroups__rt_eighths, fX4_coverGroups__rt_registers, fX4_coverGroups__rt_full, fX4_cover__n_hasLeft, fX4_cover__n_hasRight, fX4_cover__tg_first, fX4_cover__tg_eew, fX4_cover__tg_registers, fX4_cover__tg_full, fX4_cover__lf_first, fX4_cover__lf_eew, fX4_cover__lf_eighths, fX4_cover__lf_registers, fX4_cover__lf_full, fX4_cover__rt_first, fX4_cover__rt_eew, fX4_cover__rt_eighths, fX4_cover__rt_registers, fX4_cover__rt_full, fX2_cover__g_first, fX2_cover__g_eew, fX2_cover__g_eighths, fX2_cover__g_full, if_true, if_false]
  have q0 := (Q1 hp m0).1
  have q1 := (Q1 hp m1).1
  have q16 := (Q1 hp m16).1
  rw [← z0] at q0
  rw [← z1] at q1
  rw [← z16] at q16
  simp only [e2, ← z0, ← z1, ← z16, q0, q1, q16, (Q1 hp m0).2.1, (Q1 hp m1).2.1, (Q1 hp m16).2.1, (Q1 hp mS).1, (Q1 hp mS).2.1, (Q1 hp mT).1, (Q1 hp mT).2.1, and_self]
theorem cg6 {S E : Nat} (hp : (S, E) ∈ PE) (hS : S ∈ eews) (h2 : 2 * S ∈ eews) (sel F : Int32) : CG S E 6 sel F S (2 * S) S := by
  intro d s1 s2 L rf re r8 rg rl
  have e2 : (2 : Int32) * nI S = nI (2 * S) := by rw [show (2 : Int32) = nI 2 by decide, pk_mul]
  have m0 : (0 : Nat) ∈ E1 := by decide
  have m1 : (1 : Nat) ∈ E1 := by decide
  have m16 : (16 : Nat) ∈ E1 := by decide
  have mS : S ∈ E1 := List.mem_cons_of_mem _ (List.mem_cons_of_mem _ hS)
  have mT : 2 * S ∈ E1 := List.mem_cons_of_mem _ (List.mem_cons_of_mem _ h2)
  have z0 : (0 : Int32) = nI 0 := by decide
  have z1 : (1 : Int32) = nI 1 := by decide
  have z16 : (16 : Int32) = nI 16 := by decide
  simp (decide := true) only [fX4_coverGroups, fX4_coverGroups__n_length, fX4_coverGroups__n_hasLeft, fX4_coverGroups__n_hasRight, fX4_coverGroups__tg_first, fX4_coverGroups__tg_eew, fX4_coverGroups__tg_registers, fX4_coverGroups__tg_full, fX4_coverGroups__lf_first, fX4_coverGroups__lf_eew, fX4_coverGroups__lf_eighths, fX4_coverGroups__lf_registers, fX4_coverGroups__lf_full, fX4_coverGroups__rt_first, fX4_coverGroups__rt_eew, fX4_coverGroups__rt_eighths, fX4_coverGroups__rt_registers, fX4_coverGroups__rt_full, fX4_cover__n_hasLeft, fX4_cover__n_hasRight, fX4_cover__tg_first, fX4_cover__tg_eew, fX4_cover__tg_registers, fX4_cover__tg_full, fX4_cover__lf_first, fX4_cover__lf_eew, fX4_cover__lf_eighths, fX4_cover__lf_registers, fX4_cover__lf_full, fX4_cover__rt_first, fX4_cover__rt_eew, fX4_cover__rt_eighths, fX4_cover__rt_registers, fX4_cover__rt_full, fX2_cover__g_first, fX2_cover__g_eew, fX2_cover__g_eighths, fX2_cover__g_full, if_true, if_false]
  have q0 := (Q1 hp m0).1
  have q1 := (Q1 hp m1).1
  have q16 := (Q1 hp m16).1
  rw [← z0] at q0
  rw [← z1] at q1
  rw [← z16] at q16
  simp only [e2, ← z0, ← z1, ← z16, q0, q1, q16, (Q1 hp m0).2.1, (Q1 hp m1).2.1, (Q1 hp m16).2.1, (Q1 hp mS).1, (Q1 hp mS).2.1, (Q1 hp mT).1, (Q1 hp mT).2.1, and_self]
theorem cg7 {S E : Nat} (hp : (S, E) ∈ PE) (hS : S ∈ eews) (h2 : 2 * S ∈ eews) (sel F : Int32) : CG S E 7 sel F (2 * S) S S := by
  intro d s1 s2 L rf re r8 rg rl
  have e2 : (2 : Int32) * nI S = nI (2 * S) := by rw [show (2 : Int32) = nI 2 by decide, pk_mul]
  have m0 : (0 : Nat) ∈ E1 := by decide
  have m1 : (1 : Nat) ∈ E1 := by decide
  have m16 : (16 : Nat) ∈ E1 := by decide
  have mS : S ∈ E1 := List.mem_cons_of_mem _ (List.mem_cons_of_mem _ hS)
  have mT : 2 * S ∈ E1 := List.mem_cons_of_mem _ (List.mem_cons_of_mem _ h2)
  have z0 : (0 : Int32) = nI 0 := by decide
  have z1 : (1 : Int32) = nI 1 := by decide
  have z16 : (16 : Int32) = nI 16 := by decide
  simp (decide := true) only [fX4_coverGroups, fX4_coverGroups__n_length, fX4_coverGroups__n_hasLeft, fX4_coverGroups__n_hasRight, fX4_coverGroups__tg_first, fX4_coverGroups__tg_eew, fX4_coverGroups__tg_registers, fX4_coverGroups__tg_full, fX4_coverGroups__lf_first, fX4_coverGroups__lf_eew, fX4_coverGroups__lf_eighths, fX4_coverGroups__lf_registers, fX4_coverGroups__lf_full, fX4_coverGroups__rt_first, fX4_coverGroups__rt_eew, fX4_coverGroups__rt_eighths, fX4_coverGroups__rt_registers, fX4_coverGroups__rt_full, fX4_cover__n_hasLeft, fX4_cover__n_hasRight, fX4_cover__tg_first, fX4_cover__tg_eew, fX4_cover__tg_registers, fX4_cover__tg_full, fX4_cover__lf_first, fX4_cover__lf_eew, fX4_cover__lf_eighths, fX4_cover__lf_registers, fX4_cover__lf_full, fX4_cover__rt_first, fX4_cover__rt_eew, fX4_cover__rt_eighths, fX4_cover__rt_registers, fX4_cover__rt_full, fX2_cover__g_first, fX2_cover__g_eew, fX2_cover__g_eighths, fX2_cover__g_full, if_true, if_false]
  have q0 := (Q1 hp m0).1
  have q1 := (Q1 hp m1).1
  have q16 := (Q1 hp m16).1
  rw [← z0] at q0
  rw [← z1] at q1
  rw [← z16] at q16
  simp only [e2, ← z0, ← z1, ← z16, q0, q1, q16, (Q1 hp m0).2.1, (Q1 hp m1).2.1, (Q1 hp m16).2.1, (Q1 hp mS).1, (Q1 hp mS).2.1, (Q1 hp mT).1, (Q1 hp mT).2.1, and_self]
theorem cg8 {S E : Nat} (hp : (S, E) ∈ PE) (hS : S ∈ eews) (h2 : 2 * S ∈ eews) (sel F : Int32) : CG S E 8 sel F (2 * S) (2 * S) S := by
  intro d s1 s2 L rf re r8 rg rl
  have e2 : (2 : Int32) * nI S = nI (2 * S) := by rw [show (2 : Int32) = nI 2 by decide, pk_mul]
  have m0 : (0 : Nat) ∈ E1 := by decide
  have m1 : (1 : Nat) ∈ E1 := by decide
  have m16 : (16 : Nat) ∈ E1 := by decide
  have mS : S ∈ E1 := List.mem_cons_of_mem _ (List.mem_cons_of_mem _ hS)
  have mT : 2 * S ∈ E1 := List.mem_cons_of_mem _ (List.mem_cons_of_mem _ h2)
  have z0 : (0 : Int32) = nI 0 := by decide
  have z1 : (1 : Int32) = nI 1 := by decide
  have z16 : (16 : Int32) = nI 16 := by decide
  simp (decide := true) only [fX4_coverGroups, fX4_coverGroups__n_length, fX4_coverGroups__n_hasLeft, fX4_coverGroups__n_hasRight, fX4_coverGroups__tg_first, fX4_coverGroups__tg_eew, fX4_coverGroups__tg_registers, fX4_coverGroups__tg_full, fX4_coverGroups__lf_first, fX4_coverGroups__lf_eew, fX4_coverGroups__lf_eighths, fX4_coverGroups__lf_registers, fX4_coverGroups__lf_full, fX4_coverGroups__rt_first, fX4_coverGroups__rt_eew, fX4_coverGroups__rt_eighths, fX4_coverGroups__rt_registers, fX4_coverGroups__rt_full, fX4_cover__n_hasLeft, fX4_cover__n_hasRight, fX4_cover__tg_first, fX4_cover__tg_eew, fX4_cover__tg_registers, fX4_cover__tg_full, fX4_cover__lf_first, fX4_cover__lf_eew, fX4_cover__lf_eighths, fX4_cover__lf_registers, fX4_cover__lf_full, fX4_cover__rt_first, fX4_cover__rt_eew, fX4_cover__rt_eighths, fX4_cover__rt_registers, fX4_cover__rt_full, fX2_cover__g_first, fX2_cover__g_eew, fX2_cover__g_eighths, fX2_cover__g_full, if_true, if_false]
  have q0 := (Q1 hp m0).1
  have q1 := (Q1 hp m1).1
  have q16 := (Q1 hp m16).1
  rw [← z0] at q0
  rw [← z1] at q1
  rw [← z16] at q16
  simp only [e2, ← z0, ← z1, ← z16, q0, q1, q16, (Q1 hp m0).2.1, (Q1 hp m1).2.1, (Q1 hp m16).2.1, (Q1 hp mS).1, (Q1 hp mS).2.1, (Q1 hp mT).1, (Q1 hp mT).2.1, and_self]
theorem cg12 {S E : Nat} (hp : (S, E) ∈ PE) (hS : S ∈ eews) (h2 : 2 * S ∈ eews) (sel F : Int32) : CG S E 12 sel F 1 1 1 := by
  intro d s1 s2 L rf re r8 rg rl
  have e2 : (2 : Int32) * nI S = nI (2 * S) := by rw [show (2 : Int32) = nI 2 by decide, pk_mul]
  have m0 : (0 : Nat) ∈ E1 := by decide
  have m1 : (1 : Nat) ∈ E1 := by decide
  have m16 : (16 : Nat) ∈ E1 := by decide
  have mS : S ∈ E1 := List.mem_cons_of_mem _ (List.mem_cons_of_mem _ hS)
  have mT : 2 * S ∈ E1 := List.mem_cons_of_mem _ (List.mem_cons_of_mem _ h2)
  have z0 : (0 : Int32) = nI 0 := by decide
  have z1 : (1 : Int32) = nI 1 := by decide
  have z16 : (16 : Int32) = nI 16 := by decide
  simp (decide := true) only [fX4_coverGroups, fX4_coverGroups__n_length, fX4_coverGroups__n_hasLeft, fX4_coverGroups__n_hasRight, fX4_coverGroups__tg_first, fX4_coverGroups__tg_eew, fX4_coverGroups__tg_registers, fX4_coverGroups__tg_full, fX4_coverGroups__lf_first, fX4_coverGroups__lf_eew, fX4_coverGroups__lf_eighths, fX4_coverGroups__lf_registers, fX4_coverGroups__lf_full, fX4_coverGroups__rt_first, fX4_coverGroups__rt_eew, fX4_coverGroups__rt_eighths, fX4_coverGroups__rt_registers, fX4_coverGroups__rt_full, fX4_cover__n_hasLeft, fX4_cover__n_hasRight, fX4_cover__tg_first, fX4_cover__tg_eew, fX4_cover__tg_registers, fX4_cover__tg_full, fX4_cover__lf_first, fX4_cover__lf_eew, fX4_cover__lf_eighths, fX4_cover__lf_registers, fX4_cover__lf_full, fX4_cover__rt_first, fX4_cover__rt_eew, fX4_cover__rt_eighths, fX4_cover__rt_registers, fX4_cover__rt_full, fX2_cover__g_first, fX2_cover__g_eew, fX2_cover__g_eighths, fX2_cover__g_full, if_true, if_false]
  have q0 := (Q1 hp m0).1
  have q1 := (Q1 hp m1).1
  have q16 := (Q1 hp m16).1
  rw [← z0] at q0
  rw [← z1] at q1
  rw [← z16] at q16
  simp only [e2, ← z0, ← z1, ← z16, q0, q1, q16, (Q1 hp m0).2.1, (Q1 hp m1).2.1, (Q1 hp m16).2.1, (Q1 hp mS).1, (Q1 hp mS).2.1, (Q1 hp mT).1, (Q1 hp mT).2.1, and_self]
theorem cg14 {S E : Nat} (hp : (S, E) ∈ PE) (hS : S ∈ eews) (h2 : 2 * S ∈ eews) (sel F : Int32) : CG S E 14 sel F 1 1 0 := by
  intro d s1 s2 L rf re r8 rg rl
  have e2 : (2 : Int32) * nI S = nI (2 * S) := by rw [show (2 : Int32) = nI 2 by decide, pk_mul]
  have m0 : (0 : Nat) ∈ E1 := by decide
  have m1 : (1 : Nat) ∈ E1 := by decide
  have m16 : (16 : Nat) ∈ E1 := by decide
  have mS : S ∈ E1 := List.mem_cons_of_mem _ (List.mem_cons_of_mem _ hS)
  have mT : 2 * S ∈ E1 := List.mem_cons_of_mem _ (List.mem_cons_of_mem _ h2)
  have z0 : (0 : Int32) = nI 0 := by decide
  have z1 : (1 : Int32) = nI 1 := by decide
  have z16 : (16 : Int32) = nI 16 := by decide
  simp (decide := true) only [fX4_coverGroups, fX4_coverGroups__n_length, fX4_coverGroups__n_hasLeft, fX4_coverGroups__n_hasRight, fX4_coverGroups__tg_first, fX4_coverGroups__tg_eew, fX4_coverGroups__tg_registers, fX4_coverGroups__tg_full, fX4_coverGroups__lf_first, fX4_coverGroups__lf_eew, fX4_coverGroups__lf_eighths, fX4_coverGroups__lf_registers, fX4_coverGroups__lf_full, fX4_coverGroups__rt_first, fX4_coverGroups__rt_eew, fX4_coverGroups__rt_eighths, fX4_coverGroups__rt_registers, fX4_coverGroups__rt_full, fX4_cover__n_hasLeft, fX4_cover__n_hasRight, fX4_cover__tg_first, fX4_cover__tg_eew, fX4_cover__tg_registers, fX4_cover__tg_full, fX4_cover__lf_first, fX4_cover__lf_eew, fX4_cover__lf_eighths, fX4_cover__lf_registers, fX4_cover__lf_full, fX4_cover__rt_first, fX4_cover__rt_eew, fX4_cover__rt_eighths, fX4_cover__rt_registers, fX4_cover__rt_full, fX2_cover__g_first, fX2_cover__g_eew, fX2_cover__g_eighths, fX2_cover__g_full, if_true, if_false]
  have q0 := (Q1 hp m0).1
  have q1 := (Q1 hp m1).1
  have q16 := (Q1 hp m16).1
  rw [← z0] at q0
  rw [← z1] at q1
  rw [← z16] at q16
  simp only [e2, ← z0, ← z1, ← z16, q0, q1, q16, (Q1 hp m0).2.1, (Q1 hp m1).2.1, (Q1 hp m16).2.1, (Q1 hp mS).1, (Q1 hp mS).2.1, (Q1 hp mT).1, (Q1 hp mT).2.1, and_self]
theorem cg15 {S E : Nat} (hp : (S, E) ∈ PE) (hS : S ∈ eews) (h2 : 2 * S ∈ eews) (sel F : Int32) : CG S E 15 sel F S 1 0 := by
  intro d s1 s2 L rf re r8 rg rl
  have e2 : (2 : Int32) * nI S = nI (2 * S) := by rw [show (2 : Int32) = nI 2 by decide, pk_mul]
  have m0 : (0 : Nat) ∈ E1 := by decide
  have m1 : (1 : Nat) ∈ E1 := by decide
  have m16 : (16 : Nat) ∈ E1 := by decide
  have mS : S ∈ E1 := List.mem_cons_of_mem _ (List.mem_cons_of_mem _ hS)
  have mT : 2 * S ∈ E1 := List.mem_cons_of_mem _ (List.mem_cons_of_mem _ h2)
  have z0 : (0 : Int32) = nI 0 := by decide
  have z1 : (1 : Int32) = nI 1 := by decide
  have z16 : (16 : Int32) = nI 16 := by decide
  simp (decide := true) only [fX4_coverGroups, fX4_coverGroups__n_length, fX4_coverGroups__n_hasLeft, fX4_coverGroups__n_hasRight, fX4_coverGroups__tg_first, fX4_coverGroups__tg_eew, fX4_coverGroups__tg_registers, fX4_coverGroups__tg_full, fX4_coverGroups__lf_first, fX4_coverGroups__lf_eew, fX4_coverGroups__lf_eighths, fX4_coverGroups__lf_registers, fX4_coverGroups__lf_full, fX4_coverGroups__rt_first, fX4_coverGroups__rt_eew, fX4_coverGroups__rt_eighths, fX4_coverGroups__rt_registers, fX4_coverGroups__rt_full, fX4_cover__n_hasLeft, fX4_cover__n_hasRight, fX4_cover__tg_first, fX4_cover__tg_eew, fX4_cover__tg_registers, fX4_cover__tg_full, fX4_cover__lf_first, fX4_cover__lf_eew, fX4_cover__lf_eighths, fX4_cover__lf_registers, fX4_cover__lf_full, fX4_cover__rt_first, fX4_cover__rt_eew, fX4_cover__rt_eighths, fX4_cover__rt_registers, fX4_cover__rt_full, fX2_cover__g_first, fX2_cover__g_eew, fX2_cover__g_eighths, fX2_cover__g_full, if_true, if_false]
  have q0 := (Q1 hp m0).1
  have q1 := (Q1 hp m1).1
  have q16 := (Q1 hp m16).1
  rw [← z0] at q0
  rw [← z1] at q1
  rw [← z16] at q16
  simp only [e2, ← z0, ← z1, ← z16, q0, q1, q16, (Q1 hp m0).2.1, (Q1 hp m1).2.1, (Q1 hp m16).2.1, (Q1 hp mS).1, (Q1 hp mS).2.1, (Q1 hp mT).1, (Q1 hp mT).2.1, and_self]
theorem cg16 {S E : Nat} (hp : (S, E) ∈ PE) (hS : S ∈ eews) (h2 : 2 * S ∈ eews) (sel F : Int32) : CG S E 16 sel F S 0 0 := by
  intro d s1 s2 L rf re r8 rg rl
  have e2 : (2 : Int32) * nI S = nI (2 * S) := by rw [show (2 : Int32) = nI 2 by decide, pk_mul]
  have m0 : (0 : Nat) ∈ E1 := by decide
  have m1 : (1 : Nat) ∈ E1 := by decide
  have m16 : (16 : Nat) ∈ E1 := by decide
  have mS : S ∈ E1 := List.mem_cons_of_mem _ (List.mem_cons_of_mem _ hS)
  have mT : 2 * S ∈ E1 := List.mem_cons_of_mem _ (List.mem_cons_of_mem _ h2)
  have z0 : (0 : Int32) = nI 0 := by decide
  have z1 : (1 : Int32) = nI 1 := by decide
  have z16 : (16 : Int32) = nI 16 := by decide
  simp (decide := true) only [fX4_coverGroups, fX4_coverGroups__n_length, fX4_coverGroups__n_hasLeft, fX4_coverGroups__n_hasRight, fX4_coverGroups__tg_first, fX4_coverGroups__tg_eew, fX4_coverGroups__tg_registers, fX4_coverGroups__tg_full, fX4_coverGroups__lf_first, fX4_coverGroups__lf_eew, fX4_coverGroups__lf_eighths, fX4_coverGroups__lf_registers, fX4_coverGroups__lf_full, fX4_coverGroups__rt_first, fX4_coverGroups__rt_eew, fX4_coverGroups__rt_eighths, fX4_coverGroups__rt_registers, fX4_coverGroups__rt_full, fX4_cover__n_hasLeft, fX4_cover__n_hasRight, fX4_cover__tg_first, fX4_cover__tg_eew, fX4_cover__tg_registers, fX4_cover__tg_full, fX4_cover__lf_first, fX4_cover__lf_eew, fX4_cover__lf_eighths, fX4_cover__lf_registers, fX4_cover__lf_full, fX4_cover__rt_first, fX4_cover__rt_eew, fX4_cover__rt_eighths, fX4_cover__rt_registers, fX4_cover__rt_full, fX2_cover__g_first, fX2_cover__g_eew, fX2_cover__g_eighths, fX2_cover__g_full, if_true, if_false]
  have q0 := (Q1 hp m0).1
  have q1 := (Q1 hp m1).1
  have q16 := (Q1 hp m16).1
  rw [← z0] at q0
  rw [← z1] at q1
  rw [← z16] at q16
  simp only [e2, ← z0, ← z1, ← z16, q0, q1, q16, (Q1 hp m0).2.1, (Q1 hp m1).2.1, (Q1 hp m16).2.1, (Q1 hp mS).1, (Q1 hp mS).2.1, (Q1 hp mT).1, (Q1 hp mT).2.1, and_self]
theorem cg24 {S E : Nat} (hp : (S, E) ∈ PE) (hS : S ∈ eews) (h2 : 2 * S ∈ eews) (sel F : Int32) : CG S E 24 sel F S S 16 := by
  intro d s1 s2 L rf re r8 rg rl
  have e2 : (2 : Int32) * nI S = nI (2 * S) := by rw [show (2 : Int32) = nI 2 by decide, pk_mul]
  have m0 : (0 : Nat) ∈ E1 := by decide
  have m1 : (1 : Nat) ∈ E1 := by decide
  have m16 : (16 : Nat) ∈ E1 := by decide
  have mS : S ∈ E1 := List.mem_cons_of_mem _ (List.mem_cons_of_mem _ hS)
  have mT : 2 * S ∈ E1 := List.mem_cons_of_mem _ (List.mem_cons_of_mem _ h2)
  have z0 : (0 : Int32) = nI 0 := by decide
  have z1 : (1 : Int32) = nI 1 := by decide
  have z16 : (16 : Int32) = nI 16 := by decide
  simp (decide := true) only [fX4_coverGroups, fX4_coverGroups__n_length, fX4_coverGroups__n_hasLeft, fX4_coverGroups__n_hasRight, fX4_coverGroups__tg_first, fX4_coverGroups__tg_eew, fX4_coverGroups__tg_registers, fX4_coverGroups__tg_full, fX4_coverGroups__lf_first, fX4_coverGroups__lf_eew, fX4_coverGroups__lf_eighths, fX4_coverGroups__lf_registers, fX4_coverGroups__lf_full, fX4_coverGroups__rt_first, fX4_coverGroups__rt_eew, fX4_coverGroups__rt_eighths, fX4_coverGroups__rt_registers, fX4_coverGroups__rt_full, fX4_cover__n_hasLeft, fX4_cover__n_hasRight, fX4_cover__tg_first, fX4_cover__tg_eew, fX4_cover__tg_registers, fX4_cover__tg_full, fX4_cover__lf_first, fX4_cover__lf_eew, fX4_cover__lf_eighths, fX4_cover__lf_registers, fX4_cover__lf_full, fX4_cover__rt_first, fX4_cover__rt_eew, fX4_cover__rt_eighths, fX4_cover__rt_registers, fX4_cover__rt_full, fX2_cover__g_first, fX2_cover__g_eew, fX2_cover__g_eighths, fX2_cover__g_full, if_true, if_false]
  have q0 := (Q1 hp m0).1
  have q1 := (Q1 hp m1).1
  have q16 := (Q1 hp m16).1
  rw [← z0] at q0
  rw [← z1] at q1
  rw [← z16] at q16
  simp only [e2, ← z0, ← z1, ← z16, q0, q1, q16, (Q1 hp m0).2.1, (Q1 hp m1).2.1, (Q1 hp m16).2.1, (Q1 hp mS).1, (Q1 hp mS).2.1, (Q1 hp mT).1, (Q1 hp mT).2.1, and_self]
theorem cg25 {S E : Nat} (hp : (S, E) ∈ PE) (hS : S ∈ eews) (h2 : 2 * S ∈ eews) (sel F : Int32) : CG S E 25 sel F S S 1 := by
  intro d s1 s2 L rf re r8 rg rl
  have e2 : (2 : Int32) * nI S = nI (2 * S) := by rw [show (2 : Int32) = nI 2 by decide, pk_mul]
  have m0 : (0 : Nat) ∈ E1 := by decide
  have m1 : (1 : Nat) ∈ E1 := by decide
  have m16 : (16 : Nat) ∈ E1 := by decide
  have mS : S ∈ E1 := List.mem_cons_of_mem _ (List.mem_cons_of_mem _ hS)
  have mT : 2 * S ∈ E1 := List.mem_cons_of_mem _ (List.mem_cons_of_mem _ h2)
  have z0 : (0 : Int32) = nI 0 := by decide
  have z1 : (1 : Int32) = nI 1 := by decide
  have z16 : (16 : Int32) = nI 16 := by decide
  simp (decide := true) only [fX4_coverGroups, fX4_coverGroups__n_length, fX4_coverGroups__n_hasLeft, fX4_coverGroups__n_hasRight, fX4_coverGroups__tg_first, fX4_coverGroups__tg_eew, fX4_coverGroups__tg_registers, fX4_coverGroups__tg_full, fX4_coverGroups__lf_first, fX4_coverGroups__lf_eew, fX4_coverGroups__lf_eighths, fX4_coverGroups__lf_registers, fX4_coverGroups__lf_full, fX4_coverGroups__rt_first, fX4_coverGroups__rt_eew, fX4_coverGroups__rt_eighths, fX4_coverGroups__rt_registers, fX4_coverGroups__rt_full, fX4_cover__n_hasLeft, fX4_cover__n_hasRight, fX4_cover__tg_first, fX4_cover__tg_eew, fX4_cover__tg_registers, fX4_cover__tg_full, fX4_cover__lf_first, fX4_cover__lf_eew, fX4_cover__lf_eighths, fX4_cover__lf_registers, fX4_cover__lf_full, fX4_cover__rt_first, fX4_cover__rt_eew, fX4_cover__rt_eighths, fX4_cover__rt_registers, fX4_cover__rt_full, fX2_cover__g_first, fX2_cover__g_eew, fX2_cover__g_eighths, fX2_cover__g_full, if_true, if_false]
  have q0 := (Q1 hp m0).1
  have q1 := (Q1 hp m1).1
  have q16 := (Q1 hp m16).1
  rw [← z0] at q0
  rw [← z1] at q1
  rw [← z16] at q16
  simp only [e2, ← z0, ← z1, ← z16, q0, q1, q16, (Q1 hp m0).2.1, (Q1 hp m1).2.1, (Q1 hp m16).2.1, (Q1 hp mS).1, (Q1 hp mS).2.1, (Q1 hp mT).1, (Q1 hp mT).2.1, and_self]
theorem cg1 {S E : Nat} (hp : (S, E) ∈ PE) (hS : S ∈ eews) (h2 : 2 * S ∈ eews) (sel F : Int32) : CG S E 1 sel F S S S := by
  intro d s1 s2 L rf re r8 rg rl
  have e2 : (2 : Int32) * nI S = nI (2 * S) := by rw [show (2 : Int32) = nI 2 by decide, pk_mul]
  have m0 : (0 : Nat) ∈ E1 := by decide
  have m1 : (1 : Nat) ∈ E1 := by decide
  have m16 : (16 : Nat) ∈ E1 := by decide
  have mS : S ∈ E1 := List.mem_cons_of_mem _ (List.mem_cons_of_mem _ hS)
  have mT : 2 * S ∈ E1 := List.mem_cons_of_mem _ (List.mem_cons_of_mem _ h2)
  have z0 : (0 : Int32) = nI 0 := by decide
  have z1 : (1 : Int32) = nI 1 := by decide
  have z16 : (16 : Int32) = nI 16 := by decide
  simp (decide := true) only [fX4_coverGroups, fX4_coverGroups__n_length, fX4_coverGroups__n_hasLeft, fX4_coverGroups__n_hasRight, fX4_coverGroups__tg_first, fX4_coverGroups__tg_eew, fX4_coverGroups__tg_registers, fX4_coverGroups__tg_full, fX4_coverGroups__lf_first, fX4_coverGroups__lf_eew, fX4_coverGroups__lf_eighths, fX4_coverGroups__lf_registers, fX4_coverGroups__lf_full, fX4_coverGroups__rt_first, fX4_coverGroups__rt_eew, fX4_coverGroups__rt_eighths, fX4_coverGroups__rt_registers, fX4_coverGroups__rt_full, fX4_cover__n_hasLeft, fX4_cover__n_hasRight, fX4_cover__tg_first, fX4_cover__tg_eew, fX4_cover__tg_registers, fX4_cover__tg_full, fX4_cover__lf_first, fX4_cover__lf_eew, fX4_cover__lf_eighths, fX4_cover__lf_registers, fX4_cover__lf_full, fX4_cover__rt_first, fX4_cover__rt_eew, fX4_cover__rt_eighths, fX4_cover__rt_registers, fX4_cover__rt_full, fX2_cover__g_first, fX2_cover__g_eew, fX2_cover__g_eighths, fX2_cover__g_full, if_true, if_false]
  have q0 := (Q1 hp m0).1
  have q1 := (Q1 hp m1).1
  have q16 := (Q1 hp m16).1
  rw [← z0] at q0
  rw [← z1] at q1
  rw [← z16] at q16
  simp only [e2, ← z0, ← z1, ← z16, q0, q1, q16, (Q1 hp m0).2.1, (Q1 hp m1).2.1, (Q1 hp m16).2.1, (Q1 hp mS).1, (Q1 hp mS).2.1, (Q1 hp mT).1, (Q1 hp mT).2.1, and_self]
theorem cg3 {S E : Nat} (hp : (S, E) ∈ PE) (hS : S ∈ eews) (h2 : 2 * S ∈ eews) (sel F : Int32) : CG S E 3 sel F S S S := by
  intro d s1 s2 L rf re r8 rg rl
  have e2 : (2 : Int32) * nI S = nI (2 * S) := by rw [show (2 : Int32) = nI 2 by decide, pk_mul]
  have m0 : (0 : Nat) ∈ E1 := by decide
  have m1 : (1 : Nat) ∈ E1 := by decide
  have m16 : (16 : Nat) ∈ E1 := by decide
  have mS : S ∈ E1 := List.mem_cons_of_mem _ (List.mem_cons_of_mem _ hS)
  have mT : 2 * S ∈ E1 := List.mem_cons_of_mem _ (List.mem_cons_of_mem _ h2)
  have z0 : (0 : Int32) = nI 0 := by decide
  have z1 : (1 : Int32) = nI 1 := by decide
  have z16 : (16 : Int32) = nI 16 := by decide
  simp (decide := true) only [fX4_coverGroups, fX4_coverGroups__n_length, fX4_coverGroups__n_hasLeft, fX4_coverGroups__n_hasRight, fX4_coverGroups__tg_first, fX4_coverGroups__tg_eew, fX4_coverGroups__tg_registers, fX4_coverGroups__tg_full, fX4_coverGroups__lf_first, fX4_coverGroups__lf_eew, fX4_coverGroups__lf_eighths, fX4_coverGroups__lf_registers, fX4_coverGroups__lf_full, fX4_coverGroups__rt_first, fX4_coverGroups__rt_eew, fX4_coverGroups__rt_eighths, fX4_coverGroups__rt_registers, fX4_coverGroups__rt_full, fX4_cover__n_hasLeft, fX4_cover__n_hasRight, fX4_cover__tg_first, fX4_cover__tg_eew, fX4_cover__tg_registers, fX4_cover__tg_full, fX4_cover__lf_first, fX4_cover__lf_eew, fX4_cover__lf_eighths, fX4_cover__lf_registers, fX4_cover__lf_full, fX4_cover__rt_first, fX4_cover__rt_eew, fX4_cover__rt_eighths, fX4_cover__rt_registers, fX4_cover__rt_full, fX2_cover__g_first, fX2_cover__g_eew, fX2_cover__g_eighths, fX2_cover__g_full, if_true, if_false]
  have q0 := (Q1 hp m0).1
  have q1 := (Q1 hp m1).1
  have q16 := (Q1 hp m16).1
  rw [← z0] at q0
  rw [← z1] at q1
  rw [← z16] at q16
  simp only [e2, ← z0, ← z1, ← z16, q0, q1, q16, (Q1 hp m0).2.1, (Q1 hp m1).2.1, (Q1 hp m16).2.1, (Q1 hp mS).1, (Q1 hp mS).2.1, (Q1 hp mT).1, (Q1 hp mT).2.1, and_self]
theorem cg5 {S E : Nat} (hp : (S, E) ∈ PE) (hS : S ∈ eews) (h2 : 2 * S ∈ eews) (sel F : Int32) : CG S E 5 sel F S S S := by
  intro d s1 s2 L rf re r8 rg rl
  have e2 : (2 : Int32) * nI S = nI (2 * S) := by rw [show (2 : Int32) = nI 2 by decide, pk_mul]
  have m0 : (0 : Nat) ∈ E1 := by decide
  have m1 : (1 : Nat) ∈ E1 := by decide
  have m16 : (16 : Nat) ∈ E1 := by decide
  have mS : S ∈ E1 := List.mem_cons_of_mem _ (List.mem_cons_of_mem _ hS)
  have mT : 2 * S ∈ E1 := List.mem_cons_of_mem _ (List.mem_cons_of_mem _ h2)
  have z0 : (0 : Int32) = nI 0 := by decide
  have z1 : (1 : Int32) = nI 1 := by decide
  have z16 : (16 : Int32) = nI 16 := by decide
  simp (decide := true) only [fX4_coverGroups, fX4_coverGroups__n_length, fX4_coverGroups__n_hasLeft, fX4_coverGroups__n_hasRight, fX4_coverGroups__tg_first, fX4_coverGroups__tg_eew, fX4_coverGroups__tg_registers, fX4_coverGroups__tg_full, fX4_coverGroups__lf_first, fX4_coverGroups__lf_eew, fX4_coverGroups__lf_eighths, fX4_coverGroups__lf_registers, fX4_coverGroups__lf_full, fX4_coverGroups__rt_first, fX4_coverGroups__rt_eew, fX4_coverGroups__rt_eighths, fX4_coverGroups__rt_registers, fX4_coverGroups__rt_full, fX4_cover__n_hasLeft, fX4_cover__n_hasRight, fX4_cover__tg_first, fX4_cover__tg_eew, fX4_cover__tg_registers, fX4_cover__tg_full, fX4_cover__lf_first, fX4_cover__lf_eew, fX4_cover__lf_eighths, fX4_cover__lf_registers, fX4_cover__lf_full, fX4_cover__rt_first, fX4_cover__rt_eew, fX4_cover__rt_eighths, fX4_cover__rt_registers, fX4_cover__rt_full, fX2_cover__g_first, fX2_cover__g_eew, fX2_cover__g_eighths, fX2_cover__g_full, if_true, if_false]
  have q0 := (Q1 hp m0).1
  have q1 := (Q1 hp m1).1
  have q16 := (Q1 hp m16).1
  rw [← z0] at q0
  rw [← z1] at q1
  rw [← z16] at q16
  simp only [e2, ← z0, ← z1, ← z16, q0, q1, q16, (Q1 hp m0).2.1, (Q1 hp m1).2.1, (Q1 hp m16).2.1, (Q1 hp mS).1, (Q1 hp mS).2.1, (Q1 hp mT).1, (Q1 hp mT).2.1, and_self]
theorem cg19 {S E : Nat} (hp : (S, E) ∈ PE) (hS : S ∈ eews) (h2 : 2 * S ∈ eews) (sel F : Int32) : CG S E 19 sel F S S S := by
  intro d s1 s2 L rf re r8 rg rl
  have e2 : (2 : Int32) * nI S = nI (2 * S) := by rw [show (2 : Int32) = nI 2 by decide, pk_mul]
  have m0 : (0 : Nat) ∈ E1 := by decide
  have m1 : (1 : Nat) ∈ E1 := by decide
  have m16 : (16 : Nat) ∈ E1 := by decide
  have mS : S ∈ E1 := List.mem_cons_of_mem _ (List.mem_cons_of_mem _ hS)
  have mT : 2 * S ∈ E1 := List.mem_cons_of_mem _ (List.mem_cons_of_mem _ h2)
  have z0 : (0 : Int32) = nI 0 := by decide
  have z1 : (1 : Int32) = nI 1 := by decide
  have z16 : (16 : Int32) = nI 16 := by decide
  simp (decide := true) only [fX4_coverGroups, fX4_coverGroups__n_length, fX4_coverGroups__n_hasLeft, fX4_coverGroups__n_hasRight, fX4_coverGroups__tg_first, fX4_coverGroups__tg_eew, fX4_coverGroups__tg_registers, fX4_coverGroups__tg_full, fX4_coverGroups__lf_first, fX4_coverGroups__lf_eew, fX4_coverGroups__lf_eighths, fX4_coverGroups__lf_registers, fX4_coverGroups__lf_full, fX4_coverGroups__rt_first, fX4_coverGroups__rt_eew, fX4_coverGroups__rt_eighths, fX4_coverGroups__rt_registers, fX4_coverGroups__rt_full, fX4_cover__n_hasLeft, fX4_cover__n_hasRight, fX4_cover__tg_first, fX4_cover__tg_eew, fX4_cover__tg_registers, fX4_cover__tg_full, fX4_cover__lf_first, fX4_cover__lf_eew, fX4_cover__lf_eighths, fX4_cover__lf_registers, fX4_cover__lf_full, fX4_cover__rt_first, fX4_cover__rt_eew, fX4_cover__rt_eighths, fX4_cover__rt_registers, fX4_cover__rt_full, fX2_cover__g_first, fX2_cover__g_eew, fX2_cover__g_eighths, fX2_cover__g_full, if_true, if_false]
  have q0 := (Q1 hp m0).1
  have q1 := (Q1 hp m1).1
  have q16 := (Q1 hp m16).1
  rw [← z0] at q0
  rw [← z1] at q1
  rw [← z16] at q16
  simp only [e2, ← z0, ← z1, ← z16, q0, q1, q16, (Q1 hp m0).2.1, (Q1 hp m1).2.1, (Q1 hp m16).2.1, (Q1 hp mS).1, (Q1 hp mS).2.1, (Q1 hp mT).1, (Q1 hp mT).2.1, and_self]
theorem cg20 {S E : Nat} (hp : (S, E) ∈ PE) (hS : S ∈ eews) (h2 : 2 * S ∈ eews) (sel F : Int32) : CG S E 20 sel F S S S := by
  intro d s1 s2 L rf re r8 rg rl
  have e2 : (2 : Int32) * nI S = nI (2 * S) := by rw [show (2 : Int32) = nI 2 by decide, pk_mul]
  have m0 : (0 : Nat) ∈ E1 := by decide
  have m1 : (1 : Nat) ∈ E1 := by decide
  have m16 : (16 : Nat) ∈ E1 := by decide
  have mS : S ∈ E1 := List.mem_cons_of_mem _ (List.mem_cons_of_mem _ hS)
  have mT : 2 * S ∈ E1 := List.mem_cons_of_mem _ (List.mem_cons_of_mem _ h2)
  have z0 : (0 : Int32) = nI 0 := by decide
  have z1 : (1 : Int32) = nI 1 := by decide
  have z16 : (16 : Int32) = nI 16 := by decide
  simp (decide := true) only [fX4_coverGroups, fX4_coverGroups__n_length, fX4_coverGroups__n_hasLeft, fX4_coverGroups__n_hasRight, fX4_coverGroups__tg_first, fX4_coverGroups__tg_eew, fX4_coverGroups__tg_registers, fX4_coverGroups__tg_full, fX4_coverGroups__lf_first, fX4_coverGroups__lf_eew, fX4_coverGroups__lf_eighths, fX4_coverGroups__lf_registers, fX4_coverGroups__lf_full, fX4_coverGroups__rt_first, fX4_coverGroups__rt_eew, fX4_coverGroups__rt_eighths, fX4_coverGroups__rt_registers, fX4_coverGroups__rt_full, fX4_cover__n_hasLeft, fX4_cover__n_hasRight, fX4_cover__tg_first, fX4_cover__tg_eew, fX4_cover__tg_registers, fX4_cover__tg_full, fX4_cover__lf_first, fX4_cover__lf_eew, fX4_cover__lf_eighths, fX4_cover__lf_registers, fX4_cover__lf_full, fX4_cover__rt_first, fX4_cover__rt_eew, fX4_cover__rt_eighths, fX4_cover__rt_registers, fX4_cover__rt_full, fX2_cover__g_first, fX2_cover__g_eew, fX2_cover__g_eighths, fX2_cover__g_full, if_true, if_false]
  have q0 := (Q1 hp m0).1
  have q1 := (Q1 hp m1).1
  have q16 := (Q1 hp m16).1
  rw [← z0] at q0
  rw [← z1] at q1
  rw [← z16] at q16
  simp only [e2, ← z0, ← z1, ← z16, q0, q1, q16, (Q1 hp m0).2.1, (Q1 hp m1).2.1, (Q1 hp m16).2.1, (Q1 hp mS).1, (Q1 hp mS).2.1, (Q1 hp mT).1, (Q1 hp mT).2.1, and_self]
theorem cg21 {S E : Nat} (hp : (S, E) ∈ PE) (hS : S ∈ eews) (h2 : 2 * S ∈ eews) (sel F : Int32) : CG S E 21 sel F S S S := by
  intro d s1 s2 L rf re r8 rg rl
  have e2 : (2 : Int32) * nI S = nI (2 * S) := by rw [show (2 : Int32) = nI 2 by decide, pk_mul]
  have m0 : (0 : Nat) ∈ E1 := by decide
  have m1 : (1 : Nat) ∈ E1 := by decide
  have m16 : (16 : Nat) ∈ E1 := by decide
  have mS : S ∈ E1 := List.mem_cons_of_mem _ (List.mem_cons_of_mem _ hS)
  have mT : 2 * S ∈ E1 := List.mem_cons_of_mem _ (List.mem_cons_of_mem _ h2)
  have z0 : (0 : Int32) = nI 0 := by decide
  have z1 : (1 : Int32) = nI 1 := by decide
  have z16 : (16 : Int32) = nI 16 := by decide
  simp (decide := true) only [fX4_coverGroups, fX4_coverGroups__n_length, fX4_coverGroups__n_hasLeft, fX4_coverGroups__n_hasRight, fX4_coverGroups__tg_first, fX4_coverGroups__tg_eew, fX4_coverGroups__tg_registers, fX4_coverGroups__tg_full, fX4_coverGroups__lf_first, fX4_coverGroups__lf_eew, fX4_coverGroups__lf_eighths, fX4_coverGroups__lf_registers, fX4_coverGroups__lf_full, fX4_coverGroups__rt_first, fX4_coverGroups__rt_eew, fX4_coverGroups__rt_eighths, fX4_coverGroups__rt_registers, fX4_coverGroups__rt_full, fX4_cover__n_hasLeft, fX4_cover__n_hasRight, fX4_cover__tg_first, fX4_cover__tg_eew, fX4_cover__tg_registers, fX4_cover__tg_full, fX4_cover__lf_first, fX4_cover__lf_eew, fX4_cover__lf_eighths, fX4_cover__lf_registers, fX4_cover__lf_full, fX4_cover__rt_first, fX4_cover__rt_eew, fX4_cover__rt_eighths, fX4_cover__rt_registers, fX4_cover__rt_full, fX2_cover__g_first, fX2_cover__g_eew, fX2_cover__g_eighths, fX2_cover__g_full, if_true, if_false]
  have q0 := (Q1 hp m0).1
  have q1 := (Q1 hp m1).1
  have q16 := (Q1 hp m16).1
  rw [← z0] at q0
  rw [← z1] at q1
  rw [← z16] at q16
  simp only [e2, ← z0, ← z1, ← z16, q0, q1, q16, (Q1 hp m0).2.1, (Q1 hp m1).2.1, (Q1 hp m16).2.1, (Q1 hp mS).1, (Q1 hp mS).2.1, (Q1 hp mT).1, (Q1 hp mT).2.1, and_self]
theorem cg22 {S E : Nat} (hp : (S, E) ∈ PE) (hS : S ∈ eews) (h2 : 2 * S ∈ eews) (sel F : Int32) : CG S E 22 sel F S S S := by
  intro d s1 s2 L rf re r8 rg rl
  have e2 : (2 : Int32) * nI S = nI (2 * S) := by rw [show (2 : Int32) = nI 2 by decide, pk_mul]
  have m0 : (0 : Nat) ∈ E1 := by decide
  have m1 : (1 : Nat) ∈ E1 := by decide
  have m16 : (16 : Nat) ∈ E1 := by decide
  have mS : S ∈ E1 := List.mem_cons_of_mem _ (List.mem_cons_of_mem _ hS)
  have mT : 2 * S ∈ E1 := List.mem_cons_of_mem _ (List.mem_cons_of_mem _ h2)
  have z0 : (0 : Int32) = nI 0 := by decide
  have z1 : (1 : Int32) = nI 1 := by decide
  have z16 : (16 : Int32) = nI 16 := by decide
  simp (decide := true) only [fX4_coverGroups, fX4_coverGroups__n_length, fX4_coverGroups__n_hasLeft, fX4_coverGroups__n_hasRight, fX4_coverGroups__tg_first, fX4_coverGroups__tg_eew, fX4_coverGroups__tg_registers, fX4_coverGroups__tg_full, fX4_coverGroups__lf_first, fX4_coverGroups__lf_eew, fX4_coverGroups__lf_eighths, fX4_coverGroups__lf_registers, fX4_coverGroups__lf_full, fX4_coverGroups__rt_first, fX4_coverGroups__rt_eew, fX4_coverGroups__rt_eighths, fX4_coverGroups__rt_registers, fX4_coverGroups__rt_full, fX4_cover__n_hasLeft, fX4_cover__n_hasRight, fX4_cover__tg_first, fX4_cover__tg_eew, fX4_cover__tg_registers, fX4_cover__tg_full, fX4_cover__lf_first, fX4_cover__lf_eew, fX4_cover__lf_eighths, fX4_cover__lf_registers, fX4_cover__lf_full, fX4_cover__rt_first, fX4_cover__rt_eew, fX4_cover__rt_eighths, fX4_cover__rt_registers, fX4_cover__rt_full, fX2_cover__g_first, fX2_cover__g_eew, fX2_cover__g_eighths, fX2_cover__g_full, if_true, if_false]
  have q0 := (Q1 hp m0).1
  have q1 := (Q1 hp m1).1
  have q16 := (Q1 hp m16).1
  rw [← z0] at q0
  rw [← z1] at q1
  rw [← z16] at q16
  simp only [e2, ← z0, ← z1, ← z16, q0, q1, q16, (Q1 hp m0).2.1, (Q1 hp m1).2.1, (Q1 hp m16).2.1, (Q1 hp mS).1, (Q1 hp mS).2.1, (Q1 hp mT).1, (Q1 hp mT).2.1, and_self]
theorem cg23 {S E : Nat} (hp : (S, E) ∈ PE) (hS : S ∈ eews) (h2 : 2 * S ∈ eews) (sel F : Int32) : CG S E 23 sel F S S S := by
  intro d s1 s2 L rf re r8 rg rl
  have e2 : (2 : Int32) * nI S = nI (2 * S) := by rw [show (2 : Int32) = nI 2 by decide, pk_mul]
  have m0 : (0 : Nat) ∈ E1 := by decide
  have m1 : (1 : Nat) ∈ E1 := by decide
  have m16 : (16 : Nat) ∈ E1 := by decide
  have mS : S ∈ E1 := List.mem_cons_of_mem _ (List.mem_cons_of_mem _ hS)
  have mT : 2 * S ∈ E1 := List.mem_cons_of_mem _ (List.mem_cons_of_mem _ h2)
  have z0 : (0 : Int32) = nI 0 := by decide
  have z1 : (1 : Int32) = nI 1 := by decide
  have z16 : (16 : Int32) = nI 16 := by decide
  simp (decide := true) only [fX4_coverGroups, fX4_coverGroups__n_length, fX4_coverGroups__n_hasLeft, fX4_coverGroups__n_hasRight, fX4_coverGroups__tg_first, fX4_coverGroups__tg_eew, fX4_coverGroups__tg_registers, fX4_coverGroups__tg_full, fX4_coverGroups__lf_first, fX4_coverGroups__lf_eew, fX4_coverGroups__lf_eighths, fX4_coverGroups__lf_registers, fX4_coverGroups__lf_full, fX4_coverGroups__rt_first, fX4_coverGroups__rt_eew, fX4_coverGroups__rt_eighths, fX4_coverGroups__rt_registers, fX4_coverGroups__rt_full, fX4_cover__n_hasLeft, fX4_cover__n_hasRight, fX4_cover__tg_first, fX4_cover__tg_eew, fX4_cover__tg_registers, fX4_cover__tg_full, fX4_cover__lf_first, fX4_cover__lf_eew, fX4_cover__lf_eighths, fX4_cover__lf_registers, fX4_cover__lf_full, fX4_cover__rt_first, fX4_cover__rt_eew, fX4_cover__rt_eighths, fX4_cover__rt_registers, fX4_cover__rt_full, fX2_cover__g_first, fX2_cover__g_eew, fX2_cover__g_eighths, fX2_cover__g_full, if_true, if_false]
  have q0 := (Q1 hp m0).1
  have q1 := (Q1 hp m1).1
  have q16 := (Q1 hp m16).1
  rw [← z0] at q0
  rw [← z1] at q1
  rw [← z16] at q16
  simp only [e2, ← z0, ← z1, ← z16, q0, q1, q16, (Q1 hp m0).2.1, (Q1 hp m1).2.1, (Q1 hp m16).2.1, (Q1 hp mS).1, (Q1 hp mS).2.1, (Q1 hp mT).1, (Q1 hp mT).2.1, and_self]
