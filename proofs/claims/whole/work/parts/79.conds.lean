/-! ===== the reference's conditions ===== -/
theorem eE1 {e : Nat} (h : e ∈ eews) : e ∈ E1 := List.mem_cons_of_mem _ (List.mem_cons_of_mem _ h)
theorem e_ne1 {e : Nat} (h : e ∈ eews) : ¬ e = 1 ∧ ¬ e = 0 := by
  have : ∀ e ∈ eews, ¬ e = 1 ∧ ¬ e = 0 := by decide
  exact this e h
theorem gn_e {S E e : Nat} (h : e ∈ eews) : gn S E e = gN S E e ∧ gq S E e = gE S E e ∧ ∀ r, lgq S E e r = legalG S E e r := by
  have h1 := (e_ne1 h).1
  unfold gn gq lgq
  simp only [if_neg h1]
  exact ⟨trivial, trivial, fun _ => trivial⟩
theorem gn_1 (S E : Nat) : gn S E 1 = 1 ∧ gq S E 1 = 8 ∧ ∀ r, lgq S E 1 r = true := ⟨rfl, rfl, fun _ => rfl⟩
def okM (S E dw d e s : Nat) : Prop := legalG S E e s = true ∧ ¬ fX2_mayOverwrite (nI d) (nI dw) (nI (gN S E dw)) (nI s) (nI e) (nI (gE S E e)) (nI (gN S E e)) = 0
theorem neg1 : (-1 : Int32) < 0 := by decide
theorem nI_nneg {a : Nat} (h : a < 32) : ¬ nI a < 0 := by
  have : ∀ a, a < 32 → ¬ nI a < 0 := by decide +kernel
  exact this a h
theorem legal_iff {S E e r : Nat} (hp : (S, E) ∈ PE) (he : e ∈ eews) (hr : r < 32) : ¬ fX11_isGroup (nI S) (nI E) (nI r) (nI e) = 0 ↔ legalG S E e r = true := by
  rw [(G2 hp he hr).2]; exact tF
theorem part_iff {S E dw d e s : Nat} (hp : (S, E) ∈ PE) (hdw : dw ∈ eews) (he : e ∈ eews) (hs : s < 32) : ¬ (if fX11_isGroup (nI S) (nI E) (nI s) (nI e) = 0 then (0 : Int32) else (if fX11_may (nI d) (nI dw) (fX11_emul (nI S) (nI E) (nI dw)) (nI s) (nI e) (fX11_emul (nI S) (nI E) (nI e)) = 0 then 0 else 1)) = 0 ↔ okM S E dw d e s := by
  obtain ⟨a1, a2, a3, a4, _⟩ := G1 hp hdw
  obtain ⟨b1, b2, b3, b4, _⟩ := G1 hp he
  rw [a2, b2, may_same a4 b4]
  unfold okM
  rw [← legal_iff hp he hs]
  by_cases q : fX11_isGroup (nI S) (nI E) (nI s) (nI e) = 0
  · rw [if_pos q]; exact ⟨fun w => absurd rfl w, fun w => absurd q w.1⟩
  · rw [if_neg q]
    by_cases m : fX2_mayOverwrite (nI d) (nI dw) (nI (gN S E dw)) (nI s) (nI e) (nI (gE S E e)) (nI (gN S E e)) = 0
    · rw [if_pos m]; exact ⟨fun w => absurd rfl w, fun w => absurd m w.2⟩
    · rw [if_neg m]; exact ⟨fun _ => ⟨q, m⟩, fun _ => by decide⟩
theorem mayBe_iff {S E dw d aw a bw b : Nat} (hp : (S, E) ∈ PE) (hdw : dw ∈ eews) (haw : aw ∈ eews) (hbw : bw ∈ eews) (hd : d < 32) (ha : a < 32) (hb : b < 32) {A B un : Int32} (hA : A = nI a ∨ A = -1) (hB : B = nI b ∨ B = -1) : ¬ fX11_mayBe (nI d) (nI S) (nI E) un (nI dw) A (nI aw) B (nI bw) = 0 ↔ (legalG S E dw d = true ∧ ¬ fX11_mayMask un (nI d) = 0 ∧ (A = nI a → okM S E dw d aw a) ∧ (B = nI b → okM S E dw d bw b)) := by
  have sA : ¬ pX11_mayBe_66_S1 (nI d) (nI S) (nI E) (nI dw) A (nI aw) = 0 ↔ (A = nI a → okM S E dw d aw a) := by
    unfold pX11_mayBe_66_S1
    rcases hA with h | h
    · rw [h, if_neg (nI_nneg ha), part_iff hp hdw haw ha]; exact ⟨fun w _ => w, fun w => w rfl⟩
    · rw [h, if_pos neg1]; exact ⟨fun _ w => absurd (w ▸ neg1) (nI_nneg ha), fun _ => by decide⟩
  have sB : ¬ (if B < 0 then (1 : Int32) else (if fX11_isGroup (nI S) (nI E) B (nI bw) = 0 then (0 : Int32) else (if fX11_may (nI d) (nI dw) (fX11_emul (nI S) (nI E) (nI dw)) B (nI bw) (fX11_emul (nI S) (nI E) (nI bw)) = 0 then 0 else 1))) = 0 ↔ (B = nI b → okM S E dw d bw b) := by
    rcases hB with h | h
    · rw [h, if_neg (nI_nneg hb), part_iff hp hdw hbw hb]; exact ⟨fun w _ => w, fun w => w rfl⟩
    · rw [h, if_pos neg1]; exact ⟨fun _ w => absurd (w ▸ neg1) (nI_nneg hb), fun _ => by decide⟩
  unfold fX11_mayBe pX11_mayBe_120_S1
  rw [← sA, ← sB, ← legal_iff hp hdw hd]
  by_cases q1 : fX11_isGroup (nI S) (nI E) (nI d) (nI dw) = 0
  · rw [if_pos q1]; exact ⟨fun w => absurd rfl w, fun w => absurd q1 w.1⟩
  · rw [if_neg q1]
    by_cases q2 : fX11_mayMask un (nI d) = 0
    · rw [if_pos q2]; exact ⟨fun w => absurd rfl w, fun w => absurd q2 w.2.1⟩
    · rw [if_neg q2]
      by_cases q3 : pX11_mayBe_66_S1 (nI d) (nI S) (nI E) (nI dw) A (nI aw) = 0
      · rw [if_pos q3]; exact ⟨fun w => absurd rfl w, fun w => absurd q3 w.2.2.1⟩
      · rw [if_neg q3]; exact ⟨fun w => ⟨q1, q2, q3, w⟩, fun w => w.2.2.2⟩
theorem mask_iff {d : Nat} (hd : d < 32) {im un : Int32} (hmu : im = 0 ↔ ¬ un = 0) : ¬ fX11_mayMask un (nI d) = 0 ↔ (im = 0 ∨ ¬ d = 0) := by
  unfold fX11_mayMask pX11_mayMask_16_S1
  by_cases u0 : un = 0
  · have hi : ¬ im = 0 := fun w => hmu.mp w u0
    rw [if_pos u0]
    by_cases d0 : d = 0
    · rw [if_pos (by rw [d0]; decide)]; exact ⟨fun w => absurd rfl w, fun w => by rcases w with h | h; exact absurd h hi; exact absurd d0 h⟩
    · rw [if_neg (nI_ne0 (by omega) (by omega))]; exact ⟨fun _ => Or.inr d0, fun _ => by decide⟩
  · rw [if_neg u0]; exact ⟨fun _ => Or.inl (hmu.mpr u0), fun _ => by decide⟩
theorem okS_M {S E dw d e s : Nat} {k : Int32} (hap : fX4_staysApart k = 0) (hdw : dw ∈ eews) (he : e ∈ eews) : okS S E k dw d e s ↔ okM S E dw d e s := by
  unfold okS okM mtC
  rw [if_pos hap, (gn_e hdw).1, (gn_e he).1, (gn_e he).2.1, (gn_e he).2.2]
/-- the common condition -/
theorem cond_A {S E dw d lw s2 rw s1 aw bw : Nat} (hp : (S, E) ∈ PE) (hdw : dw ∈ eews) (haw : aw ∈ eews) (hbw : bw ∈ eews) (hd : d < 32) (h1 : s1 < 32) (h2 : s2 < 32) {k F im un A B : Int32} (hap : fX4_staysApart k = 0) (hk2 : ¬ k = 2) (hk4 : ¬ k = 4) (hmu : im = 0 ↔ ¬ un = 0)
    (hA : (A = nI s2 ∧ lw = aw) ∨ (A = -1 ∧ lw = 0)) (hB : (B = nI s1 ∧ ¬ pX4_cover_31_S2 F (nI rw) = 0 ∧ rw = bw) ∨ (B = -1 ∧ pX4_cover_31_S2 F (nI rw) = 0)) :
    okC S E k F im d dw s2 lw s1 rw ↔ ¬ fX11_mayBe (nI d) (nI S) (nI E) un (nI dw) A (nI aw) B (nI bw) = 0 := by
  rw [mayBe_iff hp hdw haw hbw hd h2 h1 (by rcases hA with h | h; exact Or.inl h.1; exact Or.inr h.1) (by rcases hB with h | h; exact Or.inl h.1; exact Or.inr h.1), mask_iff hd hmu]
  unfold okC
  rw [(gn_e hdw).2.2]
  have m1 : (im = 0 ∨ ¬ d = 0 ∨ k = 2 ∨ k = 4) ↔ (im = 0 ∨ ¬ d = 0) := by
    constructor
    · rintro (h | h | h | h)
      · exact Or.inl h
      · exact Or.inr h
      · exact absurd h hk2
      · exact absurd h hk4
    · rintro (h | h)
      · exact Or.inl h
      · exact Or.inr (Or.inl h)
  have m2 : (¬ lw = 0 → okS S E k dw d lw s2) ↔ (A = nI s2 → okM S E dw d aw s2) := by
    rcases hA with ⟨h, e⟩ | ⟨h, e⟩
    · subst e
      rw [okS_M hap hdw haw]
      exact ⟨fun w _ => w (e_ne1 haw).2, fun w _ => w h⟩
    · rw [e, h]; exact ⟨fun _ w => absurd (w ▸ neg1) (nI_nneg h2), fun _ w => absurd rfl w⟩
  have m3 : (¬ pX4_cover_31_S2 F (nI rw) = 0 → okS S E k dw d rw s1) ↔ (B = nI s1 → okM S E dw d bw s1) := by
    rcases hB with ⟨h, e, e2⟩ | ⟨h, e⟩
    · subst e2
      rw [okS_M hap hdw hbw]
      exact ⟨fun w _ => w e, fun w _ => w h⟩
    · rw [h]; exact ⟨fun _ w => absurd (w ▸ neg1) (nI_nneg h1), fun _ w => absurd e w⟩
  rw [m1, m2, m3]
theorem sec_B {F : Int32} {s1 rw : Nat} (hrw : rw ∈ eews) : (fX11_second (nI s1) F = nI s1 ∧ ¬ pX4_cover_31_S2 F (nI rw) = 0 ∧ rw = rw) ∨ (fX11_second (nI s1) F = -1 ∧ pX4_cover_31_S2 F (nI rw) = 0) := by
  have hz : ¬ nI rw = 0 := fun w => (e_ne1 hrw).2 ((E1.z (eE1 hrw)).mp w)
  have e : fX11_isV F = fX3_takesVector F := rfl
  unfold fX11_second pX11_second_15_S1 pX4_cover_31_S2
  rw [if_neg hz, e]
  by_cases q : fX3_takesVector F = 0
  · rw [if_pos q, if_pos q]; exact Or.inr ⟨rfl, rfl⟩
  · rw [if_neg q, if_neg q]; exact Or.inl ⟨rfl, by decide, rfl⟩
theorem hr_eq {F : Int32} {rw : Nat} (hrw : rw ∈ E1) (h0 : ¬ rw = 0) : pX4_cover_31_S2 F (nI rw) = fX3_takesVector F := by
  unfold pX4_cover_31_S2
  rw [if_neg (fun w => h0 ((E1.z hrw).mp w))]
  unfold fX3_takesVector pX3_takesVector_20_S1
  by_cases a : F = 0
  · rw [if_pos a]; decide
  · rw [if_neg a]
    by_cases b : F = 2
    · rw [if_pos b]; decide
    · rw [if_neg b]; decide
/-- masks as targets -/
theorem cond_M {S E d s2 s1 : Nat} (hp : (S, E) ∈ PE) (hSe : S ∈ eews) (h1 : s1 < 32) (h2 : s2 < 32) {k F im : Int32} (hk : k = 2 ∨ k = 4) :
    okC S E k F im d 1 s2 S s1 S ↔ ¬ fX11_mayBeMask (nI d) (nI S) (nI E) (nI s2) (nI S) (fX11_second (nI s1) F) (nI S) = 0 := by
  have hap : fX4_staysApart k = 0 := by rcases hk with h | h <;> rw [h] <;> decide
  obtain ⟨b1, b2, b3, b4, _⟩ := G1 hp hSe
  have hreg8 : fX11_registers (8 : Int32) = nI 1 := by decide
  have pt : ∀ s, s < 32 → (¬ (if fX11_isGroup (nI S) (nI E) (nI s) (nI S) = 0 then (0 : Int32) else (if fX11_may (nI d) 1 8 (nI s) (nI S) (fX11_emul (nI S) (nI E) (nI S)) = 0 then 0 else 1)) = 0 ↔ okS S E k 1 d S s) := by
    intro s hs
    rw [b2, may_same hreg8 b4]
    unfold okS mtC
    rw [if_pos hap, (gn_1 S E).1, (gn_e hSe).1, (gn_e hSe).2.1, (gn_e hSe).2.2, ← legal_iff hp hSe hs]
    rw [show (1 : Int32) = nI 1 by decide]
    by_cases q : fX11_isGroup (nI S) (nI E) (nI s) (nI S) = 0
    · rw [if_pos q]; exact ⟨fun w => absurd rfl w, fun w => absurd q w.1⟩
    · rw [if_neg q]
      by_cases m : fX2_mayOverwrite (nI d) (nI 1) (nI 1) (nI s) (nI S) (nI (gE S E S)) (nI (gN S E S)) = 0
      · rw [if_pos m]; exact ⟨fun w => absurd rfl w, fun w => absurd m w.2⟩
      · rw [if_neg m]; exact ⟨fun _ => ⟨q, m⟩, fun _ => by decide⟩
  have sA : ¬ pX11_mayBeMask_34_S1 (nI d) (nI S) (nI E) (nI s2) (nI S) = 0 ↔ okS S E k 1 d S s2 := pt s2 h2
  have sB : ¬ (if fX11_second (nI s1) F < 0 then (1 : Int32) else (if fX11_isGroup (nI S) (nI E) (fX11_second (nI s1) F) (nI S) = 0 then (0 : Int32) else (if fX11_may (nI d) 1 8 (fX11_second (nI s1) F) (nI S) (fX11_emul (nI S) (nI E) (nI S)) = 0 then 0 else 1))) = 0 ↔ (¬ pX4_cover_31_S2 F (nI S) = 0 → okS S E k 1 d S s1) := by
    rcases sec_B (F := F) (s1 := s1) hSe with ⟨h, e, _⟩ | ⟨h, e⟩
    · rw [h, if_neg (nI_nneg h1), pt s1 h1]; exact ⟨fun w _ => w, fun w => w e⟩
    · rw [h, if_pos neg1]; exact ⟨fun _ w => absurd e w, fun _ => by decide⟩
  unfold fX11_mayBeMask pX11_mayBeMask_82_S1 okC
  rw [← sB, (gn_1 S E).2.2]
  by_cases q : pX11_mayBeMask_34_S1 (nI d) (nI S) (nI E) (nI s2) (nI S) = 0
  · rw [if_pos q]; exact ⟨fun w => absurd q (sA.mpr (w.2.2.1 (e_ne1 hSe).2)), fun w => absurd rfl w⟩
  · rw [if_neg q]
    exact ⟨fun w => w.2.2.2, fun w => ⟨rfl, by rcases hk with h | h; exact Or.inr (Or.inr (Or.inl h)); exact Or.inr (Or.inr (Or.inr h)), fun _ => sA.mp q, w⟩⟩
