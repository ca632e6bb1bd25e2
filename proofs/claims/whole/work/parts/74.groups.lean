/-! ===== which groups are legal, which overlaps ===== -/
def PE : List (Nat × Nat) := [(8, 2), (8, 4), (8, 8), (8, 16), (8, 32), (8, 64), (16, 4), (16, 8), (16, 16), (16, 32), (16, 64), (32, 8), (32, 16), (32, 32), (32, 64)]
theorem ty_PE : ∀ v, v < 256 → legalT v = true → (tyS v, tyE v) ∈ PE := by decide +kernel
def gE (S E e : Nat) : Nat := E * e / S
def gN (S E e : Nat) : Nat := if 8 < gE S E e then gE S E e / 8 else 1
def okW (e : Nat) : Bool := decide (e = 8) || decide (e = 16) || decide (e = 32)
def legalG (S E e r : Nat) : Bool := okW e && decide (1 ≤ gE S E e) && decide (gE S E e ≤ 64) && decide (r % gN S E e = 0)
def eews : List Nat := [2, 4, 8, 16, 32, 64]
theorem g_1 : ∀ p ∈ PE, ∀ e ∈ eews, fX9_eighthsFor (nI p.1) (nI p.2) (nI e) = nI (gE p.1 p.2 e) ∧ fX11_emul (nI p.1) (nI p.2) (nI e) = nI (gE p.1 p.2 e) ∧ fX2_cover__g_registers (nI (gE p.1 p.2 e)) = nI (gN p.1 p.2 e) ∧ fX11_registers (nI (gE p.1 p.2 e)) = nI (gN p.1 p.2 e) ∧ (gN p.1 p.2 e = 1 ∨ gN p.1 p.2 e = 2 ∨ gN p.1 p.2 e = 4 ∨ gN p.1 p.2 e = 8 ∨ ¬ gE p.1 p.2 e ≤ 64) ∧ 16 * gE p.1 p.2 e ≤ gN p.1 p.2 e * 128 ∧ gE p.1 p.2 e < 1000 := by decide +kernel
theorem g_2 : ∀ p ∈ PE, ∀ e ∈ eews, ∀ r, r < 32 → fX2_isLegal (nI r) (nI e) (nI (gE p.1 p.2 e)) (nI (gN p.1 p.2 e)) = (if legalG p.1 p.2 e r = true then 1 else 0) ∧ fX11_isGroup (nI p.1) (nI p.2) (nI r) (nI e) = (if legalG p.1 p.2 e r = true then 1 else 0) := by decide +kernel
theorem g_3 : ∀ p ∈ PE, ∀ e ∈ eews, ∀ r, r < 32 → legalG p.1 p.2 e r = true → r + gN p.1 p.2 e ≤ 32 ∧ okW e = true ∧ 16 * p.2 / p.1 * e ≤ gN p.1 p.2 e * 128 ∧ gN p.1 p.2 e ≤ 8 ∧ 1 ≤ gN p.1 p.2 e ∧ r % gN p.1 p.2 e = 0 := by decide +kernel
/-- widths that differ -/
theorem g_4 : ∀ p ∈ PE, ∀ e ∈ eews, ∀ f ∈ eews, f < e → 8 ≤ gE p.1 p.2 f → gE p.1 p.2 e ≤ 64 → ((e = 2 * f ∧ gN p.1 p.2 e = 2 * gN p.1 p.2 f) ∨ (e = 4 * f ∧ gN p.1 p.2 e = 4 * gN p.1 p.2 f) ∨ (e = 8 * f ∧ gN p.1 p.2 e = 8 * gN p.1 p.2 f) ∨ 16 ≤ e / f) := by decide +kernel
theorem okW.B {e : Nat} (h : okW e = true) : okB e := by
  unfold okW at h
  simp only [Bool.or_eq_true, decide_eq_true_eq, or_assoc] at h
  exact h
theorem g_0 {S E e : Nat} (hp : (S, E) ∈ PE) (he : e ∈ eews) : ¬ nI S = 0 ∧ (∀ r, okX11_isGroup (nI S) (nI E) (nI e) ∧ (r = 0 → True)) := by
  have hS : ∀ p ∈ PE, ¬ nI p.1 = 0 := by decide +kernel
  have hR : ∀ p ∈ PE, ∀ e ∈ eews, ¬ fX11_registers (fX11_emul (nI p.1) (nI p.2) (nI e)) = 0 := by decide +kernel
  exact ⟨hS _ hp, fun r => ⟨⟨fun _ => hS _ hp, fun _ _ _ => hS _ hp, fun _ _ _ _ => hR _ hp _ he⟩, fun _ => True.intro⟩⟩
/-- how a source may lie under a target -/
def ovl (d dw gd s sw gs : Nat) : Prop := (d + gd ≤ s ∨ s + gs ≤ d) ∨ (dw = sw ∧ gd = gs ∧ d = s) ∨ (dw < sw ∧ d = s) ∨ (∃ k, 2 ≤ k ∧ dw = k * sw ∧ gd = k * gs ∧ d + gd = s + gs)
theorem ovl.pos {d dw gd s sw gs st i : Nat} (h : ovl d dw gd s sw gs) (hd : i * dw + dw ≤ gd * 128) (hs : i * sw + sw ≤ gs * 128) : s * 128 + i * sw + sw ≤ d * 128 + st * dw ∨ d * 128 + i * dw ≤ s * 128 + i * sw := by
  rcases h with (h | h) | ⟨h1, h2, h3⟩ | ⟨h1, h2⟩ | ⟨k, hk, h1, h2, h3⟩
  · right; omega
  · left; omega
  · subst h1; subst h3; right; omega
  · right
    have : i * dw ≤ i * sw := Nat.mul_le_mul_left _ (by omega)
    omega
  · right
    subst h1; subst h2
    obtain ⟨m, rfl⟩ : ∃ m, k = m + 1 := ⟨k - 1, by omega⟩
    have e1 : i * ((m + 1) * sw) = m * (i * sw) + i * sw := by rw [Nat.add_mul, Nat.one_mul, Nat.mul_add, Nat.mul_left_comm]
    have e2 : (m + 1) * gs = m * gs + gs := by rw [Nat.add_mul, Nat.one_mul]
    have e3 : m * (i * sw) ≤ m * (gs * 128) := Nat.mul_le_mul_left _ (by omega)
    have e4 : m * (gs * 128) = m * gs * 128 := by rw [Nat.mul_assoc]
    rw [e1]
    rw [e2] at h3
    omega
theorem ovl.gp {d w g s : Nat} (h : ovl d w g s w g) (hg : 1 ≤ g) : gp s d g := by
  rcases h with (h | h) | ⟨h1, h2, h3⟩ | ⟨h1, h2⟩ | ⟨k, hk, h1, h2, h3⟩
  · exact Or.inr (Or.inl h)
  · exact Or.inr (Or.inr h)
  · exact Or.inl h3.symm
  · exact Or.inl h2.symm
  · exact Or.inl (by omega)
theorem ovl.gm {d s sw gs : Nat} (h : ovl d 1 1 s sw gs) (hw : 8 ≤ sw) : gm s d gs := by
  rcases h with (h | h) | ⟨h1, h2, h3⟩ | ⟨h1, h2⟩ | ⟨k, hk, h1, h2, h3⟩
  · exact Or.inr (Or.inl h)
  · exact Or.inr (Or.inr h)
  · omega
  · exact Or.inl h2.symm
  · exfalso
    have : 2 * sw ≤ k * sw := Nat.mul_le_mul_right _ hk
    omega
theorem meets_iff {a an b bn : Nat} (ha : a + an < 2 ^ 31) (hb : b + bn < 2 ^ 31) : fX2_meets (nI a) (nI an) (nI b) (nI bn) = 0 ↔ (b + bn ≤ a ∨ a + an ≤ b) := by
  unfold fX2_meets pX2_meets_37_S1
  rw [nI_add, nI_add]
  by_cases q1 : b + bn ≤ a
  · rw [if_pos (nI_le q1 (by omega))]; exact ⟨fun _ => Or.inl q1, fun _ => rfl⟩
  · rw [if_neg (nI_ge (by omega) (by omega))]
    by_cases q2 : a + an ≤ b
    · rw [if_pos (nI_le q2 (by omega))]; exact ⟨fun _ => Or.inr q2, fun _ => rfl⟩
    · rw [if_neg (nI_ge (by omega) (by omega))]
      exact ⟨fun w => absurd w (by decide), fun w => absurd w (by omega)⟩
theorem meet_same (a an b bn : Int32) : fX11_meet a an b bn = fX2_meets a an b bn := rfl
/-- the class's rule and the reference's are one -/
theorem may_same {d dw s sw : Int32} {d8 s8 gd gs : Int32} (h1 : fX11_registers d8 = gd) (h2 : fX11_registers s8 = gs) : fX11_may d dw d8 s sw s8 = fX2_mayOverwrite d dw gd s sw s8 gs := by
  unfold fX11_may fX2_mayOverwrite
  rw [h1, h2, meet_same]
  have e : pX11_may_73_S1 d d8 s s8 = pX2_mayOverwrite_84_S1 d gd s s8 gs := by
    unfold pX11_may_73_S1 pX2_mayOverwrite_84_S1
    rw [h1, h2]
    by_cases q : s8 < 8
    · rw [if_pos q, if_pos q]
    · rw [if_neg q, if_neg q]
      by_cases q2 : s + gs = d + gd
      · rw [if_pos q2, if_pos q2.symm]
      · rw [if_neg q2, if_neg (fun w => q2 w.symm)]
  rw [e]; rfl
theorem over_ovl {S E e f d s : Nat} (hp : (S, E) ∈ PE) (he : e ∈ eews) (hf : f ∈ eews) (hd : d < 32) (hs : s < 32) (hge : gE S E e ≤ 64) (hgd : 1 ≤ gN S E e ∧ gN S E e ≤ 8) (hgs : gN S E f ≤ 8) (hde : d % gN S E e = 0) (hse : s % gN S E f = 0) (h : ¬ fX2_mayOverwrite (nI d) (nI e) (nI (gN S E e)) (nI s) (nI f) (nI (gE S E f)) (nI (gN S E f)) = 0) : ovl d e (gN S E e) s f (gN S E f) := by
  have hb : ∀ e ∈ eews, e ≤ 64 ∧ 2 ≤ e := by decide
  have hbe := hb e he
  have hbf := hb f hf
  have hl := (g_1 _ hp _ hf).2.2.2.2.2.2
  dsimp only at hl
  unfold fX2_mayOverwrite at h
  by_cases q1 : fX2_meets (nI d) (nI (gN S E e)) (nI s) (nI (gN S E f)) = 0
  · have := (meets_iff (by omega) (by omega)).mp q1
    exact Or.inl (by omega)
  · rw [if_neg q1] at h
    by_cases q2 : e = f
    · subst q2
      have hm : ¬ (s + gN S E e ≤ d ∨ d + gN S E e ≤ s) := fun w => q1 ((meets_iff (by omega) (by omega)).mpr w)
      refine Or.inr (Or.inl ⟨rfl, rfl, ?_⟩)
      generalize gN S E e = g at *
      have h1 := Nat.div_add_mod d g
      have h2 := Nat.div_add_mod s g
      rcases Nat.lt_trichotomy (d / g) (s / g) with w | w | w
      · have : g * (d / g) + g ≤ g * (s / g) := by
          have := Nat.mul_le_mul_left g w
          rw [Nat.succ_eq_add_one, Nat.mul_add, Nat.mul_one] at this; exact this
        omega
      · rw [w] at h1; omega
      · have : g * (s / g) + g ≤ g * (d / g) := by
          have := Nat.mul_le_mul_left g w
          rw [Nat.succ_eq_add_one, Nat.mul_add, Nat.mul_one] at this; exact this
        omega
    · rw [if_neg (fun w => q2 ((nI_eq (by omega) (by omega)).mp w))] at h
      by_cases q3 : f ≤ e
      · rw [if_pos (nI_le q3 (by omega))] at h
        unfold pX2_mayOverwrite_84_S1 at h
        by_cases q4 : nI (gE S E f) < 8
        · rw [if_pos q4] at h; exact absurd rfl h
        · rw [if_neg q4, nI_add, nI_add] at h
          by_cases q5 : nI (d + gN S E e) = nI (s + gN S E f)
          · have q6 := (nI_eq (by omega) (by omega)).mp q5
            have q7 : 8 ≤ gE S E f := Classical.byContradiction (fun w => q4 (nI_lt (b := 8) (by omega) (by decide)))
            have := g_4 _ hp _ he _ hf (by omega) q7 hge
            dsimp only at this
            refine Or.inr (Or.inr (Or.inr ?_))
            rcases this with ⟨k1, k2⟩ | ⟨k1, k2⟩ | ⟨k1, k2⟩ | k
            · exact ⟨2, by omega, k1, k2, q6⟩
            · exact ⟨4, by omega, k1, k2, q6⟩
            · exact ⟨8, by omega, k1, k2, q6⟩
            · exfalso
              have h16 : ∀ e ∈ eews, ∀ f ∈ eews, f < e → 16 ≤ e / f → e = 32 ∧ f = 2 ∨ e = 64 ∧ f = 4 ∨ e = 64 ∧ f = 2 := by decide
              have hx : ∀ p ∈ PE, ∀ e ∈ eews, ∀ f ∈ eews, f < e → 8 ≤ gE p.1 p.2 f → gE p.1 p.2 e ≤ 64 → ¬ 16 ≤ e / f := by decide +kernel
              exact hx _ hp _ he _ hf (by omega) q7 hge k
          · rw [if_neg q5] at h; exact absurd rfl h
      · rw [if_neg (nI_ge (by omega) (by omega))] at h
        unfold pX2_mayOverwrite_48_S1 at h
        by_cases q5 : nI d = nI s
        · have q6 := (nI_eq (by omega) (by omega)).mp q5
          exact Or.inr (Or.inr (Or.inl ⟨by omega, q6⟩))
        · rw [if_neg q5] at h; exact absurd rfl h
/-- a mask as target -/
theorem over_ovl1 {S E f d s : Nat} (hp : (S, E) ∈ PE) (hf : f ∈ eews) (hd : d < 32) (hs : s < 32) (hgs : gN S E f ≤ 8) (h : ¬ fX2_mayOverwrite (nI d) (nI 1) (nI 1) (nI s) (nI f) (nI (gE S E f)) (nI (gN S E f)) = 0) : ovl d 1 1 s f (gN S E f) := by
  have hb : ∀ e ∈ eews, e ≤ 64 ∧ 2 ≤ e := by decide
  have hbf := hb f hf
  unfold fX2_mayOverwrite at h
  by_cases q1 : fX2_meets (nI d) (nI 1) (nI s) (nI (gN S E f)) = 0
  · have := (meets_iff (by omega) (by omega)).mp q1
    exact Or.inl (by omega)
  · rw [if_neg q1, if_neg (fun w => absurd ((nI_eq (by omega) (by omega)).mp w) (by omega)), if_neg (nI_ge (by omega) (by omega))] at h
    unfold pX2_mayOverwrite_48_S1 at h
    by_cases q5 : nI d = nI s
    · have q6 := (nI_eq (by omega) (by omega)).mp q5
      exact Or.inr (Or.inr (Or.inl ⟨by omega, q6⟩))
    · rw [if_neg q5] at h; exact absurd rfl h
theorem mask_meets {d g : Nat} (hg : 1 ≤ g) (hd : d + g < 2 ^ 31) : fX2_meets (nI d) (nI g) (nI 0) (nI 1) = 0 ↔ ¬ d = 0 := by
  rw [meets_iff hd (by decide)]; omega
