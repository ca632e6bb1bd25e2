noncomputable def pX11_reduces_17_S1 (m_sew : Int32) (u2 : Int32) : Int32 := (if u2 = (0 : Int32) then m_sew else ((2 : Int32) * m_sew))
noncomputable def eX11_reduces_134 (m_vs2 : Int32) (m_sew : Int32) (zO : Nat → Int32) (u2 : Int32) (w_L7 : Int32) : Int64 := (fX11_cut (fX11_signed (fX11_get zO m_vs2 m_sew w_L7) m_sew) (pX11_reduces_17_S1 m_sew u2))
noncomputable def pX11_reduces_136_L8 (m_vs2 : Int32) (m_sew : Int32) (zO : Nat → Int32) (u2 : Int32) (u3 : Int32) (w_L7 : Int32) : Int64 := (if u2 = (0 : Int32) then (fX11_get zO m_vs2 m_sew w_L7) else (if u3 = (0 : Int32) then (fX11_get zO m_vs2 m_sew w_L7) else (eX11_reduces_134 m_vs2 m_sew zO u2 w_L7)))
noncomputable def eX11_reduces_153 (m_vxrm : Int32) (m_vs2 : Int32) (m_sew : Int32) (zO : Nat → Int32) (u1 : Int32) (u2 : Int32) (u3 : Int32) (w_L7 : Int32) (w_L5 : Int64) : Int64 := (fX11_cut (fX11_made m_vxrm u1 w_L5 (pX11_reduces_136_L8 m_vs2 m_sew zO u2 u3 w_L7) (0 : Int64) (pX11_reduces_17_S1 m_sew u2)) (pX11_reduces_17_S1 m_sew u2))
noncomputable def pX11_reduces_155_L5 (m_vxrm : Int32) (m_vs2 : Int32) (m_sew : Int32) (m_unmasked : Int32) (zO : Nat → Int32) (u1 : Int32) (u2 : Int32) (u3 : Int32) (w_L7 : Int32) (w_L5 : Int64) : Int64 := (if (fX11_isActive m_unmasked zO w_L7) = (0 : Int32) then w_L5 else (eX11_reduces_153 m_vxrm m_vs2 m_sew zO u1 u2 u3 w_L7 w_L5))
noncomputable def pX11_reduces_155_m_vxsat (m_vxrm : Int32) (m_vs2 : Int32) (m_sew : Int32) (m_unmasked : Int32) (zO : Nat → Int32) (u1 : Int32) (u2 : Int32) (u3 : Int32) (w_L7 : Int32) (w_L5 : Int64) (w_m_vxsat : Int32) : Int32 := (if (fX11_isActive m_unmasked zO w_L7) = (0 : Int32) then w_m_vxsat else (fX11_made__m_vxsat m_vxrm w_m_vxsat u1 w_L5 (pX11_reduces_136_L8 m_vs2 m_sew zO u2 u3 w_L7) (pX11_reduces_17_S1 m_sew u2)))
noncomputable def tX11_reduces_75 (m_vl : Int32) (w_L7 : Int32) (w_L5 : Int64) (w_m_vxsat : Int32) : Prop := (if m_vl ≤ w_L7 then False else True)
noncomputable def bX11_reduces_75_L7 (m_vl : Int32) (w_L7 : Int32) (w_L5 : Int64) (w_m_vxsat : Int32) : Int32 := (if m_vl ≤ w_L7 then w_L7 else (w_L7 + (1 : Int32)))
noncomputable def bX11_reduces_75_L5 (m_vl : Int32) (m_vxrm : Int32) (m_vs2 : Int32) (m_sew : Int32) (m_unmasked : Int32) (zO : Nat → Int32) (u1 : Int32) (u2 : Int32) (u3 : Int32) (w_L7 : Int32) (w_L5 : Int64) (w_m_vxsat : Int32) : Int64 := (if m_vl ≤ w_L7 then w_L5 else (pX11_reduces_155_L5 m_vxrm m_vs2 m_sew m_unmasked zO u1 u2 u3 w_L7 w_L5))
noncomputable def bX11_reduces_75_m_vxsat (m_vl : Int32) (m_vxrm : Int32) (m_vs2 : Int32) (m_sew : Int32) (m_unmasked : Int32) (zO : Nat → Int32) (u1 : Int32) (u2 : Int32) (u3 : Int32) (w_L7 : Int32) (w_L5 : Int64) (w_m_vxsat : Int32) : Int32 := (if m_vl ≤ w_L7 then w_m_vxsat else (pX11_reduces_155_m_vxsat m_vxrm m_vs2 m_sew m_unmasked zO u1 u2 u3 w_L7 w_L5 w_m_vxsat))
noncomputable def LX11_reduces_75 (m_vl : Int32) (m_vxrm : Int32) (m_vs2 : Int32) (m_sew : Int32) (m_unmasked : Int32) (zO : Nat → Int32) (u1 : Int32) (u2 : Int32) (u3 : Int32) : Nat → Int32 × Int64 × Int32 → Int32 × Int64 × Int32
  | 0, s => s
  | n + 1, s => LX11_reduces_75 m_vl m_vxrm m_vs2 m_sew m_unmasked zO u1 u2 u3 n ((bX11_reduces_75_L7 m_vl s.1 s.2.1 s.2.2), (bX11_reduces_75_L5 m_vl m_vxrm m_vs2 m_sew m_unmasked zO u1 u2 u3 s.1 s.2.1 s.2.2), (bX11_reduces_75_m_vxsat m_vl m_vxrm m_vs2 m_sew m_unmasked zO u1 u2 u3 s.1 s.2.1 s.2.2))
noncomputable def oX11_reduces_75 (m_vl : Int32) (m_vs2 : Int32) (m_sew : Int32) (m_unmasked : Int32) (zO : Nat → Int32) (u1 : Int32) (u2 : Int32) (u3 : Int32) (w_L7 : Int32) (w_L5 : Int64) (w_m_vxsat : Int32) : Prop := (¬ (m_vl ≤ w_L7) → okX11_isActive m_unmasked w_L7) ∧ (¬ (m_vl ≤ w_L7) → ¬ ((fX11_isActive m_unmasked zO w_L7) = (0 : Int32)) → okX11_get zO m_vs2 m_sew w_L7) ∧ (¬ (m_vl ≤ w_L7) → ¬ ((fX11_isActive m_unmasked zO w_L7) = (0 : Int32)) → okX11_made u1 (pX11_reduces_136_L8 m_vs2 m_sew zO u2 u3 w_L7) (pX11_reduces_17_S1 m_sew u2))
noncomputable def KX11_reduces_75 (m_vl : Int32) (m_vxrm : Int32) (m_vs2 : Int32) (m_sew : Int32) (m_unmasked : Int32) (zO : Nat → Int32) (u1 : Int32) (u2 : Int32) (u3 : Int32) : Nat → Int32 × Int64 × Int32 → Prop
  | 0, _ => True
  | n + 1, s => (tX11_reduces_75 m_vl s.1 s.2.1 s.2.2 ∧ oX11_reduces_75 m_vl m_vs2 m_sew m_unmasked zO u1 u2 u3 s.1 s.2.1 s.2.2) ∧ KX11_reduces_75 m_vl m_vxrm m_vs2 m_sew m_unmasked zO u1 u2 u3 n ((bX11_reduces_75_L7 m_vl s.1 s.2.1 s.2.2), (bX11_reduces_75_L5 m_vl m_vxrm m_vs2 m_sew m_unmasked zO u1 u2 u3 s.1 s.2.1 s.2.2), (bX11_reduces_75_m_vxsat m_vl m_vxrm m_vs2 m_sew m_unmasked zO u1 u2 u3 s.1 s.2.1 s.2.2))
theorem itX11_reduces_75 (m_vl : Int32) (m_vxrm : Int32) (m_vs2 : Int32) (m_sew : Int32) (m_unmasked : Int32) (zO : Nat → Int32) (u1 : Int32) (u2 : Int32) (u3 : Int32) {b9 : Nat} (h9 : m_vl = nI b9) (hb9 : b9 < 2147483648) : ∀ (n a : Nat) (w_L5 : Int64) (w_m_vxsat : Int32), a + n ≤ b9 → LX11_reduces_75 m_vl m_vxrm m_vs2 m_sew m_unmasked zO u1 u2 u3 n (nI a, w_L5, w_m_vxsat) = (nI (a + n), itr (fun k s => ((pX11_reduces_155_L5 m_vxrm m_vs2 m_sew m_unmasked zO u1 u2 u3 (nI k) s.1), (pX11_reduces_155_m_vxsat m_vxrm m_vs2 m_sew m_unmasked zO u1 u2 u3 (nI k) s.1 s.2))) n a (w_L5, w_m_vxsat))
  | 0, a, w_L5, w_m_vxsat, _ => rfl
  | n + 1, a, w_L5, w_m_vxsat, h => by
    have hc : ¬ (m_vl ≤ nI a) := by rw [h9]; exact nI_ge (by omega) hb9
    have e0 : bX11_reduces_75_L7 m_vl (nI a) w_L5 w_m_vxsat = nI (a + 1) := by rw [bX11_reduces_75_L7, if_neg hc, nI_1]
    have e1 : bX11_reduces_75_L5 m_vl m_vxrm m_vs2 m_sew m_unmasked zO u1 u2 u3 (nI a) w_L5 w_m_vxsat = (pX11_reduces_155_L5 m_vxrm m_vs2 m_sew m_unmasked zO u1 u2 u3 (nI a) w_L5) := by rw [bX11_reduces_75_L5, if_neg hc]
    have e2 : bX11_reduces_75_m_vxsat m_vl m_vxrm m_vs2 m_sew m_unmasked zO u1 u2 u3 (nI a) w_L5 w_m_vxsat = (pX11_reduces_155_m_vxsat m_vxrm m_vs2 m_sew m_unmasked zO u1 u2 u3 (nI a) w_L5 w_m_vxsat) := by rw [bX11_reduces_75_m_vxsat, if_neg hc]
    show LX11_reduces_75 m_vl m_vxrm m_vs2 m_sew m_unmasked zO u1 u2 u3 n (bX11_reduces_75_L7 m_vl (nI a) w_L5 w_m_vxsat, bX11_reduces_75_L5 m_vl m_vxrm m_vs2 m_sew m_unmasked zO u1 u2 u3 (nI a) w_L5 w_m_vxsat, bX11_reduces_75_m_vxsat m_vl m_vxrm m_vs2 m_sew m_unmasked zO u1 u2 u3 (nI a) w_L5 w_m_vxsat) = _
    rw [e0, e1, e2, itX11_reduces_75 m_vl m_vxrm m_vs2 m_sew m_unmasked zO u1 u2 u3 h9 hb9 n (a + 1) _ _ (by omega), show a + (n + 1) = a + 1 + n by omega]; rfl
theorem ktX11_reduces_75 (m_vl : Int32) (m_vxrm : Int32) (m_vs2 : Int32) (m_sew : Int32) (m_unmasked : Int32) (zO : Nat → Int32) (u1 : Int32) (u2 : Int32) (u3 : Int32) {b9 : Nat} (h9 : m_vl = nI b9) (hb9 : b9 < 2147483648) (I : Nat → Int64 × Int32 → Prop) (hI : ∀ (a : Nat) (w_L5 : Int64) (w_m_vxsat : Int32), I a (w_L5, w_m_vxsat) → a < b9 → oX11_reduces_75 m_vl m_vs2 m_sew m_unmasked zO u1 u2 u3 (nI a) w_L5 w_m_vxsat ∧ I (a + 1) ((pX11_reduces_155_L5 m_vxrm m_vs2 m_sew m_unmasked zO u1 u2 u3 (nI a) w_L5), (pX11_reduces_155_m_vxsat m_vxrm m_vs2 m_sew m_unmasked zO u1 u2 u3 (nI a) w_L5 w_m_vxsat))) : ∀ (n a : Nat) (w_L5 : Int64) (w_m_vxsat : Int32), a + n ≤ b9 → I a (w_L5, w_m_vxsat) → KX11_reduces_75 m_vl m_vxrm m_vs2 m_sew m_unmasked zO u1 u2 u3 n (nI a, w_L5, w_m_vxsat)
  | 0, a, w_L5, w_m_vxsat, _, _ => True.intro
  | n + 1, a, w_L5, w_m_vxsat, h, hi => by
    have hc : ¬ (m_vl ≤ nI a) := by rw [h9]; exact nI_ge (by omega) hb9
    have e0 : bX11_reduces_75_L7 m_vl (nI a) w_L5 w_m_vxsat = nI (a + 1) := by rw [bX11_reduces_75_L7, if_neg hc, nI_1]
    have e1 : bX11_reduces_75_L5 m_vl m_vxrm m_vs2 m_sew m_unmasked zO u1 u2 u3 (nI a) w_L5 w_m_vxsat = (pX11_reduces_155_L5 m_vxrm m_vs2 m_sew m_unmasked zO u1 u2 u3 (nI a) w_L5) := by rw [bX11_reduces_75_L5, if_neg hc]
    have e2 : bX11_reduces_75_m_vxsat m_vl m_vxrm m_vs2 m_sew m_unmasked zO u1 u2 u3 (nI a) w_L5 w_m_vxsat = (pX11_reduces_155_m_vxsat m_vxrm m_vs2 m_sew m_unmasked zO u1 u2 u3 (nI a) w_L5 w_m_vxsat) := by rw [bX11_reduces_75_m_vxsat, if_neg hc]
    obtain ⟨h1, h2⟩ := hI a w_L5 w_m_vxsat hi (by omega)
    show (tX11_reduces_75 m_vl (nI a) w_L5 w_m_vxsat ∧ oX11_reduces_75 m_vl m_vs2 m_sew m_unmasked zO u1 u2 u3 (nI a) w_L5 w_m_vxsat) ∧ KX11_reduces_75 m_vl m_vxrm m_vs2 m_sew m_unmasked zO u1 u2 u3 n (bX11_reduces_75_L7 m_vl (nI a) w_L5 w_m_vxsat, bX11_reduces_75_L5 m_vl m_vxrm m_vs2 m_sew m_unmasked zO u1 u2 u3 (nI a) w_L5 w_m_vxsat, bX11_reduces_75_m_vxsat m_vl m_vxrm m_vs2 m_sew m_unmasked zO u1 u2 u3 (nI a) w_L5 w_m_vxsat)
    refine ⟨⟨by rw [tX11_reduces_75, if_neg hc]; exact True.intro, h1⟩, ?_⟩
    rw [e0, e1, e2]; exact ktX11_reduces_75 m_vl m_vxrm m_vs2 m_sew m_unmasked zO u1 u2 u3 h9 hb9 I hI n (a + 1) _ _ (by omega) h2
theorem ntX11_reduces_75 (m_vl : Int32) (m_vxrm : Int32) (m_vs2 : Int32) (m_sew : Int32) (m_unmasked : Int32) (zO : Nat → Int32) (u1 : Int32) (u2 : Int32) (u3 : Int32) {b9 : Nat} (h9 : m_vl = nI b9) (hb9 : b9 < 2147483648) (w_L5 : Int64) (w_m_vxsat : Int32) : ¬ tX11_reduces_75 m_vl (nI b9) w_L5 w_m_vxsat := by rw [tX11_reduces_75, if_pos (by rw [h9]; exact Int32.le_refl _)]; exact id
noncomputable def fX11_reduces (m_vstart : Int32) (m_vs2 : Int32) (m_sew : Int32) (m_l8 : Int32) (u2 : Int32) : Int32 := (if (32 : Int32) < (pX11_reduces_17_S1 m_sew u2) then (0 : Int32) else (if (fX11_isGroup m_sew m_l8 m_vs2 m_sew) = (0 : Int32) then (0 : Int32) else (if m_vstart = (0 : Int32) then (1 : Int32) else (0 : Int32))))
noncomputable def fX11_reduces__m_vxsat (m_vl : Int32) (m_vstart : Int32) (m_vxrm : Int32) (m_vxsat : Int32) (m_vs1 : Int32) (m_vs2 : Int32) (m_sew : Int32) (m_l8 : Int32) (m_unmasked : Int32) (zO : Nat → Int32) (u1 : Int32) (u2 : Int32) (u3 : Int32) : Int32 := (if (32 : Int32) < (pX11_reduces_17_S1 m_sew u2) then m_vxsat else (if (fX11_isGroup m_sew m_l8 m_vs2 m_sew) = (0 : Int32) then m_vxsat else (if m_vstart = (0 : Int32) then (if (fX11_goes m_vl m_vstart) = (0 : Int32) then m_vxsat else ((LX11_reduces_75 m_vl m_vxrm m_vs2 m_sew m_unmasked zO u1 u2 u3 (cnt (0 : Int32) m_vl) ((0 : Int32), (fX11_get zO m_vs1 (pX11_reduces_17_S1 m_sew u2) (0 : Int32)), m_vxsat)).2.2)) else m_vxsat)))
noncomputable def fX11_reduces__zV (m_choices : Int64) (m_vl : Int32) (m_vtype : Int32) (m_vstart : Int32) (m_vxrm : Int32) (m_vxsat : Int32) (m_vd : Int32) (m_vs1 : Int32) (m_vs2 : Int32) (m_sew : Int32) (m_l8 : Int32) (m_unmasked : Int32) (zV : Nat → Int32) (zO : Nat → Int32) (u1 : Int32) (u2 : Int32) (u3 : Int32) : Nat → Int32 := (if (32 : Int32) < (pX11_reduces_17_S1 m_sew u2) then zV else (if (fX11_isGroup m_sew m_l8 m_vs2 m_sew) = (0 : Int32) then zV else (if m_vstart = (0 : Int32) then (if (fX11_goes m_vl m_vstart) = (0 : Int32) then zV else (fX11_tail__zV m_choices m_vtype (fX11_put__zV zV m_vd (pX11_reduces_17_S1 m_sew u2) (0 : Int32) ((LX11_reduces_75 m_vl m_vxrm m_vs2 m_sew m_unmasked zO u1 u2 u3 (cnt (0 : Int32) m_vl) ((0 : Int32), (fX11_get zO m_vs1 (pX11_reduces_17_S1 m_sew u2) (0 : Int32)), m_vxsat)).2.1)) m_vd (pX11_reduces_17_S1 m_sew u2) (8 : Int32) (1 : Int32))) else zV)))
noncomputable def okX11_reduces (m_choices : Int64) (m_vl : Int32) (m_vtype : Int32) (m_vstart : Int32) (m_vxrm : Int32) (m_vxsat : Int32) (m_vd : Int32) (m_vs1 : Int32) (m_vs2 : Int32) (m_sew : Int32) (m_l8 : Int32) (m_unmasked : Int32) (zV : Nat → Int32) (zO : Nat → Int32) (u1 : Int32) (u2 : Int32) (u3 : Int32) : Prop := (¬ ((32 : Int32) < (pX11_reduces_17_S1 m_sew u2)) → okX11_isGroup m_sew m_l8 m_sew) ∧ (¬ ((32 : Int32) < (pX11_reduces_17_S1 m_sew u2)) → ¬ ((fX11_isGroup m_sew m_l8 m_vs2 m_sew) = (0 : Int32)) → (m_vstart = (0 : Int32)) → ¬ ((fX11_goes m_vl m_vstart) = (0 : Int32)) → okX11_get zO m_vs1 (pX11_reduces_17_S1 m_sew u2) (0 : Int32)) ∧ (¬ ((32 : Int32) < (pX11_reduces_17_S1 m_sew u2)) → ¬ ((fX11_isGroup m_sew m_l8 m_vs2 m_sew) = (0 : Int32)) → (m_vstart = (0 : Int32)) → ¬ ((fX11_goes m_vl m_vstart) = (0 : Int32)) → KX11_reduces_75 m_vl m_vxrm m_vs2 m_sew m_unmasked zO u1 u2 u3 (cnt (0 : Int32) m_vl) ((0 : Int32), (fX11_get zO m_vs1 (pX11_reduces_17_S1 m_sew u2) (0 : Int32)), m_vxsat)) ∧ (¬ ((32 : Int32) < (pX11_reduces_17_S1 m_sew u2)) → ¬ ((fX11_isGroup m_sew m_l8 m_vs2 m_sew) = (0 : Int32)) → (m_vstart = (0 : Int32)) → ¬ ((fX11_goes m_vl m_vstart) = (0 : Int32)) → ¬ (tX11_reduces_75 m_vl ((LX11_reduces_75 m_vl m_vxrm m_vs2 m_sew m_unmasked zO u1 u2 u3 (cnt (0 : Int32) m_vl) ((0 : Int32), (fX11_get zO m_vs1 (pX11_reduces_17_S1 m_sew u2) (0 : Int32)), m_vxsat)).1) ((LX11_reduces_75 m_vl m_vxrm m_vs2 m_sew m_unmasked zO u1 u2 u3 (cnt (0 : Int32) m_vl) ((0 : Int32), (fX11_get zO m_vs1 (pX11_reduces_17_S1 m_sew u2) (0 : Int32)), m_vxsat)).2.1) ((LX11_reduces_75 m_vl m_vxrm m_vs2 m_sew m_unmasked zO u1 u2 u3 (cnt (0 : Int32) m_vl) ((0 : Int32), (fX11_get zO m_vs1 (pX11_reduces_17_S1 m_sew u2) (0 : Int32)), m_vxsat)).2.2))) ∧ (¬ ((32 : Int32) < (pX11_reduces_17_S1 m_sew u2)) → ¬ ((fX11_isGroup m_sew m_l8 m_vs2 m_sew) = (0 : Int32)) → (m_vstart = (0 : Int32)) → ¬ ((fX11_goes m_vl m_vstart) = (0 : Int32)) → (m_vl ≤ (LX11_reduces_75 m_vl m_vxrm m_vs2 m_sew m_unmasked zO u1 u2 u3 (cnt (0 : Int32) m_vl) ((0 : Int32), (fX11_get zO m_vs1 (pX11_reduces_17_S1 m_sew u2) (0 : Int32)), m_vxsat)).1) → okX11_put zV m_vd (pX11_reduces_17_S1 m_sew u2) (0 : Int32) ((LX11_reduces_75 m_vl m_vxrm m_vs2 m_sew m_unmasked zO u1 u2 u3 (cnt (0 : Int32) m_vl) ((0 : Int32), (fX11_get zO m_vs1 (pX11_reduces_17_S1 m_sew u2) (0 : Int32)), m_vxsat)).2.1)) ∧ (¬ ((32 : Int32) < (pX11_reduces_17_S1 m_sew u2)) → ¬ ((fX11_isGroup m_sew m_l8 m_vs2 m_sew) = (0 : Int32)) → (m_vstart = (0 : Int32)) → ¬ ((fX11_goes m_vl m_vstart) = (0 : Int32)) → (m_vl ≤ (LX11_reduces_75 m_vl m_vxrm m_vs2 m_sew m_unmasked zO u1 u2 u3 (cnt (0 : Int32) m_vl) ((0 : Int32), (fX11_get zO m_vs1 (pX11_reduces_17_S1 m_sew u2) (0 : Int32)), m_vxsat)).1) → okX11_tail m_choices m_vtype (fX11_put__zV zV m_vd (pX11_reduces_17_S1 m_sew u2) (0 : Int32) ((LX11_reduces_75 m_vl m_vxrm m_vs2 m_sew m_unmasked zO u1 u2 u3 (cnt (0 : Int32) m_vl) ((0 : Int32), (fX11_get zO m_vs1 (pX11_reduces_17_S1 m_sew u2) (0 : Int32)), m_vxsat)).2.1)) m_vd (pX11_reduces_17_S1 m_sew u2) (8 : Int32) (1 : Int32)) ∧ (¬ ((32 : Int32) < (pX11_reduces_17_S1 m_sew u2)) → ¬ ((fX11_isGroup m_sew m_l8 m_vs2 m_sew) = (0 : Int32)) → (m_vstart = (0 : Int32)) → ¬ ((fX11_goes m_vl m_vstart) = (0 : Int32)) → ¬ (m_vl ≤ (LX11_reduces_75 m_vl m_vxrm m_vs2 m_sew m_unmasked zO u1 u2 u3 (cnt (0 : Int32) m_vl) ((0 : Int32), (fX11_get zO m_vs1 (pX11_reduces_17_S1 m_sew u2) (0 : Int32)), m_vxsat)).1) → okX11_isActive m_unmasked ((LX11_reduces_75 m_vl m_vxrm m_vs2 m_sew m_unmasked zO u1 u2 u3 (cnt (0 : Int32) m_vl) ((0 : Int32), (fX11_get zO m_vs1 (pX11_reduces_17_S1 m_sew u2) (0 : Int32)), m_vxsat)).1)) ∧ (¬ ((32 : Int32) < (pX11_reduces_17_S1 m_sew u2)) → ¬ ((fX11_isGroup m_sew m_l8 m_vs2 m_sew) = (0 : Int32)) → (m_vstart = (0 : Int32)) → ¬ ((fX11_goes m_vl m_vstart) = (0 : Int32)) → ¬ (m_vl ≤ (LX11_reduces_75 m_vl m_vxrm m_vs2 m_sew m_unmasked zO u1 u2 u3 (cnt (0 : Int32) m_vl) ((0 : Int32), (fX11_get zO m_vs1 (pX11_reduces_17_S1 m_sew u2) (0 : Int32)), m_vxsat)).1) → ¬ ((fX11_isActive m_unmasked zO ((LX11_reduces_75 m_vl m_vxrm m_vs2 m_sew m_unmasked zO u1 u2 u3 (cnt (0 : Int32) m_vl) ((0 : Int32), (fX11_get zO m_vs1 (pX11_reduces_17_S1 m_sew u2) (0 : Int32)), m_vxsat)).1)) = (0 : Int32)) → okX11_get zO m_vs2 m_sew ((LX11_reduces_75 m_vl m_vxrm m_vs2 m_sew m_unmasked zO u1 u2 u3 (cnt (0 : Int32) m_vl) ((0 : Int32), (fX11_get zO m_vs1 (pX11_reduces_17_S1 m_sew u2) (0 : Int32)), m_vxsat)).1)) ∧ (¬ ((32 : Int32) < (pX11_reduces_17_S1 m_sew u2)) → ¬ ((fX11_isGroup m_sew m_l8 m_vs2 m_sew) = (0 : Int32)) → (m_vstart = (0 : Int32)) → ¬ ((fX11_goes m_vl m_vstart) = (0 : Int32)) → ¬ (m_vl ≤ (LX11_reduces_75 m_vl m_vxrm m_vs2 m_sew m_unmasked zO u1 u2 u3 (cnt (0 : Int32) m_vl) ((0 : Int32), (fX11_get zO m_vs1 (pX11_reduces_17_S1 m_sew u2) (0 : Int32)), m_vxsat)).1) → ¬ ((fX11_isActive m_unmasked zO ((LX11_reduces_75 m_vl m_vxrm m_vs2 m_sew m_unmasked zO u1 u2 u3 (cnt (0 : Int32) m_vl) ((0 : Int32), (fX11_get zO m_vs1 (pX11_reduces_17_S1 m_sew u2) (0 : Int32)), m_vxsat)).1)) = (0 : Int32)) → okX11_made u1 (pX11_reduces_136_L8 m_vs2 m_sew zO u2 u3 ((LX11_reduces_75 m_vl m_vxrm m_vs2 m_sew m_unmasked zO u1 u2 u3 (cnt (0 : Int32) m_vl) ((0 : Int32), (fX11_get zO m_vs1 (pX11_reduces_17_S1 m_sew u2) (0 : Int32)), m_vxsat)).1)) (pX11_reduces_17_S1 m_sew u2))
theorem zX11_reduces (m_vstart : Int32) (m_vs2 : Int32) (m_sew : Int32) (m_l8 : Int32) (u2 : Int32) : narrow .boolean (.int (fX11_reduces m_vstart m_vs2 m_sew m_l8 u2)) = .int (fX11_reduces m_vstart m_vs2 m_sew m_l8 u2) := by unfold fX11_reduces; exact (kzi rfl (kzi rfl (kzi rfl rfl)))
set_option maxRecDepth 100000 in
set_option maxHeartbeats 4000000 in
theorem kX11_reduces (l : Launch) (D : va_G) (kI kZ : ClassId) (b_m : Nat) (b_zX : Nat) (b_zV : Nat) (b_zO : Nat) (m_thrown : Int32) (m_memory : Nat) (m_shut : Nat) (m_choices : Int64) (m_vl : Int32) (m_vtype : Int32) (m_vstart : Int32) (m_vxrm : Int32) (m_vxsat : Int32) (m_done : Int32) (m_illegal : Int32) (m_traps : Int32) (m_trapAddress : Int32) (m_word : Int32) (m_vd : Int32) (m_vs1 : Int32) (m_vs2 : Int32) (m_f3 : Int32) (m_f6 : Int32) (m_sew : Int32) (m_l8 : Int32) (m_unmasked : Int32) (zX : Nat → Int32) (zV : Nat → Int32) (zO : Nat → Int32) (u1 : Int32) (u2 : Int32) (u3 : Int32) (hok : okX11_reduces m_choices m_vl m_vtype m_vstart m_vxrm m_vxsat m_vd m_vs1 m_vs2 m_sew m_l8 m_unmasked zV zO u1 u2 u3) : kM l yX11_reduces cX11_reduces 10 (some .boolean) 4 69 0 0 D [(kI, .int), (kZ, .boolean)] [.ref b_m, .int u1, .int u2, .int u3] [(b_m, .inr (10, [.int m_thrown, .ref b_zX, .ref b_zV, .ref b_zO, .ref m_memory, .ref m_shut, .long m_choices, .int m_vl, .int m_vtype, .int m_vstart, .int m_vxrm, .int m_vxsat, .int m_done, .int m_illegal, .int m_traps, .int m_trapAddress, .int m_word, .int m_vd, .int m_vs1, .int m_vs2, .int m_f3, .int m_f6, .int m_sew, .int m_l8, .int m_unmasked])), (b_zX, .inl (kI, 32, .inl zX)), (b_zV, .inl (kI, 512, .inl zV)), (b_zO, .inl (kI, 512, .inl zO))] (some (.int (fX11_reduces m_vstart m_vs2 m_sew m_l8 u2))) [(b_m, .inr (10, [.int m_thrown, .ref b_zX, .ref b_zV, .ref b_zO, .ref m_memory, .ref m_shut, .long m_choices, .int m_vl, .int m_vtype, .int m_vstart, .int m_vxrm, .int (fX11_reduces__m_vxsat m_vl m_vstart m_vxrm m_vxsat m_vs1 m_vs2 m_sew m_l8 m_unmasked zO u1 u2 u3), .int m_done, .int m_illegal, .int m_traps, .int m_trapAddress, .int m_word, .int m_vd, .int m_vs1, .int m_vs2, .int m_f3, .int m_f6, .int m_sew, .int m_l8, .int m_unmasked])), (b_zX, .inl (kI, 32, .inl zX)), (b_zV, .inl (kI, 512, .inl (fX11_reduces__zV m_choices m_vl m_vtype m_vstart m_vxrm m_vxsat m_vd m_vs1 m_vs2 m_sew m_l8 m_unmasked zV zO u1 u2 u3))), (b_zO, .inl (kI, 512, .inl zO))] := by
  refine kM.of (by decide) rfl ?_
  intro p e R s m args below meth c A X _ _ hRt hLk
  refine k_sub [0, 1, 2, 3] (lv' := [(0, .ref b_m), (1, .int u1), (2, .int u2), (3, .int u3)]) rfl ?_
  unfold okX11_reduces at hok
  refine k_iload_n X dX11_reduces_0 rfl 2 rfl rfl ?_
  refine k_mid2 [(b_m, .inr (10, [.int m_thrown, .ref b_zX, .ref b_zV, .ref b_zO, .ref m_memory, .ref m_shut, .long m_choices, .int m_vl, .int m_vtype, .int m_vstart, .int m_vxrm, .int m_vxsat, .int m_done, .int m_illegal, .int m_traps, .int m_trapAddress, .int m_word, .int m_vd, .int m_vs1, .int m_vs2, .int m_f3, .int m_f6, .int m_sew, .int m_l8, .int m_unmasked])), (b_zX, .inl (kI, 32, .inl zX)), (b_zV, .inl (kI, 512, .inl zV)), (b_zO, .inl (kI, 512, .inl zO))] [(0, .ref b_m), (1, .int u1), (2, .int u2), (3, .int u3)] [.int (pX11_reduces_17_S1 m_sew u2)] 17 (fun hJ2 => ?_) ?_
  · skip
    refine k_if_eq (tgt := 13) X dX11_reduces_1 (by decide) rfl (fun c1 => ?_) (fun c1 => ?_)
    · skip
      refine k_aload_n X dX11_reduces_13 rfl 0 rfl rfl ?_
      refine k_get X i_wsX110 0 22 q27_9 rfl rfl rfl rfl rfl dX11_reduces_14 rfl ?_
      have e19 : (pX11_reduces_17_S1 m_sew u2) = m_sew := by rw [pX11_reduces_17_S1, if_pos c1]
      rw [e19] at hJ2
      exact k_sub [0, 1, 2, 3] rfl hJ2
    refine k_iconst X dX11_reduces_4 kc_i_2 rfl ?_
    refine k_aload_n X dX11_reduces_5 rfl 0 rfl rfl ?_
    refine k_get X i_wsX110 0 22 q27_9 rfl rfl rfl rfl rfl dX11_reduces_6 rfl ?_
    refine k_imul X dX11_reduces_9 rfl ?_
    refine k_goto (tgt := 17) X dX11_reduces_10 (by decide) ?_
    have e20 : (pX11_reduces_17_S1 m_sew u2) = ((2 : Int32) * m_sew) := by rw [pX11_reduces_17_S1, if_neg c1]
    rw [e20] at hJ2
    exact k_sub [0, 1, 2, 3] rfl hJ2
  refine k_istore (lv' := [(4, .int (pX11_reduces_17_S1 m_sew u2)), (0, .ref b_m), (1, .int u1), (2, .int u2), (3, .int u3)]) X dX11_reduces_17 rfl rfl rfl ?_
  refine k_iload X dX11_reduces_19 0 rfl rfl ?_
  refine k_bipush X dX11_reduces_21 kc_b_32 rfl ?_
  refine k_icmp_gt (tgt := 48) X dX11_reduces_23 (by decide) rfl (fun c3 => ?_) (fun c3 => ?_)
  · skip
    refine k_iconst X dX11_reduces_48 kc_i_0 rfl ?_
    have e21 : (fX11_reduces m_vstart m_vs2 m_sew m_l8 u2) = (0 : Int32) := by rw [fX11_reduces, if_pos c3]
    have e22 : (fX11_reduces__m_vxsat m_vl m_vstart m_vxrm m_vxsat m_vs1 m_vs2 m_sew m_l8 m_unmasked zO u1 u2 u3) = m_vxsat := by rw [fX11_reduces__m_vxsat, if_pos c3]
    have e23 : (fX11_reduces__zV m_choices m_vl m_vtype m_vstart m_vxrm m_vxsat m_vd m_vs1 m_vs2 m_sew m_l8 m_unmasked zV zO u1 u2 u3) = zV := by rw [fX11_reduces__zV, if_pos c3]
    exact k_zret9 X hRt hLk rfl e21.symm (by rw [e22, e23]) dX11_reduces_49
  refine k_aload_n X dX11_reduces_26 rfl 1 rfl rfl ?_
  refine k_aload_n X dX11_reduces_27 rfl 1 rfl rfl ?_
  refine k_get X i_wsX110 0 19 q27_6 rfl rfl rfl rfl rfl dX11_reduces_28 rfl ?_
  refine k_aload_n X dX11_reduces_31 rfl 1 rfl rfl ?_
  refine k_get X i_wsX110 0 22 q27_9 rfl rfl rfl rfl rfl dX11_reduces_32 rfl ?_
  refine k_cV1 (st := []) (ws' := [(b_m, .inr (10, [.int m_thrown, .ref b_zX, .ref b_zV, .ref b_zO, .ref m_memory, .ref m_shut, .long m_choices, .int m_vl, .int m_vtype, .int m_vstart, .int m_vxrm, .int m_vxsat, .int m_done, .int m_illegal, .int m_traps, .int m_trapAddress, .int m_word, .int m_vd, .int m_vs1, .int m_vs2, .int m_f3, .int m_f6, .int m_sew, .int m_l8, .int m_unmasked])), (b_zX, .inl (kI, 32, .inl zX)), (b_zV, .inl (kI, 512, .inl zV)), (b_zO, .inl (kI, 512, .inl zO))]) (wr := [(b_zX, .inl (kI, 32, .inl zX)), (b_zV, .inl (kI, 512, .inl zV)), (b_zO, .inl (kI, 512, .inl zO))]) (ci := 10) (q9 := 0) X [.int m_vs2, .int m_sew] 0 [0] [1, 2, 3] [3, 0, 1, 2] (kX11_isGroup l D kI kZ b_m m_thrown b_zX b_zV b_zO m_memory m_shut m_choices m_vl m_vtype m_vstart m_vxrm m_vxsat m_done m_illegal m_traps m_trapAddress m_word m_vd m_vs1 m_vs2 m_f3 m_f6 m_sew m_l8 m_unmasked m_vs2 m_sew (hok.1 c3)) vX11_isGroup q30_1 dX11_reduces_35 rfl rfl rfl rfl rfl rfl rfl rfl rfl rfl rfl rfl rfl rfl rfl ?_
  refine k_if_eq (tgt := 48) X dX11_reduces_38 (by decide) rfl (fun c4 => ?_) (fun c4 => ?_)
  · skip
    refine k_iconst X dX11_reduces_48 kc_i_0 rfl ?_
    have e24 : (fX11_reduces m_vstart m_vs2 m_sew m_l8 u2) = (0 : Int32) := by rw [fX11_reduces, if_neg c3, if_pos c4]
    have e25 : (fX11_reduces__m_vxsat m_vl m_vstart m_vxrm m_vxsat m_vs1 m_vs2 m_sew m_l8 m_unmasked zO u1 u2 u3) = m_vxsat := by rw [fX11_reduces__m_vxsat, if_neg c3, if_pos c4]
    have e26 : (fX11_reduces__zV m_choices m_vl m_vtype m_vstart m_vxrm m_vxsat m_vd m_vs1 m_vs2 m_sew m_l8 m_unmasked zV zO u1 u2 u3) = zV := by rw [fX11_reduces__zV, if_neg c3, if_pos c4]
    exact k_zret9 X hRt hLk rfl e24.symm (by rw [e25, e26]) dX11_reduces_49
  refine k_aload_n X dX11_reduces_41 rfl 1 rfl rfl ?_
  refine k_get X i_wsX110 0 9 q27_14 rfl rfl rfl rfl rfl dX11_reduces_42 rfl ?_
  refine k_if_eq (tgt := 50) X dX11_reduces_45 (by decide) rfl (fun c5 => ?_) (fun c5 => ?_)
  · skip
    refine k_aload_n X dX11_reduces_50 rfl 1 rfl rfl ?_
    refine k_cV1 (st := []) (ws' := [(b_m, .inr (10, [.int m_thrown, .ref b_zX, .ref b_zV, .ref b_zO, .ref m_memory, .ref m_shut, .long m_choices, .int m_vl, .int m_vtype, .int m_vstart, .int m_vxrm, .int m_vxsat, .int m_done, .int m_illegal, .int m_traps, .int m_trapAddress, .int m_word, .int m_vd, .int m_vs1, .int m_vs2, .int m_f3, .int m_f6, .int m_sew, .int m_l8, .int m_unmasked])), (b_zX, .inl (kI, 32, .inl zX)), (b_zV, .inl (kI, 512, .inl zV)), (b_zO, .inl (kI, 512, .inl zO))]) (wr := [(b_zX, .inl (kI, 32, .inl zX)), (b_zV, .inl (kI, 512, .inl zV)), (b_zO, .inl (kI, 512, .inl zO))]) (ci := 10) (q9 := 0) X [] 0 [0] [1, 2, 3] [3, 0, 1, 2] (kX11_goes l D kI kZ b_m m_thrown b_zX b_zV b_zO m_memory m_shut m_choices m_vl m_vtype m_vstart m_vxrm m_vxsat m_done m_illegal m_traps m_trapAddress m_word m_vd m_vs1 m_vs2 m_f3 m_f6 m_sew m_l8 m_unmasked) vX11_goes q31_2 dX11_reduces_51 rfl rfl rfl rfl rfl rfl rfl rfl rfl rfl rfl rfl rfl rfl rfl ?_
    refine k_if_ne (tgt := 59) X dX11_reduces_54 (by decide) rfl (fun c6 => ?_) (fun c6 => ?_)
    · skip
      refine k_iconst X dX11_reduces_57 kc_i_1 rfl ?_
      have e27 : (fX11_reduces m_vstart m_vs2 m_sew m_l8 u2) = (1 : Int32) := by rw [fX11_reduces, if_neg c3, if_neg c4, if_pos c5]
      have e28 : (fX11_reduces__m_vxsat m_vl m_vstart m_vxrm m_vxsat m_vs1 m_vs2 m_sew m_l8 m_unmasked zO u1 u2 u3) = m_vxsat := by rw [fX11_reduces__m_vxsat, if_neg c3, if_neg c4, if_pos c5, if_pos c6]
      have e29 : (fX11_reduces__zV m_choices m_vl m_vtype m_vstart m_vxrm m_vxsat m_vd m_vs1 m_vs2 m_sew m_l8 m_unmasked zV zO u1 u2 u3) = zV := by rw [fX11_reduces__zV, if_neg c3, if_neg c4, if_pos c5, if_pos c6]
      exact k_zret9 X hRt hLk rfl e27.symm (by rw [e28, e29]) dX11_reduces_58
    refine k_aload_n X dX11_reduces_59 rfl 1 rfl rfl ?_
    refine k_aload_n X dX11_reduces_60 rfl 1 rfl rfl ?_
    refine k_get X i_wsX110 0 18 q27_5 rfl rfl rfl rfl rfl dX11_reduces_61 rfl ?_
    refine k_iload X dX11_reduces_64 0 rfl rfl ?_
    refine k_iconst X dX11_reduces_66 kc_i_0 rfl ?_
    refine k_cV1 (st := []) (ws' := [(b_m, .inr (10, [.int m_thrown, .ref b_zX, .ref b_zV, .ref b_zO, .ref m_memory, .ref m_shut, .long m_choices, .int m_vl, .int m_vtype, .int m_vstart, .int m_vxrm, .int m_vxsat, .int m_done, .int m_illegal, .int m_traps, .int m_trapAddress, .int m_word, .int m_vd, .int m_vs1, .int m_vs2, .int m_f3, .int m_f6, .int m_sew, .int m_l8, .int m_unmasked])), (b_zX, .inl (kI, 32, .inl zX)), (b_zV, .inl (kI, 512, .inl zV)), (b_zO, .inl (kI, 512, .inl zO))]) (wr := [(b_zX, .inl (kI, 32, .inl zX)), (b_zV, .inl (kI, 512, .inl zV))]) (ci := 10) (q9 := 0) X [.int m_vs1, .int (pX11_reduces_17_S1 m_sew u2), .int (0 : Int32)] 0 [0, 3] [1, 2] [2, 0, 1, 3] (kX11_get l D kI kZ b_m b_zO m_thrown b_zX b_zV m_memory m_shut m_choices m_vl m_vtype m_vstart m_vxrm m_vxsat m_done m_illegal m_traps m_trapAddress m_word m_vd m_vs1 m_vs2 m_f3 m_f6 m_sew m_l8 m_unmasked zO m_vs1 (pX11_reduces_17_S1 m_sew u2) (0 : Int32) (hok.2.1 c3 c4 c5 c6)) vX11_get q32_21 dX11_reduces_67 rfl rfl rfl rfl rfl rfl rfl rfl rfl rfl rfl rfl rfl rfl rfl ?_
    refine k_lstore (lv' := [(5, .long (fX11_get zO m_vs1 (pX11_reduces_17_S1 m_sew u2) (0 : Int32))), (4, .int (pX11_reduces_17_S1 m_sew u2)), (0, .ref b_m), (1, .int u1), (2, .int u2), (3, .int u3)]) X dX11_reduces_70 rfl rfl rfl ?_
    refine k_iconst X dX11_reduces_72 kc_i_0 rfl ?_
    refine k_istore (lv' := [(7, .int (0 : Int32)), (5, .long (fX11_get zO m_vs1 (pX11_reduces_17_S1 m_sew u2) (0 : Int32))), (4, .int (pX11_reduces_17_S1 m_sew u2)), (0, .ref b_m), (1, .int u1), (2, .int u2), (3, .int u3)]) X dX11_reduces_73 rfl rfl rfl ?_
    refine k_sub [3, 4, 5, 6, 2, 1, 0] (lv' := [(0, .ref b_m), (1, .int u1), (2, .int u2), (3, .int u3), (4, .int (pX11_reduces_17_S1 m_sew u2)), (5, .long (fX11_get zO m_vs1 (pX11_reduces_17_S1 m_sew u2) (0 : Int32))), (7, .int (0 : Int32))]) rfl ?_
    refine k_loop (KX11_reduces_75 m_vl m_vxrm m_vs2 m_sew m_unmasked zO u1 u2 u3) (LX11_reduces_75 m_vl m_vxrm m_vs2 m_sew m_unmasked zO u1 u2 u3) (fun s9 => (bX11_reduces_75_L7 m_vl s9.1 s9.2.1 s9.2.2, bX11_reduces_75_L5 m_vl m_vxrm m_vs2 m_sew m_unmasked zO u1 u2 u3 s9.1 s9.2.1 s9.2.2, bX11_reduces_75_m_vxsat m_vl m_vxrm m_vs2 m_sew m_unmasked zO u1 u2 u3 s9.1 s9.2.1 s9.2.2)) (fun s9 => tX11_reduces_75 m_vl s9.1 s9.2.1 s9.2.2 ∧ oX11_reduces_75 m_vl m_vs2 m_sew m_unmasked zO u1 u2 u3 s9.1 s9.2.1 s9.2.2) (fun s9 => [(b_m, .inr (10, [.int m_thrown, .ref b_zX, .ref b_zV, .ref b_zO, .ref m_memory, .ref m_shut, .long m_choices, .int m_vl, .int m_vtype, .int m_vstart, .int m_vxrm, .int s9.2.2, .int m_done, .int m_illegal, .int m_traps, .int m_trapAddress, .int m_word, .int m_vd, .int m_vs1, .int m_vs2, .int m_f3, .int m_f6, .int m_sew, .int m_l8, .int m_unmasked])), (b_zX, .inl (kI, 32, .inl zX)), (b_zV, .inl (kI, 512, .inl zV)), (b_zO, .inl (kI, 512, .inl zO))]) (fun s9 => [(0, .ref b_m), (1, .int u1), (2, .int u2), (3, .int u3), (4, .int (pX11_reduces_17_S1 m_sew u2)), (5, .long s9.2.1), (7, .int s9.1)]) 75 (fun _ => rfl) (fun _ _ => rfl) (fun _ _ h => h) ?_ (cnt (0 : Int32) m_vl) ((0 : Int32), (fX11_get zO m_vs1 (pX11_reduces_17_S1 m_sew u2) (0 : Int32)), m_vxsat) (hok.2.2.1 c3 c4 c5 c6) ?_
    · rintro ⟨w_L7, w_L5, w_m_vxsat⟩ ⟨hlat, hob⟩ g0
      try dsimp only at hlat hob g0 ⊢
      unfold oX11_reduces_75 at hob
      refine k_iload X dX11_reduces_75 6 rfl rfl ?_
      refine k_aload_n X dX11_reduces_77 rfl 0 rfl rfl ?_
      refine k_get X i_wsX110 0 7 q28_7 rfl rfl rfl rfl rfl dX11_reduces_78 rfl ?_
      refine k_icmp_ge (tgt := 161) X dX11_reduces_81 (by decide) rfl (fun c7 => ?_) (fun c7 => ?_)
      · skip
        exact absurd hlat (by rw [tX11_reduces_75, if_pos c7]; exact id)
      refine k_aload_n X dX11_reduces_84 rfl 0 rfl rfl ?_
      refine k_iload X dX11_reduces_85 6 rfl rfl ?_
      refine k_cV1 (st := []) (ws' := [(b_m, .inr (10, [.int m_thrown, .ref b_zX, .ref b_zV, .ref b_zO, .ref m_memory, .ref m_shut, .long m_choices, .int m_vl, .int m_vtype, .int m_vstart, .int m_vxrm, .int w_m_vxsat, .int m_done, .int m_illegal, .int m_traps, .int m_trapAddress, .int m_word, .int m_vd, .int m_vs1, .int m_vs2, .int m_f3, .int m_f6, .int m_sew, .int m_l8, .int m_unmasked])), (b_zX, .inl (kI, 32, .inl zX)), (b_zV, .inl (kI, 512, .inl zV)), (b_zO, .inl (kI, 512, .inl zO))]) (wr := [(b_zX, .inl (kI, 32, .inl zX)), (b_zV, .inl (kI, 512, .inl zV))]) (ci := 10) (q9 := 0) X [.int w_L7] 0 [0, 3] [1, 2] [2, 0, 1, 3] (kX11_isActive l D kI kZ b_m b_zO m_thrown b_zX b_zV m_memory m_shut m_choices m_vl m_vtype m_vstart m_vxrm w_m_vxsat m_done m_illegal m_traps m_trapAddress m_word m_vd m_vs1 m_vs2 m_f3 m_f6 m_sew m_l8 m_unmasked zO w_L7 (hob.1 c7)) vX11_isActive q31_6 dX11_reduces_87 rfl rfl rfl rfl rfl rfl rfl rfl rfl rfl rfl rfl rfl rfl rfl ?_
      refine k_mid2 [(b_m, .inr (10, [.int m_thrown, .ref b_zX, .ref b_zV, .ref b_zO, .ref m_memory, .ref m_shut, .long m_choices, .int m_vl, .int m_vtype, .int m_vstart, .int m_vxrm, .int (pX11_reduces_155_m_vxsat m_vxrm m_vs2 m_sew m_unmasked zO u1 u2 u3 w_L7 w_L5 w_m_vxsat), .int m_done, .int m_illegal, .int m_traps, .int m_trapAddress, .int m_word, .int m_vd, .int m_vs1, .int m_vs2, .int m_f3, .int m_f6, .int m_sew, .int m_l8, .int m_unmasked])), (b_zX, .inl (kI, 32, .inl zX)), (b_zV, .inl (kI, 512, .inl zV)), (b_zO, .inl (kI, 512, .inl zO))] [(0, .ref b_m), (1, .int u1), (2, .int u2), (3, .int u3), (4, .int (pX11_reduces_17_S1 m_sew u2)), (5, .long (pX11_reduces_155_L5 m_vxrm m_vs2 m_sew m_unmasked zO u1 u2 u3 w_L7 w_L5)), (7, .int w_L7)] [] 155 (fun hJ12 => ?_) ?_
      · skip
        refine k_if_ne (tgt := 96) X dX11_reduces_90 (by decide) rfl (fun c8 => ?_) (fun c8 => ?_)
        · skip
          refine k_goto (tgt := 155) X dX11_reduces_93 (by decide) ?_
          have e30 : (pX11_reduces_155_L5 m_vxrm m_vs2 m_sew m_unmasked zO u1 u2 u3 w_L7 w_L5) = w_L5 := by rw [pX11_reduces_155_L5, if_pos c8]
          rw [e30] at hJ12
          have e31 : (pX11_reduces_155_m_vxsat m_vxrm m_vs2 m_sew m_unmasked zO u1 u2 u3 w_L7 w_L5 w_m_vxsat) = w_m_vxsat := by rw [pX11_reduces_155_m_vxsat, if_pos c8]
          rw [e31] at hJ12
          exact k_sub [0, 1, 2, 3, 4, 5, 6] rfl hJ12
        refine k_aload_n X dX11_reduces_96 rfl 0 rfl rfl ?_
        refine k_aload_n X dX11_reduces_97 rfl 0 rfl rfl ?_
        refine k_get X i_wsX110 0 19 q27_6 rfl rfl rfl rfl rfl dX11_reduces_98 rfl ?_
        refine k_aload_n X dX11_reduces_101 rfl 0 rfl rfl ?_
        refine k_get X i_wsX110 0 22 q27_9 rfl rfl rfl rfl rfl dX11_reduces_102 rfl ?_
        refine k_iload X dX11_reduces_105 6 rfl rfl ?_
        refine k_cV1 (st := []) (ws' := [(b_m, .inr (10, [.int m_thrown, .ref b_zX, .ref b_zV, .ref b_zO, .ref m_memory, .ref m_shut, .long m_choices, .int m_vl, .int m_vtype, .int m_vstart, .int m_vxrm, .int w_m_vxsat, .int m_done, .int m_illegal, .int m_traps, .int m_trapAddress, .int m_word, .int m_vd, .int m_vs1, .int m_vs2, .int m_f3, .int m_f6, .int m_sew, .int m_l8, .int m_unmasked])), (b_zX, .inl (kI, 32, .inl zX)), (b_zV, .inl (kI, 512, .inl zV)), (b_zO, .inl (kI, 512, .inl zO))]) (wr := [(b_zX, .inl (kI, 32, .inl zX)), (b_zV, .inl (kI, 512, .inl zV))]) (ci := 10) (q9 := 0) X [.int m_vs2, .int m_sew, .int w_L7] 0 [0, 3] [1, 2] [2, 0, 1, 3] (kX11_get l D kI kZ b_m b_zO m_thrown b_zX b_zV m_memory m_shut m_choices m_vl m_vtype m_vstart m_vxrm w_m_vxsat m_done m_illegal m_traps m_trapAddress m_word m_vd m_vs1 m_vs2 m_f3 m_f6 m_sew m_l8 m_unmasked zO m_vs2 m_sew w_L7 (hob.2.1 c7 c8)) vX11_get q32_21 dX11_reduces_107 rfl rfl rfl rfl rfl rfl rfl rfl rfl rfl rfl rfl rfl rfl rfl ?_
        refine k_lstore (lv' := [(8, .long (fX11_get zO m_vs2 m_sew w_L7)), (0, .ref b_m), (1, .int u1), (2, .int u2), (3, .int u3), (4, .int (pX11_reduces_17_S1 m_sew u2)), (5, .long w_L5), (7, .int w_L7)]) X dX11_reduces_110 rfl rfl rfl ?_
        refine k_iload_n X dX11_reduces_112 rfl 3 rfl rfl ?_
        refine k_mid2 [(b_m, .inr (10, [.int m_thrown, .ref b_zX, .ref b_zV, .ref b_zO, .ref m_memory, .ref m_shut, .long m_choices, .int m_vl, .int m_vtype, .int m_vstart, .int m_vxrm, .int w_m_vxsat, .int m_done, .int m_illegal, .int m_traps, .int m_trapAddress, .int m_word, .int m_vd, .int m_vs1, .int m_vs2, .int m_f3, .int m_f6, .int m_sew, .int m_l8, .int m_unmasked])), (b_zX, .inl (kI, 32, .inl zX)), (b_zV, .inl (kI, 512, .inl zV)), (b_zO, .inl (kI, 512, .inl zO))] [(0, .ref b_m), (1, .int u1), (2, .int u2), (3, .int u3), (4, .int (pX11_reduces_17_S1 m_sew u2)), (5, .long w_L5), (7, .int w_L7), (8, .long (pX11_reduces_136_L8 m_vs2 m_sew zO u2 u3 w_L7))] [] 136 (fun hJ11 => ?_) ?_
        · skip
          refine k_if_eq (tgt := 136) X dX11_reduces_113 (by decide) rfl (fun c9 => ?_) (fun c9 => ?_)
          · skip
            have e32 : (pX11_reduces_136_L8 m_vs2 m_sew zO u2 u3 w_L7) = (fX11_get zO m_vs2 m_sew w_L7) := by rw [pX11_reduces_136_L8, if_pos c9]
            rw [e32] at hJ11
            exact k_sub [1, 2, 3, 4, 5, 6, 7, 0] rfl hJ11
          refine k_iload_n X dX11_reduces_116 rfl 4 rfl rfl ?_
          refine k_if_eq (tgt := 136) X dX11_reduces_117 (by decide) rfl (fun c10 => ?_) (fun c10 => ?_)
          · skip
            have e33 : (pX11_reduces_136_L8 m_vs2 m_sew zO u2 u3 w_L7) = (fX11_get zO m_vs2 m_sew w_L7) := by rw [pX11_reduces_136_L8, if_neg c9, if_pos c10]
            rw [e33] at hJ11
            exact k_sub [1, 2, 3, 4, 5, 6, 7, 0] rfl hJ11
          refine k_lload X dX11_reduces_120 0 rfl rfl ?_
          refine k_aload_n X dX11_reduces_122 rfl 1 rfl rfl ?_
          refine k_get X i_wsX110 0 22 q27_9 rfl rfl rfl rfl rfl dX11_reduces_123 rfl ?_
          refine k_cS1 (st := []) (ws' := [(b_m, .inr (10, [.int m_thrown, .ref b_zX, .ref b_zV, .ref b_zO, .ref m_memory, .ref m_shut, .long m_choices, .int m_vl, .int m_vtype, .int m_vstart, .int m_vxrm, .int w_m_vxsat, .int m_done, .int m_illegal, .int m_traps, .int m_trapAddress, .int m_word, .int m_vd, .int m_vs1, .int m_vs2, .int m_f3, .int m_f6, .int m_sew, .int m_l8, .int m_unmasked])), (b_zX, .inl (kI, 32, .inl zX)), (b_zV, .inl (kI, 512, .inl zV)), (b_zO, .inl (kI, 512, .inl zO))]) (wr := [(b_m, .inr (10, [.int m_thrown, .ref b_zX, .ref b_zV, .ref b_zO, .ref m_memory, .ref m_shut, .long m_choices, .int m_vl, .int m_vtype, .int m_vstart, .int m_vxrm, .int w_m_vxsat, .int m_done, .int m_illegal, .int m_traps, .int m_trapAddress, .int m_word, .int m_vd, .int m_vs1, .int m_vs2, .int m_f3, .int m_f6, .int m_sew, .int m_l8, .int m_unmasked])), (b_zX, .inl (kI, 32, .inl zX)), (b_zV, .inl (kI, 512, .inl zV)), (b_zO, .inl (kI, 512, .inl zO))]) X [.long (fX11_get zO m_vs2 m_sew w_L7), .int m_sew] 0 [] [0, 1, 2, 3] [0, 1, 2, 3] (kX11_signed l D kI kZ (fX11_get zO m_vs2 m_sew w_L7) m_sew) vX11_signed q33_20 dX11_reduces_126 rfl rfl rfl rfl rfl rfl rfl rfl rfl rfl rfl rfl rfl ?_
          refine k_iload X dX11_reduces_129 5 rfl rfl ?_
          refine k_cS1 (st := []) (ws' := [(b_m, .inr (10, [.int m_thrown, .ref b_zX, .ref b_zV, .ref b_zO, .ref m_memory, .ref m_shut, .long m_choices, .int m_vl, .int m_vtype, .int m_vstart, .int m_vxrm, .int w_m_vxsat, .int m_done, .int m_illegal, .int m_traps, .int m_trapAddress, .int m_word, .int m_vd, .int m_vs1, .int m_vs2, .int m_f3, .int m_f6, .int m_sew, .int m_l8, .int m_unmasked])), (b_zX, .inl (kI, 32, .inl zX)), (b_zV, .inl (kI, 512, .inl zV)), (b_zO, .inl (kI, 512, .inl zO))]) (wr := [(b_m, .inr (10, [.int m_thrown, .ref b_zX, .ref b_zV, .ref b_zO, .ref m_memory, .ref m_shut, .long m_choices, .int m_vl, .int m_vtype, .int m_vstart, .int m_vxrm, .int w_m_vxsat, .int m_done, .int m_illegal, .int m_traps, .int m_trapAddress, .int m_word, .int m_vd, .int m_vs1, .int m_vs2, .int m_f3, .int m_f6, .int m_sew, .int m_l8, .int m_unmasked])), (b_zX, .inl (kI, 32, .inl zX)), (b_zV, .inl (kI, 512, .inl zV)), (b_zO, .inl (kI, 512, .inl zO))]) X [.long (fX11_signed (fX11_get zO m_vs2 m_sew w_L7) m_sew), .int (pX11_reduces_17_S1 m_sew u2)] 0 [] [0, 1, 2, 3] [0, 1, 2, 3] (kX11_cut l D kI kZ (fX11_signed (fX11_get zO m_vs2 m_sew w_L7) m_sew) (pX11_reduces_17_S1 m_sew u2)) vX11_cut q32_10 dX11_reduces_131 rfl rfl rfl rfl rfl rfl rfl rfl rfl rfl rfl rfl rfl ?_
          refine k_foldl (v := (eX11_reduces_134 m_vs2 m_sew zO u2 w_L7)) rfl ?_
          refine k_lstore (lv' := [(8, .long (eX11_reduces_134 m_vs2 m_sew zO u2 w_L7)), (0, .ref b_m), (1, .int u1), (2, .int u2), (3, .int u3), (4, .int (pX11_reduces_17_S1 m_sew u2)), (5, .long w_L5), (7, .int w_L7)]) X dX11_reduces_134 rfl rfl rfl ?_
          have e34 : (pX11_reduces_136_L8 m_vs2 m_sew zO u2 u3 w_L7) = (eX11_reduces_134 m_vs2 m_sew zO u2 w_L7) := by rw [pX11_reduces_136_L8, if_neg c9, if_neg c10]
          rw [e34] at hJ11
          exact k_sub [1, 2, 3, 4, 5, 6, 7, 0] rfl hJ11
        refine k_aload_n X dX11_reduces_136 rfl 0 rfl rfl ?_
        refine k_iload_n X dX11_reduces_137 rfl 1 rfl rfl ?_
        refine k_lload X dX11_reduces_138 5 rfl rfl ?_
        refine k_lload X dX11_reduces_140 7 rfl rfl ?_
        refine k_lconst (v := (0 : Int64)) X dX11_reduces_142 rfl rfl ?_
        refine k_iload X dX11_reduces_143 4 rfl rfl ?_
        refine k_cV1 (st := []) (ws' := [(b_m, .inr (10, [.int m_thrown, .ref b_zX, .ref b_zV, .ref b_zO, .ref m_memory, .ref m_shut, .long m_choices, .int m_vl, .int m_vtype, .int m_vstart, .int m_vxrm, .int (fX11_made__m_vxsat m_vxrm w_m_vxsat u1 w_L5 (pX11_reduces_136_L8 m_vs2 m_sew zO u2 u3 w_L7) (pX11_reduces_17_S1 m_sew u2)), .int m_done, .int m_illegal, .int m_traps, .int m_trapAddress, .int m_word, .int m_vd, .int m_vs1, .int m_vs2, .int m_f3, .int m_f6, .int m_sew, .int m_l8, .int m_unmasked])), (b_zX, .inl (kI, 32, .inl zX)), (b_zV, .inl (kI, 512, .inl zV)), (b_zO, .inl (kI, 512, .inl zO))]) (wr := [(b_zX, .inl (kI, 32, .inl zX)), (b_zV, .inl (kI, 512, .inl zV)), (b_zO, .inl (kI, 512, .inl zO))]) (ci := 10) (q9 := 0) X [.int u1, .long w_L5, .long (pX11_reduces_136_L8 m_vs2 m_sew zO u2 u3 w_L7), .long (0 : Int64), .int (pX11_reduces_17_S1 m_sew u2)] 0 [0] [1, 2, 3] [3, 0, 1, 2] (kX11_made l D kI kZ b_m m_thrown b_zX b_zV b_zO m_memory m_shut m_choices m_vl m_vtype m_vstart m_vxrm w_m_vxsat m_done m_illegal m_traps m_trapAddress m_word m_vd m_vs1 m_vs2 m_f3 m_f6 m_sew m_l8 m_unmasked u1 w_L5 (pX11_reduces_136_L8 m_vs2 m_sew zO u2 u3 w_L7) (0 : Int64) (pX11_reduces_17_S1 m_sew u2) (hob.2.2 c7 c8)) vX11_made q33_13 dX11_reduces_145 rfl rfl rfl rfl rfl rfl rfl rfl rfl rfl rfl rfl rfl rfl rfl ?_
        refine k_iload X dX11_reduces_148 4 rfl rfl ?_
        refine k_cS1 (st := []) (ws' := [(b_m, .inr (10, [.int m_thrown, .ref b_zX, .ref b_zV, .ref b_zO, .ref m_memory, .ref m_shut, .long m_choices, .int m_vl, .int m_vtype, .int m_vstart, .int m_vxrm, .int (fX11_made__m_vxsat m_vxrm w_m_vxsat u1 w_L5 (pX11_reduces_136_L8 m_vs2 m_sew zO u2 u3 w_L7) (pX11_reduces_17_S1 m_sew u2)), .int m_done, .int m_illegal, .int m_traps, .int m_trapAddress, .int m_word, .int m_vd, .int m_vs1, .int m_vs2, .int m_f3, .int m_f6, .int m_sew, .int m_l8, .int m_unmasked])), (b_zX, .inl (kI, 32, .inl zX)), (b_zV, .inl (kI, 512, .inl zV)), (b_zO, .inl (kI, 512, .inl zO))]) (wr := [(b_m, .inr (10, [.int m_thrown, .ref b_zX, .ref b_zV, .ref b_zO, .ref m_memory, .ref m_shut, .long m_choices, .int m_vl, .int m_vtype, .int m_vstart, .int m_vxrm, .int (fX11_made__m_vxsat m_vxrm w_m_vxsat u1 w_L5 (pX11_reduces_136_L8 m_vs2 m_sew zO u2 u3 w_L7) (pX11_reduces_17_S1 m_sew u2)), .int m_done, .int m_illegal, .int m_traps, .int m_trapAddress, .int m_word, .int m_vd, .int m_vs1, .int m_vs2, .int m_f3, .int m_f6, .int m_sew, .int m_l8, .int m_unmasked])), (b_zX, .inl (kI, 32, .inl zX)), (b_zV, .inl (kI, 512, .inl zV)), (b_zO, .inl (kI, 512, .inl zO))]) X [.long (fX11_made m_vxrm u1 w_L5 (pX11_reduces_136_L8 m_vs2 m_sew zO u2 u3 w_L7) (0 : Int64) (pX11_reduces_17_S1 m_sew u2)), .int (pX11_reduces_17_S1 m_sew u2)] 0 [] [0, 1, 2, 3] [0, 1, 2, 3] (kX11_cut l D kI kZ (fX11_made m_vxrm u1 w_L5 (pX11_reduces_136_L8 m_vs2 m_sew zO u2 u3 w_L7) (0 : Int64) (pX11_reduces_17_S1 m_sew u2)) (pX11_reduces_17_S1 m_sew u2)) vX11_cut q32_10 dX11_reduces_150 rfl rfl rfl rfl rfl rfl rfl rfl rfl rfl rfl rfl rfl ?_
        refine k_foldl (v := (eX11_reduces_153 m_vxrm m_vs2 m_sew zO u1 u2 u3 w_L7 w_L5)) rfl ?_
        refine k_lstore (lv' := [(5, .long (eX11_reduces_153 m_vxrm m_vs2 m_sew zO u1 u2 u3 w_L7 w_L5)), (0, .ref b_m), (1, .int u1), (2, .int u2), (3, .int u3), (4, .int (pX11_reduces_17_S1 m_sew u2)), (7, .int w_L7), (8, .long (pX11_reduces_136_L8 m_vs2 m_sew zO u2 u3 w_L7))]) X dX11_reduces_153 rfl rfl rfl ?_
        have e35 : (pX11_reduces_155_L5 m_vxrm m_vs2 m_sew m_unmasked zO u1 u2 u3 w_L7 w_L5) = (eX11_reduces_153 m_vxrm m_vs2 m_sew zO u1 u2 u3 w_L7 w_L5) := by rw [pX11_reduces_155_L5, if_neg c8]
        rw [e35] at hJ12
        have e36 : (pX11_reduces_155_m_vxsat m_vxrm m_vs2 m_sew m_unmasked zO u1 u2 u3 w_L7 w_L5 w_m_vxsat) = (fX11_made__m_vxsat m_vxrm w_m_vxsat u1 w_L5 (pX11_reduces_136_L8 m_vs2 m_sew zO u2 u3 w_L7) (pX11_reduces_17_S1 m_sew u2)) := by rw [pX11_reduces_155_m_vxsat, if_neg c8]
        rw [e36] at hJ12
        exact k_sub [1, 2, 3, 4, 5, 0, 6] rfl hJ12
      refine k_iinc (lv' := [(7, .int (w_L7 + (1 : Int32))), (0, .ref b_m), (1, .int u1), (2, .int u2), (3, .int u3), (4, .int (pX11_reduces_17_S1 m_sew u2)), (5, .long (pX11_reduces_155_L5 m_vxrm m_vs2 m_sew m_unmasked zO u1 u2 u3 w_L7 w_L5))]) X dX11_reduces_155 6 rfl kc_i_1 rfl rfl rfl ?_
      refine k_goto (tgt := 75) X dX11_reduces_158 (by decide) ?_
      have e37 : bX11_reduces_75_L7 m_vl w_L7 w_L5 w_m_vxsat = (w_L7 + (1 : Int32)) := by rw [bX11_reduces_75_L7, if_neg c7]
      rw [e37] at g0
      have e38 : bX11_reduces_75_L5 m_vl m_vxrm m_vs2 m_sew m_unmasked zO u1 u2 u3 w_L7 w_L5 w_m_vxsat = (pX11_reduces_155_L5 m_vxrm m_vs2 m_sew m_unmasked zO u1 u2 u3 w_L7 w_L5) := by rw [bX11_reduces_75_L5, if_neg c7]
      rw [e38] at g0
      have e39 : bX11_reduces_75_m_vxsat m_vl m_vxrm m_vs2 m_sew m_unmasked zO u1 u2 u3 w_L7 w_L5 w_m_vxsat = (pX11_reduces_155_m_vxsat m_vxrm m_vs2 m_sew m_unmasked zO u1 u2 u3 w_L7 w_L5 w_m_vxsat) := by rw [bX11_reduces_75_m_vxsat, if_neg c7]
      rw [e39] at g0
      exact k_sub [1, 2, 3, 4, 5, 6, 0] rfl g0
    try dsimp only
    refine k_iload X dX11_reduces_75 6 rfl rfl ?_
    refine k_aload_n X dX11_reduces_77 rfl 0 rfl rfl ?_
    refine k_get X i_wsX110 0 7 q28_7 rfl rfl rfl rfl rfl dX11_reduces_78 rfl ?_
    refine k_icmp_ge (tgt := 161) X dX11_reduces_81 (by decide) rfl (fun c13 => ?_) (fun c13 => ?_)
    · skip
      refine k_aload_n X dX11_reduces_161 rfl 0 rfl rfl ?_
      refine k_aload_n X dX11_reduces_162 rfl 0 rfl rfl ?_
      refine k_get X i_wsX110 0 17 q27_3 rfl rfl rfl rfl rfl dX11_reduces_163 rfl ?_
      refine k_iload X dX11_reduces_166 4 rfl rfl ?_
      refine k_iconst X dX11_reduces_168 kc_i_0 rfl ?_
      refine k_lload X dX11_reduces_169 5 rfl rfl ?_
      refine k_cV0 (st := []) (ws' := [(b_m, .inr (10, [.int m_thrown, .ref b_zX, .ref b_zV, .ref b_zO, .ref m_memory, .ref m_shut, .long m_choices, .int m_vl, .int m_vtype, .int m_vstart, .int m_vxrm, .int ((LX11_reduces_75 m_vl m_vxrm m_vs2 m_sew m_unmasked zO u1 u2 u3 (cnt (0 : Int32) m_vl) ((0 : Int32), (fX11_get zO m_vs1 (pX11_reduces_17_S1 m_sew u2) (0 : Int32)), m_vxsat)).2.2), .int m_done, .int m_illegal, .int m_traps, .int m_trapAddress, .int m_word, .int m_vd, .int m_vs1, .int m_vs2, .int m_f3, .int m_f6, .int m_sew, .int m_l8, .int m_unmasked])), (b_zX, .inl (kI, 32, .inl zX)), (b_zV, .inl (kI, 512, .inl (fX11_put__zV zV m_vd (pX11_reduces_17_S1 m_sew u2) (0 : Int32) ((LX11_reduces_75 m_vl m_vxrm m_vs2 m_sew m_unmasked zO u1 u2 u3 (cnt (0 : Int32) m_vl) ((0 : Int32), (fX11_get zO m_vs1 (pX11_reduces_17_S1 m_sew u2) (0 : Int32)), m_vxsat)).2.1)))), (b_zO, .inl (kI, 512, .inl zO))]) (wr := [(b_zX, .inl (kI, 32, .inl zX)), (b_zO, .inl (kI, 512, .inl zO))]) (ci := 10) (q9 := 0) X [.int m_vd, .int (pX11_reduces_17_S1 m_sew u2), .int (0 : Int32), .long ((LX11_reduces_75 m_vl m_vxrm m_vs2 m_sew m_unmasked zO u1 u2 u3 (cnt (0 : Int32) m_vl) ((0 : Int32), (fX11_get zO m_vs1 (pX11_reduces_17_S1 m_sew u2) (0 : Int32)), m_vxsat)).2.1)] 0 [0, 2] [1, 3] [2, 0, 3, 1] (kX11_put l D kI kZ b_m b_zV m_thrown b_zX b_zO m_memory m_shut m_choices m_vl m_vtype m_vstart m_vxrm ((LX11_reduces_75 m_vl m_vxrm m_vs2 m_sew m_unmasked zO u1 u2 u3 (cnt (0 : Int32) m_vl) ((0 : Int32), (fX11_get zO m_vs1 (pX11_reduces_17_S1 m_sew u2) (0 : Int32)), m_vxsat)).2.2) m_done m_illegal m_traps m_trapAddress m_word m_vd m_vs1 m_vs2 m_f3 m_f6 m_sew m_l8 m_unmasked zV m_vd (pX11_reduces_17_S1 m_sew u2) (0 : Int32) ((LX11_reduces_75 m_vl m_vxrm m_vs2 m_sew m_unmasked zO u1 u2 u3 (cnt (0 : Int32) m_vl) ((0 : Int32), (fX11_get zO m_vs1 (pX11_reduces_17_S1 m_sew u2) (0 : Int32)), m_vxsat)).2.1) (hok.2.2.2.2.1 c3 c4 c5 c6 c13)) vX11_put q32_13 dX11_reduces_171 rfl rfl rfl rfl rfl rfl rfl rfl rfl rfl rfl rfl rfl rfl rfl ?_
      refine k_aload_n X dX11_reduces_174 rfl 0 rfl rfl ?_
      refine k_aload_n X dX11_reduces_175 rfl 0 rfl rfl ?_
      refine k_get X i_wsX110 0 17 q27_3 rfl rfl rfl rfl rfl dX11_reduces_176 rfl ?_
      refine k_iload X dX11_reduces_179 4 rfl rfl ?_
      refine k_bipush X dX11_reduces_181 kc_b_8 rfl ?_
      refine k_iconst X dX11_reduces_183 kc_i_1 rfl ?_
      refine k_cV0 (st := []) (ws' := [(b_m, .inr (10, [.int m_thrown, .ref b_zX, .ref b_zV, .ref b_zO, .ref m_memory, .ref m_shut, .long m_choices, .int m_vl, .int m_vtype, .int m_vstart, .int m_vxrm, .int ((LX11_reduces_75 m_vl m_vxrm m_vs2 m_sew m_unmasked zO u1 u2 u3 (cnt (0 : Int32) m_vl) ((0 : Int32), (fX11_get zO m_vs1 (pX11_reduces_17_S1 m_sew u2) (0 : Int32)), m_vxsat)).2.2), .int m_done, .int m_illegal, .int m_traps, .int m_trapAddress, .int m_word, .int m_vd, .int m_vs1, .int m_vs2, .int m_f3, .int m_f6, .int m_sew, .int m_l8, .int m_unmasked])), (b_zX, .inl (kI, 32, .inl zX)), (b_zV, .inl (kI, 512, .inl (fX11_tail__zV m_choices m_vtype (fX11_put__zV zV m_vd (pX11_reduces_17_S1 m_sew u2) (0 : Int32) ((LX11_reduces_75 m_vl m_vxrm m_vs2 m_sew m_unmasked zO u1 u2 u3 (cnt (0 : Int32) m_vl) ((0 : Int32), (fX11_get zO m_vs1 (pX11_reduces_17_S1 m_sew u2) (0 : Int32)), m_vxsat)).2.1)) m_vd (pX11_reduces_17_S1 m_sew u2) (8 : Int32) (1 : Int32)))), (b_zO, .inl (kI, 512, .inl zO))]) (wr := [(b_zX, .inl (kI, 32, .inl zX)), (b_zO, .inl (kI, 512, .inl zO))]) (ci := 10) (q9 := 0) X [.int m_vd, .int (pX11_reduces_17_S1 m_sew u2), .int (8 : Int32), .int (1 : Int32)] 0 [0, 2] [1, 3] [2, 0, 3, 1] (kX11_tail l D kI kZ b_m b_zV m_thrown b_zX b_zO m_memory m_shut m_choices m_vl m_vtype m_vstart m_vxrm ((LX11_reduces_75 m_vl m_vxrm m_vs2 m_sew m_unmasked zO u1 u2 u3 (cnt (0 : Int32) m_vl) ((0 : Int32), (fX11_get zO m_vs1 (pX11_reduces_17_S1 m_sew u2) (0 : Int32)), m_vxsat)).2.2) m_done m_illegal m_traps m_trapAddress m_word m_vd m_vs1 m_vs2 m_f3 m_f6 m_sew m_l8 m_unmasked (fX11_put__zV zV m_vd (pX11_reduces_17_S1 m_sew u2) (0 : Int32) ((LX11_reduces_75 m_vl m_vxrm m_vs2 m_sew m_unmasked zO u1 u2 u3 (cnt (0 : Int32) m_vl) ((0 : Int32), (fX11_get zO m_vs1 (pX11_reduces_17_S1 m_sew u2) (0 : Int32)), m_vxsat)).2.1)) m_vd (pX11_reduces_17_S1 m_sew u2) (8 : Int32) (1 : Int32) (hok.2.2.2.2.2.1 c3 c4 c5 c6 c13)) vX11_tail q34_11 dX11_reduces_184 rfl rfl rfl rfl rfl rfl rfl rfl rfl rfl rfl rfl rfl rfl rfl ?_
      refine k_iconst X dX11_reduces_187 kc_i_1 rfl ?_
      have e40 : (fX11_reduces m_vstart m_vs2 m_sew m_l8 u2) = (1 : Int32) := by rw [fX11_reduces, if_neg c3, if_neg c4, if_pos c5]
      have e41 : (fX11_reduces__m_vxsat m_vl m_vstart m_vxrm m_vxsat m_vs1 m_vs2 m_sew m_l8 m_unmasked zO u1 u2 u3) = ((LX11_reduces_75 m_vl m_vxrm m_vs2 m_sew m_unmasked zO u1 u2 u3 (cnt (0 : Int32) m_vl) ((0 : Int32), (fX11_get zO m_vs1 (pX11_reduces_17_S1 m_sew u2) (0 : Int32)), m_vxsat)).2.2) := by rw [fX11_reduces__m_vxsat, if_neg c3, if_neg c4, if_pos c5, if_neg c6]
      have e42 : (fX11_reduces__zV m_choices m_vl m_vtype m_vstart m_vxrm m_vxsat m_vd m_vs1 m_vs2 m_sew m_l8 m_unmasked zV zO u1 u2 u3) = (fX11_tail__zV m_choices m_vtype (fX11_put__zV zV m_vd (pX11_reduces_17_S1 m_sew u2) (0 : Int32) ((LX11_reduces_75 m_vl m_vxrm m_vs2 m_sew m_unmasked zO u1 u2 u3 (cnt (0 : Int32) m_vl) ((0 : Int32), (fX11_get zO m_vs1 (pX11_reduces_17_S1 m_sew u2) (0 : Int32)), m_vxsat)).2.1)) m_vd (pX11_reduces_17_S1 m_sew u2) (8 : Int32) (1 : Int32)) := by rw [fX11_reduces__zV, if_neg c3, if_neg c4, if_pos c5, if_neg c6]
      exact k_zret9 X hRt hLk rfl e40.symm (by rw [e41, e42]) dX11_reduces_188
    refine k_aload_n X dX11_reduces_84 rfl 0 rfl rfl ?_
    refine k_iload X dX11_reduces_85 6 rfl rfl ?_
    refine k_cV1 (st := []) (ws' := [(b_m, .inr (10, [.int m_thrown, .ref b_zX, .ref b_zV, .ref b_zO, .ref m_memory, .ref m_shut, .long m_choices, .int m_vl, .int m_vtype, .int m_vstart, .int m_vxrm, .int ((LX11_reduces_75 m_vl m_vxrm m_vs2 m_sew m_unmasked zO u1 u2 u3 (cnt (0 : Int32) m_vl) ((0 : Int32), (fX11_get zO m_vs1 (pX11_reduces_17_S1 m_sew u2) (0 : Int32)), m_vxsat)).2.2), .int m_done, .int m_illegal, .int m_traps, .int m_trapAddress, .int m_word, .int m_vd, .int m_vs1, .int m_vs2, .int m_f3, .int m_f6, .int m_sew, .int m_l8, .int m_unmasked])), (b_zX, .inl (kI, 32, .inl zX)), (b_zV, .inl (kI, 512, .inl zV)), (b_zO, .inl (kI, 512, .inl zO))]) (wr := [(b_zX, .inl (kI, 32, .inl zX)), (b_zV, .inl (kI, 512, .inl zV))]) (ci := 10) (q9 := 0) X [.int ((LX11_reduces_75 m_vl m_vxrm m_vs2 m_sew m_unmasked zO u1 u2 u3 (cnt (0 : Int32) m_vl) ((0 : Int32), (fX11_get zO m_vs1 (pX11_reduces_17_S1 m_sew u2) (0 : Int32)), m_vxsat)).1)] 0 [0, 3] [1, 2] [2, 0, 1, 3] (kX11_isActive l D kI kZ b_m b_zO m_thrown b_zX b_zV m_memory m_shut m_choices m_vl m_vtype m_vstart m_vxrm ((LX11_reduces_75 m_vl m_vxrm m_vs2 m_sew m_unmasked zO u1 u2 u3 (cnt (0 : Int32) m_vl) ((0 : Int32), (fX11_get zO m_vs1 (pX11_reduces_17_S1 m_sew u2) (0 : Int32)), m_vxsat)).2.2) m_done m_illegal m_traps m_trapAddress m_word m_vd m_vs1 m_vs2 m_f3 m_f6 m_sew m_l8 m_unmasked zO ((LX11_reduces_75 m_vl m_vxrm m_vs2 m_sew m_unmasked zO u1 u2 u3 (cnt (0 : Int32) m_vl) ((0 : Int32), (fX11_get zO m_vs1 (pX11_reduces_17_S1 m_sew u2) (0 : Int32)), m_vxsat)).1) (hok.2.2.2.2.2.2.1 c3 c4 c5 c6 c13)) vX11_isActive q31_6 dX11_reduces_87 rfl rfl rfl rfl rfl rfl rfl rfl rfl rfl rfl rfl rfl rfl rfl ?_
    refine k_mid2 [(b_m, .inr (10, [.int m_thrown, .ref b_zX, .ref b_zV, .ref b_zO, .ref m_memory, .ref m_shut, .long m_choices, .int m_vl, .int m_vtype, .int m_vstart, .int m_vxrm, .int (pX11_reduces_155_m_vxsat m_vxrm m_vs2 m_sew m_unmasked zO u1 u2 u3 ((LX11_reduces_75 m_vl m_vxrm m_vs2 m_sew m_unmasked zO u1 u2 u3 (cnt (0 : Int32) m_vl) ((0 : Int32), (fX11_get zO m_vs1 (pX11_reduces_17_S1 m_sew u2) (0 : Int32)), m_vxsat)).1) ((LX11_reduces_75 m_vl m_vxrm m_vs2 m_sew m_unmasked zO u1 u2 u3 (cnt (0 : Int32) m_vl) ((0 : Int32), (fX11_get zO m_vs1 (pX11_reduces_17_S1 m_sew u2) (0 : Int32)), m_vxsat)).2.1) ((LX11_reduces_75 m_vl m_vxrm m_vs2 m_sew m_unmasked zO u1 u2 u3 (cnt (0 : Int32) m_vl) ((0 : Int32), (fX11_get zO m_vs1 (pX11_reduces_17_S1 m_sew u2) (0 : Int32)), m_vxsat)).2.2)), .int m_done, .int m_illegal, .int m_traps, .int m_trapAddress, .int m_word, .int m_vd, .int m_vs1, .int m_vs2, .int m_f3, .int m_f6, .int m_sew, .int m_l8, .int m_unmasked])), (b_zX, .inl (kI, 32, .inl zX)), (b_zV, .inl (kI, 512, .inl zV)), (b_zO, .inl (kI, 512, .inl zO))] [(0, .ref b_m), (1, .int u1), (2, .int u2), (3, .int u3), (4, .int (pX11_reduces_17_S1 m_sew u2)), (5, .long (pX11_reduces_155_L5 m_vxrm m_vs2 m_sew m_unmasked zO u1 u2 u3 ((LX11_reduces_75 m_vl m_vxrm m_vs2 m_sew m_unmasked zO u1 u2 u3 (cnt (0 : Int32) m_vl) ((0 : Int32), (fX11_get zO m_vs1 (pX11_reduces_17_S1 m_sew u2) (0 : Int32)), m_vxsat)).1) ((LX11_reduces_75 m_vl m_vxrm m_vs2 m_sew m_unmasked zO u1 u2 u3 (cnt (0 : Int32) m_vl) ((0 : Int32), (fX11_get zO m_vs1 (pX11_reduces_17_S1 m_sew u2) (0 : Int32)), m_vxsat)).2.1))), (7, .int ((LX11_reduces_75 m_vl m_vxrm m_vs2 m_sew m_unmasked zO u1 u2 u3 (cnt (0 : Int32) m_vl) ((0 : Int32), (fX11_get zO m_vs1 (pX11_reduces_17_S1 m_sew u2) (0 : Int32)), m_vxsat)).1))] [] 155 (fun hJ18 => ?_) ?_
    · skip
      refine k_if_ne (tgt := 96) X dX11_reduces_90 (by decide) rfl (fun c14 => ?_) (fun c14 => ?_)
      · skip
        refine k_goto (tgt := 155) X dX11_reduces_93 (by decide) ?_
        have e43 : (pX11_reduces_155_L5 m_vxrm m_vs2 m_sew m_unmasked zO u1 u2 u3 ((LX11_reduces_75 m_vl m_vxrm m_vs2 m_sew m_unmasked zO u1 u2 u3 (cnt (0 : Int32) m_vl) ((0 : Int32), (fX11_get zO m_vs1 (pX11_reduces_17_S1 m_sew u2) (0 : Int32)), m_vxsat)).1) ((LX11_reduces_75 m_vl m_vxrm m_vs2 m_sew m_unmasked zO u1 u2 u3 (cnt (0 : Int32) m_vl) ((0 : Int32), (fX11_get zO m_vs1 (pX11_reduces_17_S1 m_sew u2) (0 : Int32)), m_vxsat)).2.1)) = (LX11_reduces_75 m_vl m_vxrm m_vs2 m_sew m_unmasked zO u1 u2 u3 (cnt (0 : Int32) m_vl) ((0 : Int32), (fX11_get zO m_vs1 (pX11_reduces_17_S1 m_sew u2) (0 : Int32)), m_vxsat)).2.1 := by rw [pX11_reduces_155_L5, if_pos c14]
        rw [e43] at hJ18
        have e44 : (pX11_reduces_155_m_vxsat m_vxrm m_vs2 m_sew m_unmasked zO u1 u2 u3 ((LX11_reduces_75 m_vl m_vxrm m_vs2 m_sew m_unmasked zO u1 u2 u3 (cnt (0 : Int32) m_vl) ((0 : Int32), (fX11_get zO m_vs1 (pX11_reduces_17_S1 m_sew u2) (0 : Int32)), m_vxsat)).1) ((LX11_reduces_75 m_vl m_vxrm m_vs2 m_sew m_unmasked zO u1 u2 u3 (cnt (0 : Int32) m_vl) ((0 : Int32), (fX11_get zO m_vs1 (pX11_reduces_17_S1 m_sew u2) (0 : Int32)), m_vxsat)).2.1) ((LX11_reduces_75 m_vl m_vxrm m_vs2 m_sew m_unmasked zO u1 u2 u3 (cnt (0 : Int32) m_vl) ((0 : Int32), (fX11_get zO m_vs1 (pX11_reduces_17_S1 m_sew u2) (0 : Int32)), m_vxsat)).2.2)) = ((LX11_reduces_75 m_vl m_vxrm m_vs2 m_sew m_unmasked zO u1 u2 u3 (cnt (0 : Int32) m_vl) ((0 : Int32), (fX11_get zO m_vs1 (pX11_reduces_17_S1 m_sew u2) (0 : Int32)), m_vxsat)).2.2) := by rw [pX11_reduces_155_m_vxsat, if_pos c14]
        rw [e44] at hJ18
        exact k_sub [0, 1, 2, 3, 4, 5, 6] rfl hJ18
      refine k_aload_n X dX11_reduces_96 rfl 0 rfl rfl ?_
      refine k_aload_n X dX11_reduces_97 rfl 0 rfl rfl ?_
      refine k_get X i_wsX110 0 19 q27_6 rfl rfl rfl rfl rfl dX11_reduces_98 rfl ?_
      refine k_aload_n X dX11_reduces_101 rfl 0 rfl rfl ?_
      refine k_get X i_wsX110 0 22 q27_9 rfl rfl rfl rfl rfl dX11_reduces_102 rfl ?_
      refine k_iload X dX11_reduces_105 6 rfl rfl ?_
      refine k_cV1 (st := []) (ws' := [(b_m, .inr (10, [.int m_thrown, .ref b_zX, .ref b_zV, .ref b_zO, .ref m_memory, .ref m_shut, .long m_choices, .int m_vl, .int m_vtype, .int m_vstart, .int m_vxrm, .int ((LX11_reduces_75 m_vl m_vxrm m_vs2 m_sew m_unmasked zO u1 u2 u3 (cnt (0 : Int32) m_vl) ((0 : Int32), (fX11_get zO m_vs1 (pX11_reduces_17_S1 m_sew u2) (0 : Int32)), m_vxsat)).2.2), .int m_done, .int m_illegal, .int m_traps, .int m_trapAddress, .int m_word, .int m_vd, .int m_vs1, .int m_vs2, .int m_f3, .int m_f6, .int m_sew, .int m_l8, .int m_unmasked])), (b_zX, .inl (kI, 32, .inl zX)), (b_zV, .inl (kI, 512, .inl zV)), (b_zO, .inl (kI, 512, .inl zO))]) (wr := [(b_zX, .inl (kI, 32, .inl zX)), (b_zV, .inl (kI, 512, .inl zV))]) (ci := 10) (q9 := 0) X [.int m_vs2, .int m_sew, .int ((LX11_reduces_75 m_vl m_vxrm m_vs2 m_sew m_unmasked zO u1 u2 u3 (cnt (0 : Int32) m_vl) ((0 : Int32), (fX11_get zO m_vs1 (pX11_reduces_17_S1 m_sew u2) (0 : Int32)), m_vxsat)).1)] 0 [0, 3] [1, 2] [2, 0, 1, 3] (kX11_get l D kI kZ b_m b_zO m_thrown b_zX b_zV m_memory m_shut m_choices m_vl m_vtype m_vstart m_vxrm ((LX11_reduces_75 m_vl m_vxrm m_vs2 m_sew m_unmasked zO u1 u2 u3 (cnt (0 : Int32) m_vl) ((0 : Int32), (fX11_get zO m_vs1 (pX11_reduces_17_S1 m_sew u2) (0 : Int32)), m_vxsat)).2.2) m_done m_illegal m_traps m_trapAddress m_word m_vd m_vs1 m_vs2 m_f3 m_f6 m_sew m_l8 m_unmasked zO m_vs2 m_sew ((LX11_reduces_75 m_vl m_vxrm m_vs2 m_sew m_unmasked zO u1 u2 u3 (cnt (0 : Int32) m_vl) ((0 : Int32), (fX11_get zO m_vs1 (pX11_reduces_17_S1 m_sew u2) (0 : Int32)), m_vxsat)).1) (hok.2.2.2.2.2.2.2.1 c3 c4 c5 c6 c13 c14)) vX11_get q32_21 dX11_reduces_107 rfl rfl rfl rfl rfl rfl rfl rfl rfl rfl rfl rfl rfl rfl rfl ?_
      refine k_lstore (lv' := [(8, .long (fX11_get zO m_vs2 m_sew ((LX11_reduces_75 m_vl m_vxrm m_vs2 m_sew m_unmasked zO u1 u2 u3 (cnt (0 : Int32) m_vl) ((0 : Int32), (fX11_get zO m_vs1 (pX11_reduces_17_S1 m_sew u2) (0 : Int32)), m_vxsat)).1))), (0, .ref b_m), (1, .int u1), (2, .int u2), (3, .int u3), (4, .int (pX11_reduces_17_S1 m_sew u2)), (5, .long ((LX11_reduces_75 m_vl m_vxrm m_vs2 m_sew m_unmasked zO u1 u2 u3 (cnt (0 : Int32) m_vl) ((0 : Int32), (fX11_get zO m_vs1 (pX11_reduces_17_S1 m_sew u2) (0 : Int32)), m_vxsat)).2.1)), (7, .int ((LX11_reduces_75 m_vl m_vxrm m_vs2 m_sew m_unmasked zO u1 u2 u3 (cnt (0 : Int32) m_vl) ((0 : Int32), (fX11_get zO m_vs1 (pX11_reduces_17_S1 m_sew u2) (0 : Int32)), m_vxsat)).1))]) X dX11_reduces_110 rfl rfl rfl ?_
      refine k_iload_n X dX11_reduces_112 rfl 3 rfl rfl ?_
      refine k_mid2 [(b_m, .inr (10, [.int m_thrown, .ref b_zX, .ref b_zV, .ref b_zO, .ref m_memory, .ref m_shut, .long m_choices, .int m_vl, .int m_vtype, .int m_vstart, .int m_vxrm, .int ((LX11_reduces_75 m_vl m_vxrm m_vs2 m_sew m_unmasked zO u1 u2 u3 (cnt (0 : Int32) m_vl) ((0 : Int32), (fX11_get zO m_vs1 (pX11_reduces_17_S1 m_sew u2) (0 : Int32)), m_vxsat)).2.2), .int m_done, .int m_illegal, .int m_traps, .int m_trapAddress, .int m_word, .int m_vd, .int m_vs1, .int m_vs2, .int m_f3, .int m_f6, .int m_sew, .int m_l8, .int m_unmasked])), (b_zX, .inl (kI, 32, .inl zX)), (b_zV, .inl (kI, 512, .inl zV)), (b_zO, .inl (kI, 512, .inl zO))] [(0, .ref b_m), (1, .int u1), (2, .int u2), (3, .int u3), (4, .int (pX11_reduces_17_S1 m_sew u2)), (5, .long ((LX11_reduces_75 m_vl m_vxrm m_vs2 m_sew m_unmasked zO u1 u2 u3 (cnt (0 : Int32) m_vl) ((0 : Int32), (fX11_get zO m_vs1 (pX11_reduces_17_S1 m_sew u2) (0 : Int32)), m_vxsat)).2.1)), (7, .int ((LX11_reduces_75 m_vl m_vxrm m_vs2 m_sew m_unmasked zO u1 u2 u3 (cnt (0 : Int32) m_vl) ((0 : Int32), (fX11_get zO m_vs1 (pX11_reduces_17_S1 m_sew u2) (0 : Int32)), m_vxsat)).1)), (8, .long (pX11_reduces_136_L8 m_vs2 m_sew zO u2 u3 ((LX11_reduces_75 m_vl m_vxrm m_vs2 m_sew m_unmasked zO u1 u2 u3 (cnt (0 : Int32) m_vl) ((0 : Int32), (fX11_get zO m_vs1 (pX11_reduces_17_S1 m_sew u2) (0 : Int32)), m_vxsat)).1)))] [] 136 (fun hJ17 => ?_) ?_
      · skip
        refine k_if_eq (tgt := 136) X dX11_reduces_113 (by decide) rfl (fun c15 => ?_) (fun c15 => ?_)
        · skip
          have e45 : (pX11_reduces_136_L8 m_vs2 m_sew zO u2 u3 ((LX11_reduces_75 m_vl m_vxrm m_vs2 m_sew m_unmasked zO u1 u2 u3 (cnt (0 : Int32) m_vl) ((0 : Int32), (fX11_get zO m_vs1 (pX11_reduces_17_S1 m_sew u2) (0 : Int32)), m_vxsat)).1)) = (fX11_get zO m_vs2 m_sew ((LX11_reduces_75 m_vl m_vxrm m_vs2 m_sew m_unmasked zO u1 u2 u3 (cnt (0 : Int32) m_vl) ((0 : Int32), (fX11_get zO m_vs1 (pX11_reduces_17_S1 m_sew u2) (0 : Int32)), m_vxsat)).1)) := by rw [pX11_reduces_136_L8, if_pos c15]
          rw [e45] at hJ17
          exact k_sub [1, 2, 3, 4, 5, 6, 7, 0] rfl hJ17
        refine k_iload_n X dX11_reduces_116 rfl 4 rfl rfl ?_
        refine k_if_eq (tgt := 136) X dX11_reduces_117 (by decide) rfl (fun c16 => ?_) (fun c16 => ?_)
        · skip
          have e46 : (pX11_reduces_136_L8 m_vs2 m_sew zO u2 u3 ((LX11_reduces_75 m_vl m_vxrm m_vs2 m_sew m_unmasked zO u1 u2 u3 (cnt (0 : Int32) m_vl) ((0 : Int32), (fX11_get zO m_vs1 (pX11_reduces_17_S1 m_sew u2) (0 : Int32)), m_vxsat)).1)) = (fX11_get zO m_vs2 m_sew ((LX11_reduces_75 m_vl m_vxrm m_vs2 m_sew m_unmasked zO u1 u2 u3 (cnt (0 : Int32) m_vl) ((0 : Int32), (fX11_get zO m_vs1 (pX11_reduces_17_S1 m_sew u2) (0 : Int32)), m_vxsat)).1)) := by rw [pX11_reduces_136_L8, if_neg c15, if_pos c16]
          rw [e46] at hJ17
          exact k_sub [1, 2, 3, 4, 5, 6, 7, 0] rfl hJ17
        refine k_lload X dX11_reduces_120 0 rfl rfl ?_
        refine k_aload_n X dX11_reduces_122 rfl 1 rfl rfl ?_
        refine k_get X i_wsX110 0 22 q27_9 rfl rfl rfl rfl rfl dX11_reduces_123 rfl ?_
        refine k_cS1 (st := []) (ws' := [(b_m, .inr (10, [.int m_thrown, .ref b_zX, .ref b_zV, .ref b_zO, .ref m_memory, .ref m_shut, .long m_choices, .int m_vl, .int m_vtype, .int m_vstart, .int m_vxrm, .int ((LX11_reduces_75 m_vl m_vxrm m_vs2 m_sew m_unmasked zO u1 u2 u3 (cnt (0 : Int32) m_vl) ((0 : Int32), (fX11_get zO m_vs1 (pX11_reduces_17_S1 m_sew u2) (0 : Int32)), m_vxsat)).2.2), .int m_done, .int m_illegal, .int m_traps, .int m_trapAddress, .int m_word, .int m_vd, .int m_vs1, .int m_vs2, .int m_f3, .int m_f6, .int m_sew, .int m_l8, .int m_unmasked])), (b_zX, .inl (kI, 32, .inl zX)), (b_zV, .inl (kI, 512, .inl zV)), (b_zO, .inl (kI, 512, .inl zO))]) (wr := [(b_m, .inr (10, [.int m_thrown, .ref b_zX, .ref b_zV, .ref b_zO, .ref m_memory, .ref m_shut, .long m_choices, .int m_vl, .int m_vtype, .int m_vstart, .int m_vxrm, .int ((LX11_reduces_75 m_vl m_vxrm m_vs2 m_sew m_unmasked zO u1 u2 u3 (cnt (0 : Int32) m_vl) ((0 : Int32), (fX11_get zO m_vs1 (pX11_reduces_17_S1 m_sew u2) (0 : Int32)), m_vxsat)).2.2), .int m_done, .int m_illegal, .int m_traps, .int m_trapAddress, .int m_word, .int m_vd, .int m_vs1, .int m_vs2, .int m_f3, .int m_f6, .int m_sew, .int m_l8, .int m_unmasked])), (b_zX, .inl (kI, 32, .inl zX)), (b_zV, .inl (kI, 512, .inl zV)), (b_zO, .inl (kI, 512, .inl zO))]) X [.long (fX11_get zO m_vs2 m_sew ((LX11_reduces_75 m_vl m_vxrm m_vs2 m_sew m_unmasked zO u1 u2 u3 (cnt (0 : Int32) m_vl) ((0 : Int32), (fX11_get zO m_vs1 (pX11_reduces_17_S1 m_sew u2) (0 : Int32)), m_vxsat)).1)), .int m_sew] 0 [] [0, 1, 2, 3] [0, 1, 2, 3] (kX11_signed l D kI kZ (fX11_get zO m_vs2 m_sew ((LX11_reduces_75 m_vl m_vxrm m_vs2 m_sew m_unmasked zO u1 u2 u3 (cnt (0 : Int32) m_vl) ((0 : Int32), (fX11_get zO m_vs1 (pX11_reduces_17_S1 m_sew u2) (0 : Int32)), m_vxsat)).1)) m_sew) vX11_signed q33_20 dX11_reduces_126 rfl rfl rfl rfl rfl rfl rfl rfl rfl rfl rfl rfl rfl ?_
        refine k_iload X dX11_reduces_129 5 rfl rfl ?_
        refine k_cS1 (st := []) (ws' := [(b_m, .inr (10, [.int m_thrown, .ref b_zX, .ref b_zV, .ref b_zO, .ref m_memory, .ref m_shut, .long m_choices, .int m_vl, .int m_vtype, .int m_vstart, .int m_vxrm, .int ((LX11_reduces_75 m_vl m_vxrm m_vs2 m_sew m_unmasked zO u1 u2 u3 (cnt (0 : Int32) m_vl) ((0 : Int32), (fX11_get zO m_vs1 (pX11_reduces_17_S1 m_sew u2) (0 : Int32)), m_vxsat)).2.2), .int m_done, .int m_illegal, .int m_traps, .int m_trapAddress, .int m_word, .int m_vd, .int m_vs1, .int m_vs2, .int m_f3, .int m_f6, .int m_sew, .int m_l8, .int m_unmasked])), (b_zX, .inl (kI, 32, .inl zX)), (b_zV, .inl (kI, 512, .inl zV)), (b_zO, .inl (kI, 512, .inl zO))]) (wr := [(b_m, .inr (10, [.int m_thrown, .ref b_zX, .ref b_zV, .ref b_zO, .ref m_memory, .ref m_shut, .long m_choices, .int m_vl, .int m_vtype, .int m_vstart, .int m_vxrm, .int ((LX11_reduces_75 m_vl m_vxrm m_vs2 m_sew m_unmasked zO u1 u2 u3 (cnt (0 : Int32) m_vl) ((0 : Int32), (fX11_get zO m_vs1 (pX11_reduces_17_S1 m_sew u2) (0 : Int32)), m_vxsat)).2.2), .int m_done, .int m_illegal, .int m_traps, .int m_trapAddress, .int m_word, .int m_vd, .int m_vs1, .int m_vs2, .int m_f3, .int m_f6, .int m_sew, .int m_l8, .int m_unmasked])), (b_zX, .inl (kI, 32, .inl zX)), (b_zV, .inl (kI, 512, .inl zV)), (b_zO, .inl (kI, 512, .inl zO))]) X [.long (fX11_signed (fX11_get zO m_vs2 m_sew ((LX11_reduces_75 m_vl m_vxrm m_vs2 m_sew m_unmasked zO u1 u2 u3 (cnt (0 : Int32) m_vl) ((0 : Int32), (fX11_get zO m_vs1 (pX11_reduces_17_S1 m_sew u2) (0 : Int32)), m_vxsat)).1)) m_sew), .int (pX11_reduces_17_S1 m_sew u2)] 0 [] [0, 1, 2, 3] [0, 1, 2, 3] (kX11_cut l D kI kZ (fX11_signed (fX11_get zO m_vs2 m_sew ((LX11_reduces_75 m_vl m_vxrm m_vs2 m_sew m_unmasked zO u1 u2 u3 (cnt (0 : Int32) m_vl) ((0 : Int32), (fX11_get zO m_vs1 (pX11_reduces_17_S1 m_sew u2) (0 : Int32)), m_vxsat)).1)) m_sew) (pX11_reduces_17_S1 m_sew u2)) vX11_cut q32_10 dX11_reduces_131 rfl rfl rfl rfl rfl rfl rfl rfl rfl rfl rfl rfl rfl ?_
        refine k_foldl (v := (eX11_reduces_134 m_vs2 m_sew zO u2 ((LX11_reduces_75 m_vl m_vxrm m_vs2 m_sew m_unmasked zO u1 u2 u3 (cnt (0 : Int32) m_vl) ((0 : Int32), (fX11_get zO m_vs1 (pX11_reduces_17_S1 m_sew u2) (0 : Int32)), m_vxsat)).1))) rfl ?_
        refine k_lstore (lv' := [(8, .long (eX11_reduces_134 m_vs2 m_sew zO u2 ((LX11_reduces_75 m_vl m_vxrm m_vs2 m_sew m_unmasked zO u1 u2 u3 (cnt (0 : Int32) m_vl) ((0 : Int32), (fX11_get zO m_vs1 (pX11_reduces_17_S1 m_sew u2) (0 : Int32)), m_vxsat)).1))), (0, .ref b_m), (1, .int u1), (2, .int u2), (3, .int u3), (4, .int (pX11_reduces_17_S1 m_sew u2)), (5, .long ((LX11_reduces_75 m_vl m_vxrm m_vs2 m_sew m_unmasked zO u1 u2 u3 (cnt (0 : Int32) m_vl) ((0 : Int32), (fX11_get zO m_vs1 (pX11_reduces_17_S1 m_sew u2) (0 : Int32)), m_vxsat)).2.1)), (7, .int ((LX11_reduces_75 m_vl m_vxrm m_vs2 m_sew m_unmasked zO u1 u2 u3 (cnt (0 : Int32) m_vl) ((0 : Int32), (fX11_get zO m_vs1 (pX11_reduces_17_S1 m_sew u2) (0 : Int32)), m_vxsat)).1))]) X dX11_reduces_134 rfl rfl rfl ?_
        have e47 : (pX11_reduces_136_L8 m_vs2 m_sew zO u2 u3 ((LX11_reduces_75 m_vl m_vxrm m_vs2 m_sew m_unmasked zO u1 u2 u3 (cnt (0 : Int32) m_vl) ((0 : Int32), (fX11_get zO m_vs1 (pX11_reduces_17_S1 m_sew u2) (0 : Int32)), m_vxsat)).1)) = (eX11_reduces_134 m_vs2 m_sew zO u2 ((LX11_reduces_75 m_vl m_vxrm m_vs2 m_sew m_unmasked zO u1 u2 u3 (cnt (0 : Int32) m_vl) ((0 : Int32), (fX11_get zO m_vs1 (pX11_reduces_17_S1 m_sew u2) (0 : Int32)), m_vxsat)).1)) := by rw [pX11_reduces_136_L8, if_neg c15, if_neg c16]
        rw [e47] at hJ17
        exact k_sub [1, 2, 3, 4, 5, 6, 7, 0] rfl hJ17
      refine k_aload_n X dX11_reduces_136 rfl 0 rfl rfl ?_
      refine k_iload_n X dX11_reduces_137 rfl 1 rfl rfl ?_
      refine k_lload X dX11_reduces_138 5 rfl rfl ?_
      refine k_lload X dX11_reduces_140 7 rfl rfl ?_
      refine k_lconst (v := (0 : Int64)) X dX11_reduces_142 rfl rfl ?_
      refine k_iload X dX11_reduces_143 4 rfl rfl ?_
      refine k_cV1 (st := []) (ws' := [(b_m, .inr (10, [.int m_thrown, .ref b_zX, .ref b_zV, .ref b_zO, .ref m_memory, .ref m_shut, .long m_choices, .int m_vl, .int m_vtype, .int m_vstart, .int m_vxrm, .int (fX11_made__m_vxsat m_vxrm ((LX11_reduces_75 m_vl m_vxrm m_vs2 m_sew m_unmasked zO u1 u2 u3 (cnt (0 : Int32) m_vl) ((0 : Int32), (fX11_get zO m_vs1 (pX11_reduces_17_S1 m_sew u2) (0 : Int32)), m_vxsat)).2.2) u1 ((LX11_reduces_75 m_vl m_vxrm m_vs2 m_sew m_unmasked zO u1 u2 u3 (cnt (0 : Int32) m_vl) ((0 : Int32), (fX11_get zO m_vs1 (pX11_reduces_17_S1 m_sew u2) (0 : Int32)), m_vxsat)).2.1) (pX11_reduces_136_L8 m_vs2 m_sew zO u2 u3 ((LX11_reduces_75 m_vl m_vxrm m_vs2 m_sew m_unmasked zO u1 u2 u3 (cnt (0 : Int32) m_vl) ((0 : Int32), (fX11_get zO m_vs1 (pX11_reduces_17_S1 m_sew u2) (0 : Int32)), m_vxsat)).1)) (pX11_reduces_17_S1 m_sew u2)), .int m_done, .int m_illegal, .int m_traps, .int m_trapAddress, .int m_word, .int m_vd, .int m_vs1, .int m_vs2, .int m_f3, .int m_f6, .int m_sew, .int m_l8, .int m_unmasked])), (b_zX, .inl (kI, 32, .inl zX)), (b_zV, .inl (kI, 512, .inl zV)), (b_zO, .inl (kI, 512, .inl zO))]) (wr := [(b_zX, .inl (kI, 32, .inl zX)), (b_zV, .inl (kI, 512, .inl zV)), (b_zO, .inl (kI, 512, .inl zO))]) (ci := 10) (q9 := 0) X [.int u1, .long ((LX11_reduces_75 m_vl m_vxrm m_vs2 m_sew m_unmasked zO u1 u2 u3 (cnt (0 : Int32) m_vl) ((0 : Int32), (fX11_get zO m_vs1 (pX11_reduces_17_S1 m_sew u2) (0 : Int32)), m_vxsat)).2.1), .long (pX11_reduces_136_L8 m_vs2 m_sew zO u2 u3 ((LX11_reduces_75 m_vl m_vxrm m_vs2 m_sew m_unmasked zO u1 u2 u3 (cnt (0 : Int32) m_vl) ((0 : Int32), (fX11_get zO m_vs1 (pX11_reduces_17_S1 m_sew u2) (0 : Int32)), m_vxsat)).1)), .long (0 : Int64), .int (pX11_reduces_17_S1 m_sew u2)] 0 [0] [1, 2, 3] [3, 0, 1, 2] (kX11_made l D kI kZ b_m m_thrown b_zX b_zV b_zO m_memory m_shut m_choices m_vl m_vtype m_vstart m_vxrm ((LX11_reduces_75 m_vl m_vxrm m_vs2 m_sew m_unmasked zO u1 u2 u3 (cnt (0 : Int32) m_vl) ((0 : Int32), (fX11_get zO m_vs1 (pX11_reduces_17_S1 m_sew u2) (0 : Int32)), m_vxsat)).2.2) m_done m_illegal m_traps m_trapAddress m_word m_vd m_vs1 m_vs2 m_f3 m_f6 m_sew m_l8 m_unmasked u1 ((LX11_reduces_75 m_vl m_vxrm m_vs2 m_sew m_unmasked zO u1 u2 u3 (cnt (0 : Int32) m_vl) ((0 : Int32), (fX11_get zO m_vs1 (pX11_reduces_17_S1 m_sew u2) (0 : Int32)), m_vxsat)).2.1) (pX11_reduces_136_L8 m_vs2 m_sew zO u2 u3 ((LX11_reduces_75 m_vl m_vxrm m_vs2 m_sew m_unmasked zO u1 u2 u3 (cnt (0 : Int32) m_vl) ((0 : Int32), (fX11_get zO m_vs1 (pX11_reduces_17_S1 m_sew u2) (0 : Int32)), m_vxsat)).1)) (0 : Int64) (pX11_reduces_17_S1 m_sew u2) (hok.2.2.2.2.2.2.2.2 c3 c4 c5 c6 c13 c14)) vX11_made q33_13 dX11_reduces_145 rfl rfl rfl rfl rfl rfl rfl rfl rfl rfl rfl rfl rfl rfl rfl ?_
      refine k_iload X dX11_reduces_148 4 rfl rfl ?_
      refine k_cS1 (st := []) (ws' := [(b_m, .inr (10, [.int m_thrown, .ref b_zX, .ref b_zV, .ref b_zO, .ref m_memory, .ref m_shut, .long m_choices, .int m_vl, .int m_vtype, .int m_vstart, .int m_vxrm, .int (fX11_made__m_vxsat m_vxrm ((LX11_reduces_75 m_vl m_vxrm m_vs2 m_sew m_unmasked zO u1 u2 u3 (cnt (0 : Int32) m_vl) ((0 : Int32), (fX11_get zO m_vs1 (pX11_reduces_17_S1 m_sew u2) (0 : Int32)), m_vxsat)).2.2) u1 ((LX11_reduces_75 m_vl m_vxrm m_vs2 m_sew m_unmasked zO u1 u2 u3 (cnt (0 : Int32) m_vl) ((0 : Int32), (fX11_get zO m_vs1 (pX11_reduces_17_S1 m_sew u2) (0 : Int32)), m_vxsat)).2.1) (pX11_reduces_136_L8 m_vs2 m_sew zO u2 u3 ((LX11_reduces_75 m_vl m_vxrm m_vs2 m_sew m_unmasked zO u1 u2 u3 (cnt (0 : Int32) m_vl) ((0 : Int32), (fX11_get zO m_vs1 (pX11_reduces_17_S1 m_sew u2) (0 : Int32)), m_vxsat)).1)) (pX11_reduces_17_S1 m_sew u2)), .int m_done, .int m_illegal, .int m_traps, .int m_trapAddress, .int m_word, .int m_vd, .int m_vs1, .int m_vs2, .int m_f3, .int m_f6, .int m_sew, .int m_l8, .int m_unmasked])), (b_zX, .inl (kI, 32, .inl zX)), (b_zV, .inl (kI, 512, .inl zV)), (b_zO, .inl (kI, 512, .inl zO))]) (wr := [(b_m, .inr (10, [.int m_thrown, .ref b_zX, .ref b_zV, .ref b_zO, .ref m_memory, .ref m_shut, .long m_choices, .int m_vl, .int m_vtype, .int m_vstart, .int m_vxrm, .int (fX11_made__m_vxsat m_vxrm ((LX11_reduces_75 m_vl m_vxrm m_vs2 m_sew m_unmasked zO u1 u2 u3 (cnt (0 : Int32) m_vl) ((0 : Int32), (fX11_get zO m_vs1 (pX11_reduces_17_S1 m_sew u2) (0 : Int32)), m_vxsat)).2.2) u1 ((LX11_reduces_75 m_vl m_vxrm m_vs2 m_sew m_unmasked zO u1 u2 u3 (cnt (0 : Int32) m_vl) ((0 : Int32), (fX11_get zO m_vs1 (pX11_reduces_17_S1 m_sew u2) (0 : Int32)), m_vxsat)).2.1) (pX11_reduces_136_L8 m_vs2 m_sew zO u2 u3 ((LX11_reduces_75 m_vl m_vxrm m_vs2 m_sew m_unmasked zO u1 u2 u3 (cnt (0 : Int32) m_vl) ((0 : Int32), (fX11_get zO m_vs1 (pX11_reduces_17_S1 m_sew u2) (0 : Int32)), m_vxsat)).1)) (pX11_reduces_17_S1 m_sew u2)), .int m_done, .int m_illegal, .int m_traps, .int m_trapAddress, .int m_word, .int m_vd, .int m_vs1, .int m_vs2, .int m_f3, .int m_f6, .int m_sew, .int m_l8, .int m_unmasked])), (b_zX, .inl (kI, 32, .inl zX)), (b_zV, .inl (kI, 512, .inl zV)), (b_zO, .inl (kI, 512, .inl zO))]) X [.long (fX11_made m_vxrm u1 ((LX11_reduces_75 m_vl m_vxrm m_vs2 m_sew m_unmasked zO u1 u2 u3 (cnt (0 : Int32) m_vl) ((0 : Int32), (fX11_get zO m_vs1 (pX11_reduces_17_S1 m_sew u2) (0 : Int32)), m_vxsat)).2.1) (pX11_reduces_136_L8 m_vs2 m_sew zO u2 u3 ((LX11_reduces_75 m_vl m_vxrm m_vs2 m_sew m_unmasked zO u1 u2 u3 (cnt (0 : Int32) m_vl) ((0 : Int32), (fX11_get zO m_vs1 (pX11_reduces_17_S1 m_sew u2) (0 : Int32)), m_vxsat)).1)) (0 : Int64) (pX11_reduces_17_S1 m_sew u2)), .int (pX11_reduces_17_S1 m_sew u2)] 0 [] [0, 1, 2, 3] [0, 1, 2, 3] (kX11_cut l D kI kZ (fX11_made m_vxrm u1 ((LX11_reduces_75 m_vl m_vxrm m_vs2 m_sew m_unmasked zO u1 u2 u3 (cnt (0 : Int32) m_vl) ((0 : Int32), (fX11_get zO m_vs1 (pX11_reduces_17_S1 m_sew u2) (0 : Int32)), m_vxsat)).2.1) (pX11_reduces_136_L8 m_vs2 m_sew zO u2 u3 ((LX11_reduces_75 m_vl m_vxrm m_vs2 m_sew m_unmasked zO u1 u2 u3 (cnt (0 : Int32) m_vl) ((0 : Int32), (fX11_get zO m_vs1 (pX11_reduces_17_S1 m_sew u2) (0 : Int32)), m_vxsat)).1)) (0 : Int64) (pX11_reduces_17_S1 m_sew u2)) (pX11_reduces_17_S1 m_sew u2)) vX11_cut q32_10 dX11_reduces_150 rfl rfl rfl rfl rfl rfl rfl rfl rfl rfl rfl rfl rfl ?_
      refine k_foldl (v := (eX11_reduces_153 m_vxrm m_vs2 m_sew zO u1 u2 u3 ((LX11_reduces_75 m_vl m_vxrm m_vs2 m_sew m_unmasked zO u1 u2 u3 (cnt (0 : Int32) m_vl) ((0 : Int32), (fX11_get zO m_vs1 (pX11_reduces_17_S1 m_sew u2) (0 : Int32)), m_vxsat)).1) ((LX11_reduces_75 m_vl m_vxrm m_vs2 m_sew m_unmasked zO u1 u2 u3 (cnt (0 : Int32) m_vl) ((0 : Int32), (fX11_get zO m_vs1 (pX11_reduces_17_S1 m_sew u2) (0 : Int32)), m_vxsat)).2.1))) rfl ?_
      refine k_lstore (lv' := [(5, .long (eX11_reduces_153 m_vxrm m_vs2 m_sew zO u1 u2 u3 ((LX11_reduces_75 m_vl m_vxrm m_vs2 m_sew m_unmasked zO u1 u2 u3 (cnt (0 : Int32) m_vl) ((0 : Int32), (fX11_get zO m_vs1 (pX11_reduces_17_S1 m_sew u2) (0 : Int32)), m_vxsat)).1) ((LX11_reduces_75 m_vl m_vxrm m_vs2 m_sew m_unmasked zO u1 u2 u3 (cnt (0 : Int32) m_vl) ((0 : Int32), (fX11_get zO m_vs1 (pX11_reduces_17_S1 m_sew u2) (0 : Int32)), m_vxsat)).2.1))), (0, .ref b_m), (1, .int u1), (2, .int u2), (3, .int u3), (4, .int (pX11_reduces_17_S1 m_sew u2)), (7, .int ((LX11_reduces_75 m_vl m_vxrm m_vs2 m_sew m_unmasked zO u1 u2 u3 (cnt (0 : Int32) m_vl) ((0 : Int32), (fX11_get zO m_vs1 (pX11_reduces_17_S1 m_sew u2) (0 : Int32)), m_vxsat)).1)), (8, .long (pX11_reduces_136_L8 m_vs2 m_sew zO u2 u3 ((LX11_reduces_75 m_vl m_vxrm m_vs2 m_sew m_unmasked zO u1 u2 u3 (cnt (0 : Int32) m_vl) ((0 : Int32), (fX11_get zO m_vs1 (pX11_reduces_17_S1 m_sew u2) (0 : Int32)), m_vxsat)).1)))]) X dX11_reduces_153 rfl rfl rfl ?_
      have e48 : (pX11_reduces_155_L5 m_vxrm m_vs2 m_sew m_unmasked zO u1 u2 u3 ((LX11_reduces_75 m_vl m_vxrm m_vs2 m_sew m_unmasked zO u1 u2 u3 (cnt (0 : Int32) m_vl) ((0 : Int32), (fX11_get zO m_vs1 (pX11_reduces_17_S1 m_sew u2) (0 : Int32)), m_vxsat)).1) ((LX11_reduces_75 m_vl m_vxrm m_vs2 m_sew m_unmasked zO u1 u2 u3 (cnt (0 : Int32) m_vl) ((0 : Int32), (fX11_get zO m_vs1 (pX11_reduces_17_S1 m_sew u2) (0 : Int32)), m_vxsat)).2.1)) = (eX11_reduces_153 m_vxrm m_vs2 m_sew zO u1 u2 u3 ((LX11_reduces_75 m_vl m_vxrm m_vs2 m_sew m_unmasked zO u1 u2 u3 (cnt (0 : Int32) m_vl) ((0 : Int32), (fX11_get zO m_vs1 (pX11_reduces_17_S1 m_sew u2) (0 : Int32)), m_vxsat)).1) ((LX11_reduces_75 m_vl m_vxrm m_vs2 m_sew m_unmasked zO u1 u2 u3 (cnt (0 : Int32) m_vl) ((0 : Int32), (fX11_get zO m_vs1 (pX11_reduces_17_S1 m_sew u2) (0 : Int32)), m_vxsat)).2.1)) := by rw [pX11_reduces_155_L5, if_neg c14]
      rw [e48] at hJ18
      have e49 : (pX11_reduces_155_m_vxsat m_vxrm m_vs2 m_sew m_unmasked zO u1 u2 u3 ((LX11_reduces_75 m_vl m_vxrm m_vs2 m_sew m_unmasked zO u1 u2 u3 (cnt (0 : Int32) m_vl) ((0 : Int32), (fX11_get zO m_vs1 (pX11_reduces_17_S1 m_sew u2) (0 : Int32)), m_vxsat)).1) ((LX11_reduces_75 m_vl m_vxrm m_vs2 m_sew m_unmasked zO u1 u2 u3 (cnt (0 : Int32) m_vl) ((0 : Int32), (fX11_get zO m_vs1 (pX11_reduces_17_S1 m_sew u2) (0 : Int32)), m_vxsat)).2.1) ((LX11_reduces_75 m_vl m_vxrm m_vs2 m_sew m_unmasked zO u1 u2 u3 (cnt (0 : Int32) m_vl) ((0 : Int32), (fX11_get zO m_vs1 (pX11_reduces_17_S1 m_sew u2) (0 : Int32)), m_vxsat)).2.2)) = (fX11_made__m_vxsat m_vxrm ((LX11_reduces_75 m_vl m_vxrm m_vs2 m_sew m_unmasked zO u1 u2 u3 (cnt (0 : Int32) m_vl) ((0 : Int32), (fX11_get zO m_vs1 (pX11_reduces_17_S1 m_sew u2) (0 : Int32)), m_vxsat)).2.2) u1 ((LX11_reduces_75 m_vl m_vxrm m_vs2 m_sew m_unmasked zO u1 u2 u3 (cnt (0 : Int32) m_vl) ((0 : Int32), (fX11_get zO m_vs1 (pX11_reduces_17_S1 m_sew u2) (0 : Int32)), m_vxsat)).2.1) (pX11_reduces_136_L8 m_vs2 m_sew zO u2 u3 ((LX11_reduces_75 m_vl m_vxrm m_vs2 m_sew m_unmasked zO u1 u2 u3 (cnt (0 : Int32) m_vl) ((0 : Int32), (fX11_get zO m_vs1 (pX11_reduces_17_S1 m_sew u2) (0 : Int32)), m_vxsat)).1)) (pX11_reduces_17_S1 m_sew u2)) := by rw [pX11_reduces_155_m_vxsat, if_neg c14]
      rw [e49] at hJ18
      exact k_sub [1, 2, 3, 4, 5, 0, 6] rfl hJ18
    refine k_iinc (lv' := [(7, .int ((LX11_reduces_75 m_vl m_vxrm m_vs2 m_sew m_unmasked zO u1 u2 u3 (cnt (0 : Int32) m_vl) ((0 : Int32), (fX11_get zO m_vs1 (pX11_reduces_17_S1 m_sew u2) (0 : Int32)), m_vxsat)).1 + (1 : Int32))), (0, .ref b_m), (1, .int u1), (2, .int u2), (3, .int u3), (4, .int (pX11_reduces_17_S1 m_sew u2)), (5, .long (pX11_reduces_155_L5 m_vxrm m_vs2 m_sew m_unmasked zO u1 u2 u3 ((LX11_reduces_75 m_vl m_vxrm m_vs2 m_sew m_unmasked zO u1 u2 u3 (cnt (0 : Int32) m_vl) ((0 : Int32), (fX11_get zO m_vs1 (pX11_reduces_17_S1 m_sew u2) (0 : Int32)), m_vxsat)).1) ((LX11_reduces_75 m_vl m_vxrm m_vs2 m_sew m_unmasked zO u1 u2 u3 (cnt (0 : Int32) m_vl) ((0 : Int32), (fX11_get zO m_vs1 (pX11_reduces_17_S1 m_sew u2) (0 : Int32)), m_vxsat)).2.1)))]) X dX11_reduces_155 6 rfl kc_i_1 rfl rfl rfl ?_
    refine k_goto (tgt := 75) X dX11_reduces_158 (by decide) ?_
    exact absurd (show tX11_reduces_75 m_vl ((LX11_reduces_75 m_vl m_vxrm m_vs2 m_sew m_unmasked zO u1 u2 u3 (cnt (0 : Int32) m_vl) ((0 : Int32), (fX11_get zO m_vs1 (pX11_reduces_17_S1 m_sew u2) (0 : Int32)), m_vxsat)).1) ((LX11_reduces_75 m_vl m_vxrm m_vs2 m_sew m_unmasked zO u1 u2 u3 (cnt (0 : Int32) m_vl) ((0 : Int32), (fX11_get zO m_vs1 (pX11_reduces_17_S1 m_sew u2) (0 : Int32)), m_vxsat)).2.1) ((LX11_reduces_75 m_vl m_vxrm m_vs2 m_sew m_unmasked zO u1 u2 u3 (cnt (0 : Int32) m_vl) ((0 : Int32), (fX11_get zO m_vs1 (pX11_reduces_17_S1 m_sew u2) (0 : Int32)), m_vxsat)).2.2) from by rw [tX11_reduces_75, if_neg c13]; exact True.intro) (hok.2.2.2.1 c3 c4 c5 c6)
  refine k_iconst X dX11_reduces_48 kc_i_0 rfl ?_
  have e50 : (fX11_reduces m_vstart m_vs2 m_sew m_l8 u2) = (0 : Int32) := by rw [fX11_reduces, if_neg c3, if_neg c4, if_neg c5]
  have e51 : (fX11_reduces__m_vxsat m_vl m_vstart m_vxrm m_vxsat m_vs1 m_vs2 m_sew m_l8 m_unmasked zO u1 u2 u3) = m_vxsat := by rw [fX11_reduces__m_vxsat, if_neg c3, if_neg c4, if_neg c5]
  have e52 : (fX11_reduces__zV m_choices m_vl m_vtype m_vstart m_vxrm m_vxsat m_vd m_vs1 m_vs2 m_sew m_l8 m_unmasked zV zO u1 u2 u3) = zV := by rw [fX11_reduces__zV, if_neg c3, if_neg c4, if_neg c5]
  exact k_zret9 X hRt hLk rfl e50.symm (by rw [e51, e52]) dX11_reduces_49
theorem vX11_reduces : kVi yX11_reduces cX11_reduces 10 (some .boolean) 3 := ⟨q37_6, q1_5, q37_4, q37_5, by decide, by decide +kernel⟩
noncomputable def pX11_widens_28_S4 (m_sew : Int32) (u3 : Int32) : Int32 := (if u3 = (0 : Int32) then m_sew else ((2 : Int32) * m_sew))
noncomputable def pX11_widens_110_S3 (m_sew : Int32) (u3 : Int32) : Int32 := (if u3 = (0 : Int32) then m_sew else ((2 : Int32) * m_sew))
noncomputable def eX11_widens_146 (m_vs2 : Int32) (m_sew : Int32) (zO : Nat → Int32) (u3 : Int32) (w_L5 : Int32) : Int64 := (fX11_signed (fX11_get zO m_vs2 (pX11_widens_110_S3 m_sew u3) w_L5) m_sew)
noncomputable def pX11_widens_148_L6 (m_vs2 : Int32) (m_sew : Int32) (zO : Nat → Int32) (u1 : Int32) (u3 : Int32) (w_L5 : Int32) : Int64 := (if u1 = (0 : Int32) then (fX11_get zO m_vs2 (pX11_widens_110_S3 m_sew u3) w_L5) else (if u3 = (0 : Int32) then (eX11_widens_146 m_vs2 m_sew zO u3 w_L5) else (fX11_get zO m_vs2 (pX11_widens_110_S3 m_sew u3) w_L5)))
noncomputable def pX11_widens_163_L8 (m_vs1 : Int32) (m_f3 : Int32) (m_sew : Int32) (zX : Nat → Int32) (zO : Nat → Int32) (u1 : Int32) (w_L5 : Int32) : Int64 := (if u1 = (0 : Int32) then (fX11_second_ m_vs1 m_f3 zX zO m_sew w_L5) else (fX11_signed (fX11_second_ m_vs1 m_f3 zX zO m_sew w_L5) m_sew))
noncomputable def pX11_widens_189_S5 (m_vs1 : Int32) (m_vs2 : Int32) (m_f3 : Int32) (m_sew : Int32) (zX : Nat → Int32) (zO : Nat → Int32) (u1 : Int32) (u2 : Int32) (u3 : Int32) (w_L5 : Int32) : Int64 := (if u2 = (0 : Int32) then ((pX11_widens_148_L6 m_vs2 m_sew zO u1 u3 w_L5) + (pX11_widens_163_L8 m_vs1 m_f3 m_sew zX zO u1 w_L5)) else ((pX11_widens_148_L6 m_vs2 m_sew zO u1 u3 w_L5) - (pX11_widens_163_L8 m_vs1 m_f3 m_sew zX zO u1 w_L5)))
noncomputable def pX11_widens_192_zV (m_choices : Int64) (m_vtype : Int32) (m_vd : Int32) (m_vs1 : Int32) (m_vs2 : Int32) (m_f3 : Int32) (m_sew : Int32) (m_unmasked : Int32) (zX : Nat → Int32) (zO : Nat → Int32) (u1 : Int32) (u2 : Int32) (u3 : Int32) (w_L5 : Int32) (w_zV : Nat → Int32) : Nat → Int32 := (if (fX11_isActive m_unmasked zO w_L5) = (0 : Int32) then (fX11_masked__zV m_choices m_vtype w_zV m_vd ((2 : Int32) * m_sew) w_L5) else (fX11_put__zV w_zV m_vd ((2 : Int32) * m_sew) w_L5 (pX11_widens_189_S5 m_vs1 m_vs2 m_f3 m_sew zX zO u1 u2 u3 w_L5)))
noncomputable def tX11_widens_59 (m_vl : Int32) (w_L5 : Int32) (w_zV : Nat → Int32) : Prop := (if m_vl ≤ w_L5 then False else True)
noncomputable def bX11_widens_59_L5 (m_vl : Int32) (w_L5 : Int32) (w_zV : Nat → Int32) : Int32 := (if m_vl ≤ w_L5 then w_L5 else (w_L5 + (1 : Int32)))
noncomputable def bX11_widens_59_zV (m_choices : Int64) (m_vl : Int32) (m_vtype : Int32) (m_vd : Int32) (m_vs1 : Int32) (m_vs2 : Int32) (m_f3 : Int32) (m_sew : Int32) (m_unmasked : Int32) (zX : Nat → Int32) (zO : Nat → Int32) (u1 : Int32) (u2 : Int32) (u3 : Int32) (w_L5 : Int32) (w_zV : Nat → Int32) : Nat → Int32 := (if m_vl ≤ w_L5 then w_zV else (pX11_widens_192_zV m_choices m_vtype m_vd m_vs1 m_vs2 m_f3 m_sew m_unmasked zX zO u1 u2 u3 w_L5 w_zV))
noncomputable def LX11_widens_59 (m_choices : Int64) (m_vl : Int32) (m_vtype : Int32) (m_vd : Int32) (m_vs1 : Int32) (m_vs2 : Int32) (m_f3 : Int32) (m_sew : Int32) (m_unmasked : Int32) (zX : Nat → Int32) (zO : Nat → Int32) (u1 : Int32) (u2 : Int32) (u3 : Int32) : Nat → Int32 × (Nat → Int32) → Int32 × (Nat → Int32)
  | 0, s => s
  | n + 1, s => LX11_widens_59 m_choices m_vl m_vtype m_vd m_vs1 m_vs2 m_f3 m_sew m_unmasked zX zO u1 u2 u3 n ((bX11_widens_59_L5 m_vl s.1 s.2), (bX11_widens_59_zV m_choices m_vl m_vtype m_vd m_vs1 m_vs2 m_f3 m_sew m_unmasked zX zO u1 u2 u3 s.1 s.2))
noncomputable def oX11_widens_59 (m_choices : Int64) (m_vl : Int32) (m_vtype : Int32) (m_vd : Int32) (m_vs1 : Int32) (m_vs2 : Int32) (m_f3 : Int32) (m_sew : Int32) (m_unmasked : Int32) (zX : Nat → Int32) (zO : Nat → Int32) (u1 : Int32) (u2 : Int32) (u3 : Int32) (w_L5 : Int32) (w_zV : Nat → Int32) : Prop := (¬ (m_vl ≤ w_L5) → okX11_isActive m_unmasked w_L5) ∧ (¬ (m_vl ≤ w_L5) → ((fX11_isActive m_unmasked zO w_L5) = (0 : Int32)) → okX11_masked m_choices m_vtype w_zV m_vd ((2 : Int32) * m_sew) w_L5) ∧ (¬ (m_vl ≤ w_L5) → ¬ ((fX11_isActive m_unmasked zO w_L5) = (0 : Int32)) → okX11_get zO m_vs2 (pX11_widens_110_S3 m_sew u3) w_L5) ∧ (¬ (m_vl ≤ w_L5) → ¬ ((fX11_isActive m_unmasked zO w_L5) = (0 : Int32)) → okX11_second_ m_vs1 m_f3 zO m_sew w_L5) ∧ (¬ (m_vl ≤ w_L5) → ¬ ((fX11_isActive m_unmasked zO w_L5) = (0 : Int32)) → okX11_put w_zV m_vd ((2 : Int32) * m_sew) w_L5 (pX11_widens_189_S5 m_vs1 m_vs2 m_f3 m_sew zX zO u1 u2 u3 w_L5))
noncomputable def KX11_widens_59 (m_choices : Int64) (m_vl : Int32) (m_vtype : Int32) (m_vd : Int32) (m_vs1 : Int32) (m_vs2 : Int32) (m_f3 : Int32) (m_sew : Int32) (m_unmasked : Int32) (zX : Nat → Int32) (zO : Nat → Int32) (u1 : Int32) (u2 : Int32) (u3 : Int32) : Nat → Int32 × (Nat → Int32) → Prop
  | 0, _ => True
  | n + 1, s => (tX11_widens_59 m_vl s.1 s.2 ∧ oX11_widens_59 m_choices m_vl m_vtype m_vd m_vs1 m_vs2 m_f3 m_sew m_unmasked zX zO u1 u2 u3 s.1 s.2) ∧ KX11_widens_59 m_choices m_vl m_vtype m_vd m_vs1 m_vs2 m_f3 m_sew m_unmasked zX zO u1 u2 u3 n ((bX11_widens_59_L5 m_vl s.1 s.2), (bX11_widens_59_zV m_choices m_vl m_vtype m_vd m_vs1 m_vs2 m_f3 m_sew m_unmasked zX zO u1 u2 u3 s.1 s.2))
theorem itX11_widens_59 (m_choices : Int64) (m_vl : Int32) (m_vtype : Int32) (m_vd : Int32) (m_vs1 : Int32) (m_vs2 : Int32) (m_f3 : Int32) (m_sew : Int32) (m_unmasked : Int32) (zX : Nat → Int32) (zO : Nat → Int32) (u1 : Int32) (u2 : Int32) (u3 : Int32) {b9 : Nat} (h9 : m_vl = nI b9) (hb9 : b9 < 2147483648) : ∀ (n a : Nat) (w_zV : Nat → Int32), a + n ≤ b9 → LX11_widens_59 m_choices m_vl m_vtype m_vd m_vs1 m_vs2 m_f3 m_sew m_unmasked zX zO u1 u2 u3 n (nI a, w_zV) = (nI (a + n), itr (fun k s => ((pX11_widens_192_zV m_choices m_vtype m_vd m_vs1 m_vs2 m_f3 m_sew m_unmasked zX zO u1 u2 u3 (nI k) s))) n a (w_zV))
  | 0, a, w_zV, _ => rfl
  | n + 1, a, w_zV, h => by
    have hc : ¬ (m_vl ≤ nI a) := by rw [h9]; exact nI_ge (by omega) hb9
    have e0 : bX11_widens_59_L5 m_vl (nI a) w_zV = nI (a + 1) := by rw [bX11_widens_59_L5, if_neg hc, nI_1]
    have e1 : bX11_widens_59_zV m_choices m_vl m_vtype m_vd m_vs1 m_vs2 m_f3 m_sew m_unmasked zX zO u1 u2 u3 (nI a) w_zV = (pX11_widens_192_zV m_choices m_vtype m_vd m_vs1 m_vs2 m_f3 m_sew m_unmasked zX zO u1 u2 u3 (nI a) w_zV) := by rw [bX11_widens_59_zV, if_neg hc]
    show LX11_widens_59 m_choices m_vl m_vtype m_vd m_vs1 m_vs2 m_f3 m_sew m_unmasked zX zO u1 u2 u3 n (bX11_widens_59_L5 m_vl (nI a) w_zV, bX11_widens_59_zV m_choices m_vl m_vtype m_vd m_vs1 m_vs2 m_f3 m_sew m_unmasked zX zO u1 u2 u3 (nI a) w_zV) = _
    rw [e0, e1, itX11_widens_59 m_choices m_vl m_vtype m_vd m_vs1 m_vs2 m_f3 m_sew m_unmasked zX zO u1 u2 u3 h9 hb9 n (a + 1) _ (by omega), show a + (n + 1) = a + 1 + n by omega]; rfl
theorem ktX11_widens_59 (m_choices : Int64) (m_vl : Int32) (m_vtype : Int32) (m_vd : Int32) (m_vs1 : Int32) (m_vs2 : Int32) (m_f3 : Int32) (m_sew : Int32) (m_unmasked : Int32) (zX : Nat → Int32) (zO : Nat → Int32) (u1 : Int32) (u2 : Int32) (u3 : Int32) {b9 : Nat} (h9 : m_vl = nI b9) (hb9 : b9 < 2147483648) (I : Nat → (Nat → Int32) → Prop) (hI : ∀ (a : Nat) (w_zV : Nat → Int32), I a (w_zV) → a < b9 → oX11_widens_59 m_choices m_vl m_vtype m_vd m_vs1 m_vs2 m_f3 m_sew m_unmasked zX zO u1 u2 u3 (nI a) w_zV ∧ I (a + 1) ((pX11_widens_192_zV m_choices m_vtype m_vd m_vs1 m_vs2 m_f3 m_sew m_unmasked zX zO u1 u2 u3 (nI a) w_zV))) : ∀ (n a : Nat) (w_zV : Nat → Int32), a + n ≤ b9 → I a (w_zV) → KX11_widens_59 m_choices m_vl m_vtype m_vd m_vs1 m_vs2 m_f3 m_sew m_unmasked zX zO u1 u2 u3 n (nI a, w_zV)
  | 0, a, w_zV, _, _ => True.intro
  | n + 1, a, w_zV, h, hi => by
    have hc : ¬ (m_vl ≤ nI a) := by rw [h9]; exact nI_ge (by omega) hb9
    have e0 : bX11_widens_59_L5 m_vl (nI a) w_zV = nI (a + 1) := by rw [bX11_widens_59_L5, if_neg hc, nI_1]
    have e1 : bX11_widens_59_zV m_choices m_vl m_vtype m_vd m_vs1 m_vs2 m_f3 m_sew m_unmasked zX zO u1 u2 u3 (nI a) w_zV = (pX11_widens_192_zV m_choices m_vtype m_vd m_vs1 m_vs2 m_f3 m_sew m_unmasked zX zO u1 u2 u3 (nI a) w_zV) := by rw [bX11_widens_59_zV, if_neg hc]
    obtain ⟨h1, h2⟩ := hI a w_zV hi (by omega)
    show (tX11_widens_59 m_vl (nI a) w_zV ∧ oX11_widens_59 m_choices m_vl m_vtype m_vd m_vs1 m_vs2 m_f3 m_sew m_unmasked zX zO u1 u2 u3 (nI a) w_zV) ∧ KX11_widens_59 m_choices m_vl m_vtype m_vd m_vs1 m_vs2 m_f3 m_sew m_unmasked zX zO u1 u2 u3 n (bX11_widens_59_L5 m_vl (nI a) w_zV, bX11_widens_59_zV m_choices m_vl m_vtype m_vd m_vs1 m_vs2 m_f3 m_sew m_unmasked zX zO u1 u2 u3 (nI a) w_zV)
    refine ⟨⟨by rw [tX11_widens_59, if_neg hc]; exact True.intro, h1⟩, ?_⟩
    rw [e0, e1]; exact ktX11_widens_59 m_choices m_vl m_vtype m_vd m_vs1 m_vs2 m_f3 m_sew m_unmasked zX zO u1 u2 u3 h9 hb9 I hI n (a + 1) _ (by omega) h2
theorem ntX11_widens_59 (m_choices : Int64) (m_vl : Int32) (m_vtype : Int32) (m_vd : Int32) (m_vs1 : Int32) (m_vs2 : Int32) (m_f3 : Int32) (m_sew : Int32) (m_unmasked : Int32) (zX : Nat → Int32) (zO : Nat → Int32) (u1 : Int32) (u2 : Int32) (u3 : Int32) {b9 : Nat} (h9 : m_vl = nI b9) (hb9 : b9 < 2147483648) (w_zV : Nat → Int32) : ¬ tX11_widens_59 m_vl (nI b9) w_zV := by rw [tX11_widens_59, if_pos (by rw [h9]; exact Int32.le_refl _)]; exact id
noncomputable def fX11_widens (m_vd : Int32) (m_vs1 : Int32) (m_vs2 : Int32) (m_f3 : Int32) (m_sew : Int32) (m_l8 : Int32) (m_unmasked : Int32) (u3 : Int32) : Int32 := (if (fX11_mayBe m_vd m_sew m_l8 m_unmasked ((2 : Int32) * m_sew) m_vs2 (pX11_widens_28_S4 m_sew u3) (fX11_second m_vs1 m_f3) m_sew) = (0 : Int32) then (0 : Int32) else (1 : Int32))
noncomputable def fX11_widens__zV (m_choices : Int64) (m_vl : Int32) (m_vtype : Int32) (m_vstart : Int32) (m_vd : Int32) (m_vs1 : Int32) (m_vs2 : Int32) (m_f3 : Int32) (m_sew : Int32) (m_l8 : Int32) (m_unmasked : Int32) (zX : Nat → Int32) (zV : Nat → Int32) (zO : Nat → Int32) (u1 : Int32) (u2 : Int32) (u3 : Int32) : Nat → Int32 := (if (fX11_mayBe m_vd m_sew m_l8 m_unmasked ((2 : Int32) * m_sew) m_vs2 (pX11_widens_28_S4 m_sew u3) (fX11_second m_vs1 m_f3) m_sew) = (0 : Int32) then zV else (if (fX11_goes m_vl m_vstart) = (0 : Int32) then zV else (fX11_tail__zV m_choices m_vtype ((LX11_widens_59 m_choices m_vl m_vtype m_vd m_vs1 m_vs2 m_f3 m_sew m_unmasked zX zO u1 u2 u3 (cnt m_vstart m_vl) (m_vstart, zV)).2) m_vd ((2 : Int32) * m_sew) ((2 : Int32) * m_l8) m_vl)))
noncomputable def okX11_widens (m_choices : Int64) (m_vl : Int32) (m_vtype : Int32) (m_vstart : Int32) (m_vd : Int32) (m_vs1 : Int32) (m_vs2 : Int32) (m_f3 : Int32) (m_sew : Int32) (m_l8 : Int32) (m_unmasked : Int32) (zX : Nat → Int32) (zV : Nat → Int32) (zO : Nat → Int32) (u1 : Int32) (u2 : Int32) (u3 : Int32) : Prop := (okX11_mayBe m_vd m_sew m_l8 m_unmasked ((2 : Int32) * m_sew) m_vs2 (pX11_widens_28_S4 m_sew u3) (fX11_second m_vs1 m_f3) m_sew) ∧ (¬ ((fX11_mayBe m_vd m_sew m_l8 m_unmasked ((2 : Int32) * m_sew) m_vs2 (pX11_widens_28_S4 m_sew u3) (fX11_second m_vs1 m_f3) m_sew) = (0 : Int32)) → ¬ ((fX11_goes m_vl m_vstart) = (0 : Int32)) → KX11_widens_59 m_choices m_vl m_vtype m_vd m_vs1 m_vs2 m_f3 m_sew m_unmasked zX zO u1 u2 u3 (cnt m_vstart m_vl) (m_vstart, zV)) ∧ (¬ ((fX11_mayBe m_vd m_sew m_l8 m_unmasked ((2 : Int32) * m_sew) m_vs2 (pX11_widens_28_S4 m_sew u3) (fX11_second m_vs1 m_f3) m_sew) = (0 : Int32)) → ¬ ((fX11_goes m_vl m_vstart) = (0 : Int32)) → ¬ (tX11_widens_59 m_vl ((LX11_widens_59 m_choices m_vl m_vtype m_vd m_vs1 m_vs2 m_f3 m_sew m_unmasked zX zO u1 u2 u3 (cnt m_vstart m_vl) (m_vstart, zV)).1) ((LX11_widens_59 m_choices m_vl m_vtype m_vd m_vs1 m_vs2 m_f3 m_sew m_unmasked zX zO u1 u2 u3 (cnt m_vstart m_vl) (m_vstart, zV)).2))) ∧ (¬ ((fX11_mayBe m_vd m_sew m_l8 m_unmasked ((2 : Int32) * m_sew) m_vs2 (pX11_widens_28_S4 m_sew u3) (fX11_second m_vs1 m_f3) m_sew) = (0 : Int32)) → ¬ ((fX11_goes m_vl m_vstart) = (0 : Int32)) → (m_vl ≤ (LX11_widens_59 m_choices m_vl m_vtype m_vd m_vs1 m_vs2 m_f3 m_sew m_unmasked zX zO u1 u2 u3 (cnt m_vstart m_vl) (m_vstart, zV)).1) → okX11_tail m_choices m_vtype ((LX11_widens_59 m_choices m_vl m_vtype m_vd m_vs1 m_vs2 m_f3 m_sew m_unmasked zX zO u1 u2 u3 (cnt m_vstart m_vl) (m_vstart, zV)).2) m_vd ((2 : Int32) * m_sew) ((2 : Int32) * m_l8) m_vl) ∧ (¬ ((fX11_mayBe m_vd m_sew m_l8 m_unmasked ((2 : Int32) * m_sew) m_vs2 (pX11_widens_28_S4 m_sew u3) (fX11_second m_vs1 m_f3) m_sew) = (0 : Int32)) → ¬ ((fX11_goes m_vl m_vstart) = (0 : Int32)) → ¬ (m_vl ≤ (LX11_widens_59 m_choices m_vl m_vtype m_vd m_vs1 m_vs2 m_f3 m_sew m_unmasked zX zO u1 u2 u3 (cnt m_vstart m_vl) (m_vstart, zV)).1) → okX11_isActive m_unmasked ((LX11_widens_59 m_choices m_vl m_vtype m_vd m_vs1 m_vs2 m_f3 m_sew m_unmasked zX zO u1 u2 u3 (cnt m_vstart m_vl) (m_vstart, zV)).1)) ∧ (¬ ((fX11_mayBe m_vd m_sew m_l8 m_unmasked ((2 : Int32) * m_sew) m_vs2 (pX11_widens_28_S4 m_sew u3) (fX11_second m_vs1 m_f3) m_sew) = (0 : Int32)) → ¬ ((fX11_goes m_vl m_vstart) = (0 : Int32)) → ¬ (m_vl ≤ (LX11_widens_59 m_choices m_vl m_vtype m_vd m_vs1 m_vs2 m_f3 m_sew m_unmasked zX zO u1 u2 u3 (cnt m_vstart m_vl) (m_vstart, zV)).1) → ((fX11_isActive m_unmasked zO ((LX11_widens_59 m_choices m_vl m_vtype m_vd m_vs1 m_vs2 m_f3 m_sew m_unmasked zX zO u1 u2 u3 (cnt m_vstart m_vl) (m_vstart, zV)).1)) = (0 : Int32)) → okX11_masked m_choices m_vtype ((LX11_widens_59 m_choices m_vl m_vtype m_vd m_vs1 m_vs2 m_f3 m_sew m_unmasked zX zO u1 u2 u3 (cnt m_vstart m_vl) (m_vstart, zV)).2) m_vd ((2 : Int32) * m_sew) ((LX11_widens_59 m_choices m_vl m_vtype m_vd m_vs1 m_vs2 m_f3 m_sew m_unmasked zX zO u1 u2 u3 (cnt m_vstart m_vl) (m_vstart, zV)).1)) ∧ (¬ ((fX11_mayBe m_vd m_sew m_l8 m_unmasked ((2 : Int32) * m_sew) m_vs2 (pX11_widens_28_S4 m_sew u3) (fX11_second m_vs1 m_f3) m_sew) = (0 : Int32)) → ¬ ((fX11_goes m_vl m_vstart) = (0 : Int32)) → ¬ (m_vl ≤ (LX11_widens_59 m_choices m_vl m_vtype m_vd m_vs1 m_vs2 m_f3 m_sew m_unmasked zX zO u1 u2 u3 (cnt m_vstart m_vl) (m_vstart, zV)).1) → ¬ ((fX11_isActive m_unmasked zO ((LX11_widens_59 m_choices m_vl m_vtype m_vd m_vs1 m_vs2 m_f3 m_sew m_unmasked zX zO u1 u2 u3 (cnt m_vstart m_vl) (m_vstart, zV)).1)) = (0 : Int32)) → okX11_get zO m_vs2 (pX11_widens_110_S3 m_sew u3) ((LX11_widens_59 m_choices m_vl m_vtype m_vd m_vs1 m_vs2 m_f3 m_sew m_unmasked zX zO u1 u2 u3 (cnt m_vstart m_vl) (m_vstart, zV)).1)) ∧ (¬ ((fX11_mayBe m_vd m_sew m_l8 m_unmasked ((2 : Int32) * m_sew) m_vs2 (pX11_widens_28_S4 m_sew u3) (fX11_second m_vs1 m_f3) m_sew) = (0 : Int32)) → ¬ ((fX11_goes m_vl m_vstart) = (0 : Int32)) → ¬ (m_vl ≤ (LX11_widens_59 m_choices m_vl m_vtype m_vd m_vs1 m_vs2 m_f3 m_sew m_unmasked zX zO u1 u2 u3 (cnt m_vstart m_vl) (m_vstart, zV)).1) → ¬ ((fX11_isActive m_unmasked zO ((LX11_widens_59 m_choices m_vl m_vtype m_vd m_vs1 m_vs2 m_f3 m_sew m_unmasked zX zO u1 u2 u3 (cnt m_vstart m_vl) (m_vstart, zV)).1)) = (0 : Int32)) → okX11_second_ m_vs1 m_f3 zO m_sew ((LX11_widens_59 m_choices m_vl m_vtype m_vd m_vs1 m_vs2 m_f3 m_sew m_unmasked zX zO u1 u2 u3 (cnt m_vstart m_vl) (m_vstart, zV)).1)) ∧ (¬ ((fX11_mayBe m_vd m_sew m_l8 m_unmasked ((2 : Int32) * m_sew) m_vs2 (pX11_widens_28_S4 m_sew u3) (fX11_second m_vs1 m_f3) m_sew) = (0 : Int32)) → ¬ ((fX11_goes m_vl m_vstart) = (0 : Int32)) → ¬ (m_vl ≤ (LX11_widens_59 m_choices m_vl m_vtype m_vd m_vs1 m_vs2 m_f3 m_sew m_unmasked zX zO u1 u2 u3 (cnt m_vstart m_vl) (m_vstart, zV)).1) → ¬ ((fX11_isActive m_unmasked zO ((LX11_widens_59 m_choices m_vl m_vtype m_vd m_vs1 m_vs2 m_f3 m_sew m_unmasked zX zO u1 u2 u3 (cnt m_vstart m_vl) (m_vstart, zV)).1)) = (0 : Int32)) → okX11_put ((LX11_widens_59 m_choices m_vl m_vtype m_vd m_vs1 m_vs2 m_f3 m_sew m_unmasked zX zO u1 u2 u3 (cnt m_vstart m_vl) (m_vstart, zV)).2) m_vd ((2 : Int32) * m_sew) ((LX11_widens_59 m_choices m_vl m_vtype m_vd m_vs1 m_vs2 m_f3 m_sew m_unmasked zX zO u1 u2 u3 (cnt m_vstart m_vl) (m_vstart, zV)).1) (pX11_widens_189_S5 m_vs1 m_vs2 m_f3 m_sew zX zO u1 u2 u3 ((LX11_widens_59 m_choices m_vl m_vtype m_vd m_vs1 m_vs2 m_f3 m_sew m_unmasked zX zO u1 u2 u3 (cnt m_vstart m_vl) (m_vstart, zV)).1)))
theorem zX11_widens (m_vd : Int32) (m_vs1 : Int32) (m_vs2 : Int32) (m_f3 : Int32) (m_sew : Int32) (m_l8 : Int32) (m_unmasked : Int32) (u3 : Int32) : narrow .boolean (.int (fX11_widens m_vd m_vs1 m_vs2 m_f3 m_sew m_l8 m_unmasked u3)) = .int (fX11_widens m_vd m_vs1 m_vs2 m_f3 m_sew m_l8 m_unmasked u3) := by unfold fX11_widens; exact (kzi rfl rfl)
set_option maxRecDepth 100000 in
set_option maxHeartbeats 4000000 in
theorem kX11_widens (l : Launch) (D : va_G) (kI kZ : ClassId) (b_m : Nat) (b_zX : Nat) (b_zV : Nat) (b_zO : Nat) (m_thrown : Int32) (m_memory : Nat) (m_shut : Nat) (m_choices : Int64) (m_vl : Int32) (m_vtype : Int32) (m_vstart : Int32) (m_vxrm : Int32) (m_vxsat : Int32) (m_done : Int32) (m_illegal : Int32) (m_traps : Int32) (m_trapAddress : Int32) (m_word : Int32) (m_vd : Int32) (m_vs1 : Int32) (m_vs2 : Int32) (m_f3 : Int32) (m_f6 : Int32) (m_sew : Int32) (m_l8 : Int32) (m_unmasked : Int32) (zX : Nat → Int32) (zV : Nat → Int32) (zO : Nat → Int32) (u1 : Int32) (u2 : Int32) (u3 : Int32) (hok : okX11_widens m_choices m_vl m_vtype m_vstart m_vd m_vs1 m_vs2 m_f3 m_sew m_l8 m_unmasked zX zV zO u1 u2 u3) : kM l yX11_widens cX11_widens 10 (some .boolean) 4 63 0 0 D [(kI, .int), (kZ, .boolean)] [.ref b_m, .int u1, .int u2, .int u3] [(b_m, .inr (10, [.int m_thrown, .ref b_zX, .ref b_zV, .ref b_zO, .ref m_memory, .ref m_shut, .long m_choices, .int m_vl, .int m_vtype, .int m_vstart, .int m_vxrm, .int m_vxsat, .int m_done, .int m_illegal, .int m_traps, .int m_trapAddress, .int m_word, .int m_vd, .int m_vs1, .int m_vs2, .int m_f3, .int m_f6, .int m_sew, .int m_l8, .int m_unmasked])), (b_zX, .inl (kI, 32, .inl zX)), (b_zV, .inl (kI, 512, .inl zV)), (b_zO, .inl (kI, 512, .inl zO))] (some (.int (fX11_widens m_vd m_vs1 m_vs2 m_f3 m_sew m_l8 m_unmasked u3))) [(b_m, .inr (10, [.int m_thrown, .ref b_zX, .ref b_zV, .ref b_zO, .ref m_memory, .ref m_shut, .long m_choices, .int m_vl, .int m_vtype, .int m_vstart, .int m_vxrm, .int m_vxsat, .int m_done, .int m_illegal, .int m_traps, .int m_trapAddress, .int m_word, .int m_vd, .int m_vs1, .int m_vs2, .int m_f3, .int m_f6, .int m_sew, .int m_l8, .int m_unmasked])), (b_zX, .inl (kI, 32, .inl zX)), (b_zV, .inl (kI, 512, .inl (fX11_widens__zV m_choices m_vl m_vtype m_vstart m_vd m_vs1 m_vs2 m_f3 m_sew m_l8 m_unmasked zX zV zO u1 u2 u3))), (b_zO, .inl (kI, 512, .inl zO))] := by
  refine kM.of (by decide) rfl ?_
  intro p e R s m args below meth c A X _ _ hRt hLk
  refine k_sub [0, 1, 2, 3] (lv' := [(0, .ref b_m), (1, .int u1), (2, .int u2), (3, .int u3)]) rfl ?_
  unfold okX11_widens at hok
  refine k_iconst X dX11_widens_0 kc_i_2 rfl ?_
  refine k_aload_n X dX11_widens_1 rfl 0 rfl rfl ?_
  refine k_get X i_wsX110 0 22 q27_9 rfl rfl rfl rfl rfl dX11_widens_2 rfl ?_
  refine k_imul X dX11_widens_5 rfl ?_
  refine k_istore (lv' := [(4, .int ((2 : Int32) * m_sew)), (0, .ref b_m), (1, .int u1), (2, .int u2), (3, .int u3)]) X dX11_widens_6 rfl rfl rfl ?_
  refine k_aload_n X dX11_widens_8 rfl 1 rfl rfl ?_
  refine k_iload X dX11_widens_9 0 rfl rfl ?_
  refine k_aload_n X dX11_widens_11 rfl 1 rfl rfl ?_
  refine k_get X i_wsX110 0 19 q27_6 rfl rfl rfl rfl rfl dX11_widens_12 rfl ?_
  refine k_iload_n X dX11_widens_15 rfl 4 rfl rfl ?_
  refine k_mid2 [(b_m, .inr (10, [.int m_thrown, .ref b_zX, .ref b_zV, .ref b_zO, .ref m_memory, .ref m_shut, .long m_choices, .int m_vl, .int m_vtype, .int m_vstart, .int m_vxrm, .int m_vxsat, .int m_done, .int m_illegal, .int m_traps, .int m_trapAddress, .int m_word, .int m_vd, .int m_vs1, .int m_vs2, .int m_f3, .int m_f6, .int m_sew, .int m_l8, .int m_unmasked])), (b_zX, .inl (kI, 32, .inl zX)), (b_zV, .inl (kI, 512, .inl zV)), (b_zO, .inl (kI, 512, .inl zO))] [(0, .ref b_m), (1, .int u1), (2, .int u2), (3, .int u3), (4, .int ((2 : Int32) * m_sew))] [.int (pX11_widens_28_S4 m_sew u3), .int m_vs2, .int ((2 : Int32) * m_sew), .ref b_m] 28 (fun hJ2 => ?_) ?_
  · skip
    refine k_if_eq (tgt := 24) X dX11_widens_16 (by decide) rfl (fun c1 => ?_) (fun c1 => ?_)
    · skip
      refine k_aload_n X dX11_widens_24 rfl 1 rfl rfl ?_
      refine k_get X i_wsX110 0 22 q27_9 rfl rfl rfl rfl rfl dX11_widens_25 rfl ?_
      have e29 : (pX11_widens_28_S4 m_sew u3) = m_sew := by rw [pX11_widens_28_S4, if_pos c1]
      rw [e29] at hJ2
      exact k_sub [1, 2, 3, 4, 0] rfl hJ2
    refine k_iload X dX11_widens_19 0 rfl rfl ?_
    refine k_goto (tgt := 28) X dX11_widens_21 (by decide) ?_
    have e30 : (pX11_widens_28_S4 m_sew u3) = ((2 : Int32) * m_sew) := by rw [pX11_widens_28_S4, if_neg c1]
    rw [e30] at hJ2
    exact k_sub [1, 2, 3, 4, 0] rfl hJ2
  refine k_aload_n X dX11_widens_28 rfl 0 rfl rfl ?_
  refine k_cV1 (st := [.int (pX11_widens_28_S4 m_sew u3), .int m_vs2, .int ((2 : Int32) * m_sew), .ref b_m]) (ws' := [(b_m, .inr (10, [.int m_thrown, .ref b_zX, .ref b_zV, .ref b_zO, .ref m_memory, .ref m_shut, .long m_choices, .int m_vl, .int m_vtype, .int m_vstart, .int m_vxrm, .int m_vxsat, .int m_done, .int m_illegal, .int m_traps, .int m_trapAddress, .int m_word, .int m_vd, .int m_vs1, .int m_vs2, .int m_f3, .int m_f6, .int m_sew, .int m_l8, .int m_unmasked])), (b_zX, .inl (kI, 32, .inl zX)), (b_zV, .inl (kI, 512, .inl zV)), (b_zO, .inl (kI, 512, .inl zO))]) (wr := [(b_zX, .inl (kI, 32, .inl zX)), (b_zV, .inl (kI, 512, .inl zV)), (b_zO, .inl (kI, 512, .inl zO))]) (ci := 10) (q9 := 0) X [] 4 [0] [1, 2, 3] [3, 0, 1, 2] (kX11_second l D kI kZ b_m m_thrown b_zX b_zV b_zO m_memory m_shut m_choices m_vl m_vtype m_vstart m_vxrm m_vxsat m_done m_illegal m_traps m_trapAddress m_word m_vd m_vs1 m_vs2 m_f3 m_f6 m_sew m_l8 m_unmasked) vX11_second q29_17 dX11_widens_29 rfl rfl rfl rfl rfl rfl rfl rfl rfl rfl rfl rfl rfl rfl rfl ?_
  refine k_aload_n X dX11_widens_32 rfl 0 rfl rfl ?_
  refine k_get X i_wsX110 0 22 q27_9 rfl rfl rfl rfl rfl dX11_widens_33 rfl ?_
  refine k_cV1 (st := []) (ws' := [(b_m, .inr (10, [.int m_thrown, .ref b_zX, .ref b_zV, .ref b_zO, .ref m_memory, .ref m_shut, .long m_choices, .int m_vl, .int m_vtype, .int m_vstart, .int m_vxrm, .int m_vxsat, .int m_done, .int m_illegal, .int m_traps, .int m_trapAddress, .int m_word, .int m_vd, .int m_vs1, .int m_vs2, .int m_f3, .int m_f6, .int m_sew, .int m_l8, .int m_unmasked])), (b_zX, .inl (kI, 32, .inl zX)), (b_zV, .inl (kI, 512, .inl zV)), (b_zO, .inl (kI, 512, .inl zO))]) (wr := [(b_zX, .inl (kI, 32, .inl zX)), (b_zV, .inl (kI, 512, .inl zV)), (b_zO, .inl (kI, 512, .inl zO))]) (ci := 10) (q9 := 0) X [.int ((2 : Int32) * m_sew), .int m_vs2, .int (pX11_widens_28_S4 m_sew u3), .int (fX11_second m_vs1 m_f3), .int m_sew] 0 [0] [1, 2, 3] [3, 0, 1, 2] (kX11_mayBe l D kI kZ b_m m_thrown b_zX b_zV b_zO m_memory m_shut m_choices m_vl m_vtype m_vstart m_vxrm m_vxsat m_done m_illegal m_traps m_trapAddress m_word m_vd m_vs1 m_vs2 m_f3 m_f6 m_sew m_l8 m_unmasked ((2 : Int32) * m_sew) m_vs2 (pX11_widens_28_S4 m_sew u3) (fX11_second m_vs1 m_f3) m_sew (hok.1)) vX11_mayBe q29_21 dX11_widens_36 rfl rfl rfl rfl rfl rfl rfl rfl rfl rfl rfl rfl rfl rfl rfl ?_
  refine k_if_ne (tgt := 44) X dX11_widens_39 (by decide) rfl (fun c3 => ?_) (fun c3 => ?_)
  · skip
    refine k_iconst X dX11_widens_42 kc_i_0 rfl ?_
    have e31 : (fX11_widens m_vd m_vs1 m_vs2 m_f3 m_sew m_l8 m_unmasked u3) = (0 : Int32) := by rw [fX11_widens, if_pos c3]
    have e32 : (fX11_widens__zV m_choices m_vl m_vtype m_vstart m_vd m_vs1 m_vs2 m_f3 m_sew m_l8 m_unmasked zX zV zO u1 u2 u3) = zV := by rw [fX11_widens__zV, if_pos c3]
    exact k_zret9 X hRt hLk rfl e31.symm (by rw [e32]) dX11_widens_43
  refine k_aload_n X dX11_widens_44 rfl 0 rfl rfl ?_
  refine k_cV1 (st := []) (ws' := [(b_m, .inr (10, [.int m_thrown, .ref b_zX, .ref b_zV, .ref b_zO, .ref m_memory, .ref m_shut, .long m_choices, .int m_vl, .int m_vtype, .int m_vstart, .int m_vxrm, .int m_vxsat, .int m_done, .int m_illegal, .int m_traps, .int m_trapAddress, .int m_word, .int m_vd, .int m_vs1, .int m_vs2, .int m_f3, .int m_f6, .int m_sew, .int m_l8, .int m_unmasked])), (b_zX, .inl (kI, 32, .inl zX)), (b_zV, .inl (kI, 512, .inl zV)), (b_zO, .inl (kI, 512, .inl zO))]) (wr := [(b_zX, .inl (kI, 32, .inl zX)), (b_zV, .inl (kI, 512, .inl zV)), (b_zO, .inl (kI, 512, .inl zO))]) (ci := 10) (q9 := 0) X [] 0 [0] [1, 2, 3] [3, 0, 1, 2] (kX11_goes l D kI kZ b_m m_thrown b_zX b_zV b_zO m_memory m_shut m_choices m_vl m_vtype m_vstart m_vxrm m_vxsat m_done m_illegal m_traps m_trapAddress m_word m_vd m_vs1 m_vs2 m_f3 m_f6 m_sew m_l8 m_unmasked) vX11_goes q31_2 dX11_widens_45 rfl rfl rfl rfl rfl rfl rfl rfl rfl rfl rfl rfl rfl rfl rfl ?_
  refine k_if_ne (tgt := 53) X dX11_widens_48 (by decide) rfl (fun c4 => ?_) (fun c4 => ?_)
  · skip
    refine k_iconst X dX11_widens_51 kc_i_1 rfl ?_
    have e33 : (fX11_widens m_vd m_vs1 m_vs2 m_f3 m_sew m_l8 m_unmasked u3) = (1 : Int32) := by rw [fX11_widens, if_neg c3]
    have e34 : (fX11_widens__zV m_choices m_vl m_vtype m_vstart m_vd m_vs1 m_vs2 m_f3 m_sew m_l8 m_unmasked zX zV zO u1 u2 u3) = zV := by rw [fX11_widens__zV, if_neg c3, if_pos c4]
    exact k_zret9 X hRt hLk rfl e33.symm (by rw [e34]) dX11_widens_52
  refine k_aload_n X dX11_widens_53 rfl 0 rfl rfl ?_
  refine k_get X i_wsX110 0 9 q27_14 rfl rfl rfl rfl rfl dX11_widens_54 rfl ?_
  refine k_istore (lv' := [(5, .int m_vstart), (0, .ref b_m), (1, .int u1), (2, .int u2), (3, .int u3), (4, .int ((2 : Int32) * m_sew))]) X dX11_widens_57 rfl rfl rfl ?_
  refine k_sub [1, 2, 3, 4, 5, 0] (lv' := [(0, .ref b_m), (1, .int u1), (2, .int u2), (3, .int u3), (4, .int ((2 : Int32) * m_sew)), (5, .int m_vstart)]) rfl ?_
  refine k_loop (KX11_widens_59 m_choices m_vl m_vtype m_vd m_vs1 m_vs2 m_f3 m_sew m_unmasked zX zO u1 u2 u3) (LX11_widens_59 m_choices m_vl m_vtype m_vd m_vs1 m_vs2 m_f3 m_sew m_unmasked zX zO u1 u2 u3) (fun s9 => (bX11_widens_59_L5 m_vl s9.1 s9.2, bX11_widens_59_zV m_choices m_vl m_vtype m_vd m_vs1 m_vs2 m_f3 m_sew m_unmasked zX zO u1 u2 u3 s9.1 s9.2)) (fun s9 => tX11_widens_59 m_vl s9.1 s9.2 ∧ oX11_widens_59 m_choices m_vl m_vtype m_vd m_vs1 m_vs2 m_f3 m_sew m_unmasked zX zO u1 u2 u3 s9.1 s9.2) (fun s9 => [(b_m, .inr (10, [.int m_thrown, .ref b_zX, .ref b_zV, .ref b_zO, .ref m_memory, .ref m_shut, .long m_choices, .int m_vl, .int m_vtype, .int m_vstart, .int m_vxrm, .int m_vxsat, .int m_done, .int m_illegal, .int m_traps, .int m_trapAddress, .int m_word, .int m_vd, .int m_vs1, .int m_vs2, .int m_f3, .int m_f6, .int m_sew, .int m_l8, .int m_unmasked])), (b_zX, .inl (kI, 32, .inl zX)), (b_zV, .inl (kI, 512, .inl s9.2)), (b_zO, .inl (kI, 512, .inl zO))]) (fun s9 => [(0, .ref b_m), (1, .int u1), (2, .int u2), (3, .int u3), (4, .int ((2 : Int32) * m_sew)), (5, .int s9.1)]) 59 (fun _ => rfl) (fun _ _ => rfl) (fun _ _ h => h) ?_ (cnt m_vstart m_vl) (m_vstart, zV) (hok.2.1 c3 c4) ?_
  · rintro ⟨w_L5, w_zV⟩ ⟨hlat, hob⟩ g0
    try dsimp only at hlat hob g0 ⊢
    unfold oX11_widens_59 at hob
    refine k_iload X dX11_widens_59 5 rfl rfl ?_
    refine k_aload_n X dX11_widens_61 rfl 0 rfl rfl ?_
    refine k_get X i_wsX110 0 7 q28_7 rfl rfl rfl rfl rfl dX11_widens_62 rfl ?_
    refine k_icmp_ge (tgt := 198) X dX11_widens_65 (by decide) rfl (fun c5 => ?_) (fun c5 => ?_)
    · skip
      exact absurd hlat (by rw [tX11_widens_59, if_pos c5]; exact id)
    refine k_aload_n X dX11_widens_68 rfl 0 rfl rfl ?_
    refine k_iload X dX11_widens_69 5 rfl rfl ?_
    refine k_cV1 (st := []) (ws' := [(b_m, .inr (10, [.int m_thrown, .ref b_zX, .ref b_zV, .ref b_zO, .ref m_memory, .ref m_shut, .long m_choices, .int m_vl, .int m_vtype, .int m_vstart, .int m_vxrm, .int m_vxsat, .int m_done, .int m_illegal, .int m_traps, .int m_trapAddress, .int m_word, .int m_vd, .int m_vs1, .int m_vs2, .int m_f3, .int m_f6, .int m_sew, .int m_l8, .int m_unmasked])), (b_zX, .inl (kI, 32, .inl zX)), (b_zV, .inl (kI, 512, .inl w_zV)), (b_zO, .inl (kI, 512, .inl zO))]) (wr := [(b_zX, .inl (kI, 32, .inl zX)), (b_zV, .inl (kI, 512, .inl w_zV))]) (ci := 10) (q9 := 0) X [.int w_L5] 0 [0, 3] [1, 2] [2, 0, 1, 3] (kX11_isActive l D kI kZ b_m b_zO m_thrown b_zX b_zV m_memory m_shut m_choices m_vl m_vtype m_vstart m_vxrm m_vxsat m_done m_illegal m_traps m_trapAddress m_word m_vd m_vs1 m_vs2 m_f3 m_f6 m_sew m_l8 m_unmasked zO w_L5 (hob.1 c5)) vX11_isActive q31_6 dX11_widens_71 rfl rfl rfl rfl rfl rfl rfl rfl rfl rfl rfl rfl rfl rfl rfl ?_
    refine k_mid2 [(b_m, .inr (10, [.int m_thrown, .ref b_zX, .ref b_zV, .ref b_zO, .ref m_memory, .ref m_shut, .long m_choices, .int m_vl, .int m_vtype, .int m_vstart, .int m_vxrm, .int m_vxsat, .int m_done, .int m_illegal, .int m_traps, .int m_trapAddress, .int m_word, .int m_vd, .int m_vs1, .int m_vs2, .int m_f3, .int m_f6, .int m_sew, .int m_l8, .int m_unmasked])), (b_zX, .inl (kI, 32, .inl zX)), (b_zV, .inl (kI, 512, .inl (pX11_widens_192_zV m_choices m_vtype m_vd m_vs1 m_vs2 m_f3 m_sew m_unmasked zX zO u1 u2 u3 w_L5 w_zV))), (b_zO, .inl (kI, 512, .inl zO))] [(0, .ref b_m), (1, .int u1), (2, .int u2), (3, .int u3), (4, .int ((2 : Int32) * m_sew)), (5, .int w_L5)] [] 192 (fun hJ16 => ?_) ?_
    · skip
      refine k_if_ne (tgt := 92) X dX11_widens_74 (by decide) rfl (fun c6 => ?_) (fun c6 => ?_)
      · skip
        refine k_aload_n X dX11_widens_77 rfl 0 rfl rfl ?_
        refine k_aload_n X dX11_widens_78 rfl 0 rfl rfl ?_
        refine k_get X i_wsX110 0 17 q27_3 rfl rfl rfl rfl rfl dX11_widens_79 rfl ?_
        refine k_iload X dX11_widens_82 4 rfl rfl ?_
        refine k_iload X dX11_widens_84 5 rfl rfl ?_
        refine k_cV0 (st := []) (ws' := [(b_m, .inr (10, [.int m_thrown, .ref b_zX, .ref b_zV, .ref b_zO, .ref m_memory, .ref m_shut, .long m_choices, .int m_vl, .int m_vtype, .int m_vstart, .int m_vxrm, .int m_vxsat, .int m_done, .int m_illegal, .int m_traps, .int m_trapAddress, .int m_word, .int m_vd, .int m_vs1, .int m_vs2, .int m_f3, .int m_f6, .int m_sew, .int m_l8, .int m_unmasked])), (b_zX, .inl (kI, 32, .inl zX)), (b_zV, .inl (kI, 512, .inl (fX11_masked__zV m_choices m_vtype w_zV m_vd ((2 : Int32) * m_sew) w_L5))), (b_zO, .inl (kI, 512, .inl zO))]) (wr := [(b_zX, .inl (kI, 32, .inl zX)), (b_zO, .inl (kI, 512, .inl zO))]) (ci := 10) (q9 := 0) X [.int m_vd, .int ((2 : Int32) * m_sew), .int w_L5] 0 [0, 2] [1, 3] [2, 0, 3, 1] (kX11_masked l D kI kZ b_m b_zV m_thrown b_zX b_zO m_memory m_shut m_choices m_vl m_vtype m_vstart m_vxrm m_vxsat m_done m_illegal m_traps m_trapAddress m_word m_vd m_vs1 m_vs2 m_f3 m_f6 m_sew m_l8 m_unmasked w_zV m_vd ((2 : Int32) * m_sew) w_L5 (hob.2.1 c5 c6)) vX11_masked q31_14 dX11_widens_86 rfl rfl rfl rfl rfl rfl rfl rfl rfl rfl rfl rfl rfl rfl rfl ?_
        refine k_goto (tgt := 192) X dX11_widens_89 (by decide) ?_
        have e35 : (pX11_widens_192_zV m_choices m_vtype m_vd m_vs1 m_vs2 m_f3 m_sew m_unmasked zX zO u1 u2 u3 w_L5 w_zV) = (fX11_masked__zV m_choices m_vtype w_zV m_vd ((2 : Int32) * m_sew) w_L5) := by rw [pX11_widens_192_zV, if_pos c6]
        rw [e35] at hJ16
        exact k_sub [0, 1, 2, 3, 4, 5] rfl hJ16
      refine k_aload_n X dX11_widens_92 rfl 0 rfl rfl ?_
      refine k_aload_n X dX11_widens_93 rfl 0 rfl rfl ?_
      refine k_get X i_wsX110 0 19 q27_6 rfl rfl rfl rfl rfl dX11_widens_94 rfl ?_
      refine k_iload_n X dX11_widens_97 rfl 3 rfl rfl ?_
      refine k_mid2 [(b_m, .inr (10, [.int m_thrown, .ref b_zX, .ref b_zV, .ref b_zO, .ref m_memory, .ref m_shut, .long m_choices, .int m_vl, .int m_vtype, .int m_vstart, .int m_vxrm, .int m_vxsat, .int m_done, .int m_illegal, .int m_traps, .int m_trapAddress, .int m_word, .int m_vd, .int m_vs1, .int m_vs2, .int m_f3, .int m_f6, .int m_sew, .int m_l8, .int m_unmasked])), (b_zX, .inl (kI, 32, .inl zX)), (b_zV, .inl (kI, 512, .inl w_zV)), (b_zO, .inl (kI, 512, .inl zO))] [(0, .ref b_m), (1, .int u1), (2, .int u2), (3, .int u3), (4, .int ((2 : Int32) * m_sew)), (5, .int w_L5)] [.int (pX11_widens_110_S3 m_sew u3), .int m_vs2, .ref b_m] 110 (fun hJ8 => ?_) ?_
      · skip
        refine k_if_eq (tgt := 106) X dX11_widens_98 (by decide) rfl (fun c7 => ?_) (fun c7 => ?_)
        · skip
          refine k_aload_n X dX11_widens_106 rfl 0 rfl rfl ?_
          refine k_get X i_wsX110 0 22 q27_9 rfl rfl rfl rfl rfl dX11_widens_107 rfl ?_
          have e36 : (pX11_widens_110_S3 m_sew u3) = m_sew := by rw [pX11_widens_110_S3, if_pos c7]
          rw [e36] at hJ8
          exact k_sub [0, 1, 2, 3, 4, 5] rfl hJ8
        refine k_iload X dX11_widens_101 4 rfl rfl ?_
        refine k_goto (tgt := 110) X dX11_widens_103 (by decide) ?_
        have e37 : (pX11_widens_110_S3 m_sew u3) = ((2 : Int32) * m_sew) := by rw [pX11_widens_110_S3, if_neg c7]
        rw [e37] at hJ8
        exact k_sub [0, 1, 2, 3, 4, 5] rfl hJ8
      refine k_iload X dX11_widens_110 5 rfl rfl ?_
      refine k_cV1 (st := []) (ws' := [(b_m, .inr (10, [.int m_thrown, .ref b_zX, .ref b_zV, .ref b_zO, .ref m_memory, .ref m_shut, .long m_choices, .int m_vl, .int m_vtype, .int m_vstart, .int m_vxrm, .int m_vxsat, .int m_done, .int m_illegal, .int m_traps, .int m_trapAddress, .int m_word, .int m_vd, .int m_vs1, .int m_vs2, .int m_f3, .int m_f6, .int m_sew, .int m_l8, .int m_unmasked])), (b_zX, .inl (kI, 32, .inl zX)), (b_zV, .inl (kI, 512, .inl w_zV)), (b_zO, .inl (kI, 512, .inl zO))]) (wr := [(b_zX, .inl (kI, 32, .inl zX)), (b_zV, .inl (kI, 512, .inl w_zV))]) (ci := 10) (q9 := 0) X [.int m_vs2, .int (pX11_widens_110_S3 m_sew u3), .int w_L5] 0 [0, 3] [1, 2] [2, 0, 1, 3] (kX11_get l D kI kZ b_m b_zO m_thrown b_zX b_zV m_memory m_shut m_choices m_vl m_vtype m_vstart m_vxrm m_vxsat m_done m_illegal m_traps m_trapAddress m_word m_vd m_vs1 m_vs2 m_f3 m_f6 m_sew m_l8 m_unmasked zO m_vs2 (pX11_widens_110_S3 m_sew u3) w_L5 (hob.2.2.1 c5 c6)) vX11_get q32_21 dX11_widens_112 rfl rfl rfl rfl rfl rfl rfl rfl rfl rfl rfl rfl rfl rfl rfl ?_
      refine k_lstore (lv' := [(6, .long (fX11_get zO m_vs2 (pX11_widens_110_S3 m_sew u3) w_L5)), (0, .ref b_m), (1, .int u1), (2, .int u2), (3, .int u3), (4, .int ((2 : Int32) * m_sew)), (5, .int w_L5)]) X dX11_widens_115 rfl rfl rfl ?_
      refine k_aload_n X dX11_widens_117 rfl 1 rfl rfl ?_
      refine k_aload_n X dX11_widens_118 rfl 1 rfl rfl ?_
      refine k_get X i_wsX110 0 22 q27_9 rfl rfl rfl rfl rfl dX11_widens_119 rfl ?_
      refine k_iload X dX11_widens_122 6 rfl rfl ?_
      refine k_cV1 (st := []) (ws' := [(b_m, .inr (10, [.int m_thrown, .ref b_zX, .ref b_zV, .ref b_zO, .ref m_memory, .ref m_shut, .long m_choices, .int m_vl, .int m_vtype, .int m_vstart, .int m_vxrm, .int m_vxsat, .int m_done, .int m_illegal, .int m_traps, .int m_trapAddress, .int m_word, .int m_vd, .int m_vs1, .int m_vs2, .int m_f3, .int m_f6, .int m_sew, .int m_l8, .int m_unmasked])), (b_zX, .inl (kI, 32, .inl zX)), (b_zV, .inl (kI, 512, .inl w_zV)), (b_zO, .inl (kI, 512, .inl zO))]) (wr := [(b_zV, .inl (kI, 512, .inl w_zV))]) (ci := 10) (q9 := 0) X [.int m_sew, .int w_L5] 0 [0, 1, 3] [2] [1, 2, 0, 3] (kX11_second_ l D kI kZ b_m b_zX b_zO m_thrown b_zV m_memory m_shut m_choices m_vl m_vtype m_vstart m_vxrm m_vxsat m_done m_illegal m_traps m_trapAddress m_word m_vd m_vs1 m_vs2 m_f3 m_f6 m_sew m_l8 m_unmasked zX zO m_sew w_L5 (hob.2.2.2.1 c5 c6)) vX11_second_ q33_5 dX11_widens_124 rfl rfl rfl rfl rfl rfl rfl rfl rfl rfl rfl rfl rfl rfl rfl ?_
      refine k_lstore (lv' := [(8, .long (fX11_second_ m_vs1 m_f3 zX zO m_sew w_L5)), (6, .long (fX11_get zO m_vs2 (pX11_widens_110_S3 m_sew u3) w_L5)), (0, .ref b_m), (1, .int u1), (2, .int u2), (3, .int u3), (4, .int ((2 : Int32) * m_sew)), (5, .int w_L5)]) X dX11_widens_127 rfl rfl rfl ?_
      refine k_iload_n X dX11_widens_129 rfl 3 rfl rfl ?_
      refine k_mid2 [(b_m, .inr (10, [.int m_thrown, .ref b_zX, .ref b_zV, .ref b_zO, .ref m_memory, .ref m_shut, .long m_choices, .int m_vl, .int m_vtype, .int m_vstart, .int m_vxrm, .int m_vxsat, .int m_done, .int m_illegal, .int m_traps, .int m_trapAddress, .int m_word, .int m_vd, .int m_vs1, .int m_vs2, .int m_f3, .int m_f6, .int m_sew, .int m_l8, .int m_unmasked])), (b_zX, .inl (kI, 32, .inl zX)), (b_zV, .inl (kI, 512, .inl w_zV)), (b_zO, .inl (kI, 512, .inl zO))] [(0, .ref b_m), (1, .int u1), (2, .int u2), (3, .int u3), (4, .int ((2 : Int32) * m_sew)), (5, .int w_L5), (6, .long (pX11_widens_148_L6 m_vs2 m_sew zO u1 u3 w_L5)), (8, .long (fX11_second_ m_vs1 m_f3 zX zO m_sew w_L5))] [] 148 (fun hJ11 => ?_) ?_
      · skip
        refine k_if_eq (tgt := 148) X dX11_widens_130 (by decide) rfl (fun c9 => ?_) (fun c9 => ?_)
        · skip
          have e38 : (pX11_widens_148_L6 m_vs2 m_sew zO u1 u3 w_L5) = (fX11_get zO m_vs2 (pX11_widens_110_S3 m_sew u3) w_L5) := by rw [pX11_widens_148_L6, if_pos c9]
          rw [e38] at hJ11
          exact k_sub [2, 3, 4, 5, 6, 7, 1, 0] rfl hJ11
        refine k_iload_n X dX11_widens_133 rfl 5 rfl rfl ?_
        refine k_if_ne (tgt := 148) X dX11_widens_134 (by decide) rfl (fun c10 => ?_) (fun c10 => ?_)
        · skip
          refine k_lload X dX11_widens_137 1 rfl rfl ?_
          refine k_aload_n X dX11_widens_139 rfl 2 rfl rfl ?_
          refine k_get X i_wsX110 0 22 q27_9 rfl rfl rfl rfl rfl dX11_widens_140 rfl ?_
          refine k_cS1 (st := []) (ws' := [(b_m, .inr (10, [.int m_thrown, .ref b_zX, .ref b_zV, .ref b_zO, .ref m_memory, .ref m_shut, .long m_choices, .int m_vl, .int m_vtype, .int m_vstart, .int m_vxrm, .int m_vxsat, .int m_done, .int m_illegal, .int m_traps, .int m_trapAddress, .int m_word, .int m_vd, .int m_vs1, .int m_vs2, .int m_f3, .int m_f6, .int m_sew, .int m_l8, .int m_unmasked])), (b_zX, .inl (kI, 32, .inl zX)), (b_zV, .inl (kI, 512, .inl w_zV)), (b_zO, .inl (kI, 512, .inl zO))]) (wr := [(b_m, .inr (10, [.int m_thrown, .ref b_zX, .ref b_zV, .ref b_zO, .ref m_memory, .ref m_shut, .long m_choices, .int m_vl, .int m_vtype, .int m_vstart, .int m_vxrm, .int m_vxsat, .int m_done, .int m_illegal, .int m_traps, .int m_trapAddress, .int m_word, .int m_vd, .int m_vs1, .int m_vs2, .int m_f3, .int m_f6, .int m_sew, .int m_l8, .int m_unmasked])), (b_zX, .inl (kI, 32, .inl zX)), (b_zV, .inl (kI, 512, .inl w_zV)), (b_zO, .inl (kI, 512, .inl zO))]) X [.long (fX11_get zO m_vs2 (pX11_widens_110_S3 m_sew u3) w_L5), .int m_sew] 0 [] [0, 1, 2, 3] [0, 1, 2, 3] (kX11_signed l D kI kZ (fX11_get zO m_vs2 (pX11_widens_110_S3 m_sew u3) w_L5) m_sew) vX11_signed q33_20 dX11_widens_143 rfl rfl rfl rfl rfl rfl rfl rfl rfl rfl rfl rfl rfl ?_
          refine k_foldl (v := (eX11_widens_146 m_vs2 m_sew zO u3 w_L5)) rfl ?_
          refine k_lstore (lv' := [(6, .long (eX11_widens_146 m_vs2 m_sew zO u3 w_L5)), (8, .long (fX11_second_ m_vs1 m_f3 zX zO m_sew w_L5)), (0, .ref b_m), (1, .int u1), (2, .int u2), (3, .int u3), (4, .int ((2 : Int32) * m_sew)), (5, .int w_L5)]) X dX11_widens_146 rfl rfl rfl ?_
          have e39 : (pX11_widens_148_L6 m_vs2 m_sew zO u1 u3 w_L5) = (eX11_widens_146 m_vs2 m_sew zO u3 w_L5) := by rw [pX11_widens_148_L6, if_neg c9, if_pos c10]
          rw [e39] at hJ11
          exact k_sub [2, 3, 4, 5, 6, 7, 0, 1] rfl hJ11
        have e40 : (pX11_widens_148_L6 m_vs2 m_sew zO u1 u3 w_L5) = (fX11_get zO m_vs2 (pX11_widens_110_S3 m_sew u3) w_L5) := by rw [pX11_widens_148_L6, if_neg c9, if_neg c10]
        rw [e40] at hJ11
        exact k_sub [2, 3, 4, 5, 6, 7, 1, 0] rfl hJ11
      refine k_iload_n X dX11_widens_148 rfl 1 rfl rfl ?_
      refine k_mid2 [(b_m, .inr (10, [.int m_thrown, .ref b_zX, .ref b_zV, .ref b_zO, .ref m_memory, .ref m_shut, .long m_choices, .int m_vl, .int m_vtype, .int m_vstart, .int m_vxrm, .int m_vxsat, .int m_done, .int m_illegal, .int m_traps, .int m_trapAddress, .int m_word, .int m_vd, .int m_vs1, .int m_vs2, .int m_f3, .int m_f6, .int m_sew, .int m_l8, .int m_unmasked])), (b_zX, .inl (kI, 32, .inl zX)), (b_zV, .inl (kI, 512, .inl w_zV)), (b_zO, .inl (kI, 512, .inl zO))] [(0, .ref b_m), (1, .int u1), (2, .int u2), (3, .int u3), (4, .int ((2 : Int32) * m_sew)), (5, .int w_L5), (6, .long (pX11_widens_148_L6 m_vs2 m_sew zO u1 u3 w_L5)), (8, .long (pX11_widens_163_L8 m_vs1 m_f3 m_sew zX zO u1 w_L5))] [] 163 (fun hJ13 => ?_) ?_
      · skip
        refine k_if_eq (tgt := 163) X dX11_widens_149 (by decide) rfl (fun c12 => ?_) (fun c12 => ?_)
        · skip
          have e41 : (pX11_widens_163_L8 m_vs1 m_f3 m_sew zX zO u1 w_L5) = (fX11_second_ m_vs1 m_f3 zX zO m_sew w_L5) := by rw [pX11_widens_163_L8, if_pos c12]
          rw [e41] at hJ13
          exact k_sub [0, 1, 2, 3, 4, 5, 6, 7] rfl hJ13
        refine k_lload X dX11_widens_152 7 rfl rfl ?_
        refine k_aload_n X dX11_widens_154 rfl 0 rfl rfl ?_
        refine k_get X i_wsX110 0 22 q27_9 rfl rfl rfl rfl rfl dX11_widens_155 rfl ?_
        refine k_cS1 (st := []) (ws' := [(b_m, .inr (10, [.int m_thrown, .ref b_zX, .ref b_zV, .ref b_zO, .ref m_memory, .ref m_shut, .long m_choices, .int m_vl, .int m_vtype, .int m_vstart, .int m_vxrm, .int m_vxsat, .int m_done, .int m_illegal, .int m_traps, .int m_trapAddress, .int m_word, .int m_vd, .int m_vs1, .int m_vs2, .int m_f3, .int m_f6, .int m_sew, .int m_l8, .int m_unmasked])), (b_zX, .inl (kI, 32, .inl zX)), (b_zV, .inl (kI, 512, .inl w_zV)), (b_zO, .inl (kI, 512, .inl zO))]) (wr := [(b_m, .inr (10, [.int m_thrown, .ref b_zX, .ref b_zV, .ref b_zO, .ref m_memory, .ref m_shut, .long m_choices, .int m_vl, .int m_vtype, .int m_vstart, .int m_vxrm, .int m_vxsat, .int m_done, .int m_illegal, .int m_traps, .int m_trapAddress, .int m_word, .int m_vd, .int m_vs1, .int m_vs2, .int m_f3, .int m_f6, .int m_sew, .int m_l8, .int m_unmasked])), (b_zX, .inl (kI, 32, .inl zX)), (b_zV, .inl (kI, 512, .inl w_zV)), (b_zO, .inl (kI, 512, .inl zO))]) X [.long (fX11_second_ m_vs1 m_f3 zX zO m_sew w_L5), .int m_sew] 0 [] [0, 1, 2, 3] [0, 1, 2, 3] (kX11_signed l D kI kZ (fX11_second_ m_vs1 m_f3 zX zO m_sew w_L5) m_sew) vX11_signed q33_20 dX11_widens_158 rfl rfl rfl rfl rfl rfl rfl rfl rfl rfl rfl rfl rfl ?_
        refine k_lstore (lv' := [(8, .long (fX11_signed (fX11_second_ m_vs1 m_f3 zX zO m_sew w_L5) m_sew)), (0, .ref b_m), (1, .int u1), (2, .int u2), (3, .int u3), (4, .int ((2 : Int32) * m_sew)), (5, .int w_L5), (6, .long (pX11_widens_148_L6 m_vs2 m_sew zO u1 u3 w_L5))]) X dX11_widens_161 rfl rfl rfl ?_
        have e42 : (pX11_widens_163_L8 m_vs1 m_f3 m_sew zX zO u1 w_L5) = (fX11_signed (fX11_second_ m_vs1 m_f3 zX zO m_sew w_L5) m_sew) := by rw [pX11_widens_163_L8, if_neg c12]
        rw [e42] at hJ13
        exact k_sub [1, 2, 3, 4, 5, 6, 7, 0] rfl hJ13
      refine k_aload_n X dX11_widens_163 rfl 0 rfl rfl ?_
      refine k_aload_n X dX11_widens_164 rfl 0 rfl rfl ?_
      refine k_get X i_wsX110 0 17 q27_3 rfl rfl rfl rfl rfl dX11_widens_165 rfl ?_
      refine k_iload X dX11_widens_168 4 rfl rfl ?_
      refine k_iload X dX11_widens_170 5 rfl rfl ?_
      refine k_iload_n X dX11_widens_172 rfl 2 rfl rfl ?_
      refine k_mid2 [(b_m, .inr (10, [.int m_thrown, .ref b_zX, .ref b_zV, .ref b_zO, .ref m_memory, .ref m_shut, .long m_choices, .int m_vl, .int m_vtype, .int m_vstart, .int m_vxrm, .int m_vxsat, .int m_done, .int m_illegal, .int m_traps, .int m_trapAddress, .int m_word, .int m_vd, .int m_vs1, .int m_vs2, .int m_f3, .int m_f6, .int m_sew, .int m_l8, .int m_unmasked])), (b_zX, .inl (kI, 32, .inl zX)), (b_zV, .inl (kI, 512, .inl w_zV)), (b_zO, .inl (kI, 512, .inl zO))] [(0, .ref b_m), (1, .int u1), (2, .int u2), (3, .int u3), (4, .int ((2 : Int32) * m_sew)), (5, .int w_L5), (6, .long (pX11_widens_148_L6 m_vs2 m_sew zO u1 u3 w_L5)), (8, .long (pX11_widens_163_L8 m_vs1 m_f3 m_sew zX zO u1 w_L5))] [.long (pX11_widens_189_S5 m_vs1 m_vs2 m_f3 m_sew zX zO u1 u2 u3 w_L5), .int w_L5, .int ((2 : Int32) * m_sew), .int m_vd, .ref b_m] 189 (fun hJ15 => ?_) ?_
      · skip
        refine k_if_eq (tgt := 184) X dX11_widens_173 (by decide) rfl (fun c14 => ?_) (fun c14 => ?_)
        · skip
          refine k_lload X dX11_widens_184 6 rfl rfl ?_
          refine k_lload X dX11_widens_186 7 rfl rfl ?_
          refine k_ladd X dX11_widens_188 rfl ?_
          have e43 : (pX11_widens_189_S5 m_vs1 m_vs2 m_f3 m_sew zX zO u1 u2 u3 w_L5) = ((pX11_widens_148_L6 m_vs2 m_sew zO u1 u3 w_L5) + (pX11_widens_163_L8 m_vs1 m_f3 m_sew zX zO u1 w_L5)) := by rw [pX11_widens_189_S5, if_pos c14]
          rw [e43] at hJ15
          exact k_sub [0, 1, 2, 3, 4, 5, 6, 7] rfl hJ15
        refine k_lload X dX11_widens_176 6 rfl rfl ?_
        refine k_lload X dX11_widens_178 7 rfl rfl ?_
        refine k_lsub X dX11_widens_180 rfl ?_
        refine k_goto (tgt := 189) X dX11_widens_181 (by decide) ?_
        have e44 : (pX11_widens_189_S5 m_vs1 m_vs2 m_f3 m_sew zX zO u1 u2 u3 w_L5) = ((pX11_widens_148_L6 m_vs2 m_sew zO u1 u3 w_L5) - (pX11_widens_163_L8 m_vs1 m_f3 m_sew zX zO u1 w_L5)) := by rw [pX11_widens_189_S5, if_neg c14]
        rw [e44] at hJ15
        exact k_sub [0, 1, 2, 3, 4, 5, 6, 7] rfl hJ15
      refine k_cV0 (st := []) (ws' := [(b_m, .inr (10, [.int m_thrown, .ref b_zX, .ref b_zV, .ref b_zO, .ref m_memory, .ref m_shut, .long m_choices, .int m_vl, .int m_vtype, .int m_vstart, .int m_vxrm, .int m_vxsat, .int m_done, .int m_illegal, .int m_traps, .int m_trapAddress, .int m_word, .int m_vd, .int m_vs1, .int m_vs2, .int m_f3, .int m_f6, .int m_sew, .int m_l8, .int m_unmasked])), (b_zX, .inl (kI, 32, .inl zX)), (b_zV, .inl (kI, 512, .inl (fX11_put__zV w_zV m_vd ((2 : Int32) * m_sew) w_L5 (pX11_widens_189_S5 m_vs1 m_vs2 m_f3 m_sew zX zO u1 u2 u3 w_L5)))), (b_zO, .inl (kI, 512, .inl zO))]) (wr := [(b_zX, .inl (kI, 32, .inl zX)), (b_zO, .inl (kI, 512, .inl zO))]) (ci := 10) (q9 := 0) X [.int m_vd, .int ((2 : Int32) * m_sew), .int w_L5, .long (pX11_widens_189_S5 m_vs1 m_vs2 m_f3 m_sew zX zO u1 u2 u3 w_L5)] 0 [0, 2] [1, 3] [2, 0, 3, 1] (kX11_put l D kI kZ b_m b_zV m_thrown b_zX b_zO m_memory m_shut m_choices m_vl m_vtype m_vstart m_vxrm m_vxsat m_done m_illegal m_traps m_trapAddress m_word m_vd m_vs1 m_vs2 m_f3 m_f6 m_sew m_l8 m_unmasked w_zV m_vd ((2 : Int32) * m_sew) w_L5 (pX11_widens_189_S5 m_vs1 m_vs2 m_f3 m_sew zX zO u1 u2 u3 w_L5) (hob.2.2.2.2 c5 c6)) vX11_put q32_13 dX11_widens_189 rfl rfl rfl rfl rfl rfl rfl rfl rfl rfl rfl rfl rfl rfl rfl ?_
      have e45 : (pX11_widens_192_zV m_choices m_vtype m_vd m_vs1 m_vs2 m_f3 m_sew m_unmasked zX zO u1 u2 u3 w_L5 w_zV) = (fX11_put__zV w_zV m_vd ((2 : Int32) * m_sew) w_L5 (pX11_widens_189_S5 m_vs1 m_vs2 m_f3 m_sew zX zO u1 u2 u3 w_L5)) := by rw [pX11_widens_192_zV, if_neg c6]
      rw [e45] at hJ16
      exact k_sub [0, 1, 2, 3, 4, 5] rfl hJ16
    refine k_iinc (lv' := [(5, .int (w_L5 + (1 : Int32))), (0, .ref b_m), (1, .int u1), (2, .int u2), (3, .int u3), (4, .int ((2 : Int32) * m_sew))]) X dX11_widens_192 5 rfl kc_i_1 rfl rfl rfl ?_
    refine k_goto (tgt := 59) X dX11_widens_195 (by decide) ?_
    have e46 : bX11_widens_59_L5 m_vl w_L5 w_zV = (w_L5 + (1 : Int32)) := by rw [bX11_widens_59_L5, if_neg c5]
    rw [e46] at g0
    have e47 : bX11_widens_59_zV m_choices m_vl m_vtype m_vd m_vs1 m_vs2 m_f3 m_sew m_unmasked zX zO u1 u2 u3 w_L5 w_zV = (pX11_widens_192_zV m_choices m_vtype m_vd m_vs1 m_vs2 m_f3 m_sew m_unmasked zX zO u1 u2 u3 w_L5 w_zV) := by rw [bX11_widens_59_zV, if_neg c5]
    rw [e47] at g0
    exact k_sub [1, 2, 3, 4, 5, 0] rfl g0
  try dsimp only
  refine k_iload X dX11_widens_59 5 rfl rfl ?_
  refine k_aload_n X dX11_widens_61 rfl 0 rfl rfl ?_
  refine k_get X i_wsX110 0 7 q28_7 rfl rfl rfl rfl rfl dX11_widens_62 rfl ?_
  refine k_icmp_ge (tgt := 198) X dX11_widens_65 (by decide) rfl (fun c17 => ?_) (fun c17 => ?_)
  · skip
    refine k_aload_n X dX11_widens_198 rfl 0 rfl rfl ?_
    refine k_aload_n X dX11_widens_199 rfl 0 rfl rfl ?_
    refine k_get X i_wsX110 0 17 q27_3 rfl rfl rfl rfl rfl dX11_widens_200 rfl ?_
    refine k_iload X dX11_widens_203 4 rfl rfl ?_
    refine k_iconst X dX11_widens_205 kc_i_2 rfl ?_
    refine k_aload_n X dX11_widens_206 rfl 0 rfl rfl ?_
    refine k_get X i_wsX110 0 23 q27_10 rfl rfl rfl rfl rfl dX11_widens_207 rfl ?_
    refine k_imul X dX11_widens_210 rfl ?_
    refine k_aload_n X dX11_widens_211 rfl 0 rfl rfl ?_
    refine k_get X i_wsX110 0 7 q28_7 rfl rfl rfl rfl rfl dX11_widens_212 rfl ?_
    refine k_cV0 (st := []) (ws' := [(b_m, .inr (10, [.int m_thrown, .ref b_zX, .ref b_zV, .ref b_zO, .ref m_memory, .ref m_shut, .long m_choices, .int m_vl, .int m_vtype, .int m_vstart, .int m_vxrm, .int m_vxsat, .int m_done, .int m_illegal, .int m_traps, .int m_trapAddress, .int m_word, .int m_vd, .int m_vs1, .int m_vs2, .int m_f3, .int m_f6, .int m_sew, .int m_l8, .int m_unmasked])), (b_zX, .inl (kI, 32, .inl zX)), (b_zV, .inl (kI, 512, .inl (fX11_tail__zV m_choices m_vtype ((LX11_widens_59 m_choices m_vl m_vtype m_vd m_vs1 m_vs2 m_f3 m_sew m_unmasked zX zO u1 u2 u3 (cnt m_vstart m_vl) (m_vstart, zV)).2) m_vd ((2 : Int32) * m_sew) ((2 : Int32) * m_l8) m_vl))), (b_zO, .inl (kI, 512, .inl zO))]) (wr := [(b_zX, .inl (kI, 32, .inl zX)), (b_zO, .inl (kI, 512, .inl zO))]) (ci := 10) (q9 := 0) X [.int m_vd, .int ((2 : Int32) * m_sew), .int ((2 : Int32) * m_l8), .int m_vl] 0 [0, 2] [1, 3] [2, 0, 3, 1] (kX11_tail l D kI kZ b_m b_zV m_thrown b_zX b_zO m_memory m_shut m_choices m_vl m_vtype m_vstart m_vxrm m_vxsat m_done m_illegal m_traps m_trapAddress m_word m_vd m_vs1 m_vs2 m_f3 m_f6 m_sew m_l8 m_unmasked ((LX11_widens_59 m_choices m_vl m_vtype m_vd m_vs1 m_vs2 m_f3 m_sew m_unmasked zX zO u1 u2 u3 (cnt m_vstart m_vl) (m_vstart, zV)).2) m_vd ((2 : Int32) * m_sew) ((2 : Int32) * m_l8) m_vl (hok.2.2.2.1 c3 c4 c17)) vX11_tail q34_11 dX11_widens_215 rfl rfl rfl rfl rfl rfl rfl rfl rfl rfl rfl rfl rfl rfl rfl ?_
    refine k_iconst X dX11_widens_218 kc_i_1 rfl ?_
    have e48 : (fX11_widens m_vd m_vs1 m_vs2 m_f3 m_sew m_l8 m_unmasked u3) = (1 : Int32) := by rw [fX11_widens, if_neg c3]
    have e49 : (fX11_widens__zV m_choices m_vl m_vtype m_vstart m_vd m_vs1 m_vs2 m_f3 m_sew m_l8 m_unmasked zX zV zO u1 u2 u3) = (fX11_tail__zV m_choices m_vtype ((LX11_widens_59 m_choices m_vl m_vtype m_vd m_vs1 m_vs2 m_f3 m_sew m_unmasked zX zO u1 u2 u3 (cnt m_vstart m_vl) (m_vstart, zV)).2) m_vd ((2 : Int32) * m_sew) ((2 : Int32) * m_l8) m_vl) := by rw [fX11_widens__zV, if_neg c3, if_neg c4]
    exact k_zret9 X hRt hLk rfl e48.symm (by rw [e49]) dX11_widens_219
  refine k_aload_n X dX11_widens_68 rfl 0 rfl rfl ?_
  refine k_iload X dX11_widens_69 5 rfl rfl ?_
  refine k_cV1 (st := []) (ws' := [(b_m, .inr (10, [.int m_thrown, .ref b_zX, .ref b_zV, .ref b_zO, .ref m_memory, .ref m_shut, .long m_choices, .int m_vl, .int m_vtype, .int m_vstart, .int m_vxrm, .int m_vxsat, .int m_done, .int m_illegal, .int m_traps, .int m_trapAddress, .int m_word, .int m_vd, .int m_vs1, .int m_vs2, .int m_f3, .int m_f6, .int m_sew, .int m_l8, .int m_unmasked])), (b_zX, .inl (kI, 32, .inl zX)), (b_zV, .inl (kI, 512, .inl ((LX11_widens_59 m_choices m_vl m_vtype m_vd m_vs1 m_vs2 m_f3 m_sew m_unmasked zX zO u1 u2 u3 (cnt m_vstart m_vl) (m_vstart, zV)).2))), (b_zO, .inl (kI, 512, .inl zO))]) (wr := [(b_zX, .inl (kI, 32, .inl zX)), (b_zV, .inl (kI, 512, .inl ((LX11_widens_59 m_choices m_vl m_vtype m_vd m_vs1 m_vs2 m_f3 m_sew m_unmasked zX zO u1 u2 u3 (cnt m_vstart m_vl) (m_vstart, zV)).2)))]) (ci := 10) (q9 := 0) X [.int ((LX11_widens_59 m_choices m_vl m_vtype m_vd m_vs1 m_vs2 m_f3 m_sew m_unmasked zX zO u1 u2 u3 (cnt m_vstart m_vl) (m_vstart, zV)).1)] 0 [0, 3] [1, 2] [2, 0, 1, 3] (kX11_isActive l D kI kZ b_m b_zO m_thrown b_zX b_zV m_memory m_shut m_choices m_vl m_vtype m_vstart m_vxrm m_vxsat m_done m_illegal m_traps m_trapAddress m_word m_vd m_vs1 m_vs2 m_f3 m_f6 m_sew m_l8 m_unmasked zO ((LX11_widens_59 m_choices m_vl m_vtype m_vd m_vs1 m_vs2 m_f3 m_sew m_unmasked zX zO u1 u2 u3 (cnt m_vstart m_vl) (m_vstart, zV)).1) (hok.2.2.2.2.1 c3 c4 c17)) vX11_isActive q31_6 dX11_widens_71 rfl rfl rfl rfl rfl rfl rfl rfl rfl rfl rfl rfl rfl rfl rfl ?_
  refine k_mid2 [(b_m, .inr (10, [.int m_thrown, .ref b_zX, .ref b_zV, .ref b_zO, .ref m_memory, .ref m_shut, .long m_choices, .int m_vl, .int m_vtype, .int m_vstart, .int m_vxrm, .int m_vxsat, .int m_done, .int m_illegal, .int m_traps, .int m_trapAddress, .int m_word, .int m_vd, .int m_vs1, .int m_vs2, .int m_f3, .int m_f6, .int m_sew, .int m_l8, .int m_unmasked])), (b_zX, .inl (kI, 32, .inl zX)), (b_zV, .inl (kI, 512, .inl (pX11_widens_192_zV m_choices m_vtype m_vd m_vs1 m_vs2 m_f3 m_sew m_unmasked zX zO u1 u2 u3 ((LX11_widens_59 m_choices m_vl m_vtype m_vd m_vs1 m_vs2 m_f3 m_sew m_unmasked zX zO u1 u2 u3 (cnt m_vstart m_vl) (m_vstart, zV)).1) ((LX11_widens_59 m_choices m_vl m_vtype m_vd m_vs1 m_vs2 m_f3 m_sew m_unmasked zX zO u1 u2 u3 (cnt m_vstart m_vl) (m_vstart, zV)).2)))), (b_zO, .inl (kI, 512, .inl zO))] [(0, .ref b_m), (1, .int u1), (2, .int u2), (3, .int u3), (4, .int ((2 : Int32) * m_sew)), (5, .int ((LX11_widens_59 m_choices m_vl m_vtype m_vd m_vs1 m_vs2 m_f3 m_sew m_unmasked zX zO u1 u2 u3 (cnt m_vstart m_vl) (m_vstart, zV)).1))] [] 192 (fun hJ28 => ?_) ?_
  · skip
    refine k_if_ne (tgt := 92) X dX11_widens_74 (by decide) rfl (fun c18 => ?_) (fun c18 => ?_)
    · skip
      refine k_aload_n X dX11_widens_77 rfl 0 rfl rfl ?_
      refine k_aload_n X dX11_widens_78 rfl 0 rfl rfl ?_
      refine k_get X i_wsX110 0 17 q27_3 rfl rfl rfl rfl rfl dX11_widens_79 rfl ?_
      refine k_iload X dX11_widens_82 4 rfl rfl ?_
      refine k_iload X dX11_widens_84 5 rfl rfl ?_
      refine k_cV0 (st := []) (ws' := [(b_m, .inr (10, [.int m_thrown, .ref b_zX, .ref b_zV, .ref b_zO, .ref m_memory, .ref m_shut, .long m_choices, .int m_vl, .int m_vtype, .int m_vstart, .int m_vxrm, .int m_vxsat, .int m_done, .int m_illegal, .int m_traps, .int m_trapAddress, .int m_word, .int m_vd, .int m_vs1, .int m_vs2, .int m_f3, .int m_f6, .int m_sew, .int m_l8, .int m_unmasked])), (b_zX, .inl (kI, 32, .inl zX)), (b_zV, .inl (kI, 512, .inl (fX11_masked__zV m_choices m_vtype ((LX11_widens_59 m_choices m_vl m_vtype m_vd m_vs1 m_vs2 m_f3 m_sew m_unmasked zX zO u1 u2 u3 (cnt m_vstart m_vl) (m_vstart, zV)).2) m_vd ((2 : Int32) * m_sew) ((LX11_widens_59 m_choices m_vl m_vtype m_vd m_vs1 m_vs2 m_f3 m_sew m_unmasked zX zO u1 u2 u3 (cnt m_vstart m_vl) (m_vstart, zV)).1)))), (b_zO, .inl (kI, 512, .inl zO))]) (wr := [(b_zX, .inl (kI, 32, .inl zX)), (b_zO, .inl (kI, 512, .inl zO))]) (ci := 10) (q9 := 0) X [.int m_vd, .int ((2 : Int32) * m_sew), .int ((LX11_widens_59 m_choices m_vl m_vtype m_vd m_vs1 m_vs2 m_f3 m_sew m_unmasked zX zO u1 u2 u3 (cnt m_vstart m_vl) (m_vstart, zV)).1)] 0 [0, 2] [1, 3] [2, 0, 3, 1] (kX11_masked l D kI kZ b_m b_zV m_thrown b_zX b_zO m_memory m_shut m_choices m_vl m_vtype m_vstart m_vxrm m_vxsat m_done m_illegal m_traps m_trapAddress m_word m_vd m_vs1 m_vs2 m_f3 m_f6 m_sew m_l8 m_unmasked ((LX11_widens_59 m_choices m_vl m_vtype m_vd m_vs1 m_vs2 m_f3 m_sew m_unmasked zX zO u1 u2 u3 (cnt m_vstart m_vl) (m_vstart, zV)).2) m_vd ((2 : Int32) * m_sew) ((LX11_widens_59 m_choices m_vl m_vtype m_vd m_vs1 m_vs2 m_f3 m_sew m_unmasked zX zO u1 u2 u3 (cnt m_vstart m_vl) (m_vstart, zV)).1) (hok.2.2.2.2.2.1 c3 c4 c17 c18)) vX11_masked q31_14 dX11_widens_86 rfl rfl rfl rfl rfl rfl rfl rfl rfl rfl rfl rfl rfl rfl rfl ?_
      refine k_goto (tgt := 192) X dX11_widens_89 (by decide) ?_
      have e50 : (pX11_widens_192_zV m_choices m_vtype m_vd m_vs1 m_vs2 m_f3 m_sew m_unmasked zX zO u1 u2 u3 ((LX11_widens_59 m_choices m_vl m_vtype m_vd m_vs1 m_vs2 m_f3 m_sew m_unmasked zX zO u1 u2 u3 (cnt m_vstart m_vl) (m_vstart, zV)).1) ((LX11_widens_59 m_choices m_vl m_vtype m_vd m_vs1 m_vs2 m_f3 m_sew m_unmasked zX zO u1 u2 u3 (cnt m_vstart m_vl) (m_vstart, zV)).2)) = (fX11_masked__zV m_choices m_vtype ((LX11_widens_59 m_choices m_vl m_vtype m_vd m_vs1 m_vs2 m_f3 m_sew m_unmasked zX zO u1 u2 u3 (cnt m_vstart m_vl) (m_vstart, zV)).2) m_vd ((2 : Int32) * m_sew) ((LX11_widens_59 m_choices m_vl m_vtype m_vd m_vs1 m_vs2 m_f3 m_sew m_unmasked zX zO u1 u2 u3 (cnt m_vstart m_vl) (m_vstart, zV)).1)) := by rw [pX11_widens_192_zV, if_pos c18]
      rw [e50] at hJ28
      exact k_sub [0, 1, 2, 3, 4, 5] rfl hJ28
    refine k_aload_n X dX11_widens_92 rfl 0 rfl rfl ?_
    refine k_aload_n X dX11_widens_93 rfl 0 rfl rfl ?_
    refine k_get X i_wsX110 0 19 q27_6 rfl rfl rfl rfl rfl dX11_widens_94 rfl ?_
    refine k_iload_n X dX11_widens_97 rfl 3 rfl rfl ?_
    refine k_mid2 [(b_m, .inr (10, [.int m_thrown, .ref b_zX, .ref b_zV, .ref b_zO, .ref m_memory, .ref m_shut, .long m_choices, .int m_vl, .int m_vtype, .int m_vstart, .int m_vxrm, .int m_vxsat, .int m_done, .int m_illegal, .int m_traps, .int m_trapAddress, .int m_word, .int m_vd, .int m_vs1, .int m_vs2, .int m_f3, .int m_f6, .int m_sew, .int m_l8, .int m_unmasked])), (b_zX, .inl (kI, 32, .inl zX)), (b_zV, .inl (kI, 512, .inl ((LX11_widens_59 m_choices m_vl m_vtype m_vd m_vs1 m_vs2 m_f3 m_sew m_unmasked zX zO u1 u2 u3 (cnt m_vstart m_vl) (m_vstart, zV)).2))), (b_zO, .inl (kI, 512, .inl zO))] [(0, .ref b_m), (1, .int u1), (2, .int u2), (3, .int u3), (4, .int ((2 : Int32) * m_sew)), (5, .int ((LX11_widens_59 m_choices m_vl m_vtype m_vd m_vs1 m_vs2 m_f3 m_sew m_unmasked zX zO u1 u2 u3 (cnt m_vstart m_vl) (m_vstart, zV)).1))] [.int (pX11_widens_110_S3 m_sew u3), .int m_vs2, .ref b_m] 110 (fun hJ20 => ?_) ?_
    · skip
      refine k_if_eq (tgt := 106) X dX11_widens_98 (by decide) rfl (fun c19 => ?_) (fun c19 => ?_)
      · skip
        refine k_aload_n X dX11_widens_106 rfl 0 rfl rfl ?_
        refine k_get X i_wsX110 0 22 q27_9 rfl rfl rfl rfl rfl dX11_widens_107 rfl ?_
        have e51 : (pX11_widens_110_S3 m_sew u3) = m_sew := by rw [pX11_widens_110_S3, if_pos c19]
        rw [e51] at hJ20
        exact k_sub [0, 1, 2, 3, 4, 5] rfl hJ20
      refine k_iload X dX11_widens_101 4 rfl rfl ?_
      refine k_goto (tgt := 110) X dX11_widens_103 (by decide) ?_
      have e52 : (pX11_widens_110_S3 m_sew u3) = ((2 : Int32) * m_sew) := by rw [pX11_widens_110_S3, if_neg c19]
      rw [e52] at hJ20
      exact k_sub [0, 1, 2, 3, 4, 5] rfl hJ20
    refine k_iload X dX11_widens_110 5 rfl rfl ?_
    refine k_cV1 (st := []) (ws' := [(b_m, .inr (10, [.int m_thrown, .ref b_zX, .ref b_zV, .ref b_zO, .ref m_memory, .ref m_shut, .long m_choices, .int m_vl, .int m_vtype, .int m_vstart, .int m_vxrm, .int m_vxsat, .int m_done, .int m_illegal, .int m_traps, .int m_trapAddress, .int m_word, .int m_vd, .int m_vs1, .int m_vs2, .int m_f3, .int m_f6, .int m_sew, .int m_l8, .int m_unmasked])), (b_zX, .inl (kI, 32, .inl zX)), (b_zV, .inl (kI, 512, .inl ((LX11_widens_59 m_choices m_vl m_vtype m_vd m_vs1 m_vs2 m_f3 m_sew m_unmasked zX zO u1 u2 u3 (cnt m_vstart m_vl) (m_vstart, zV)).2))), (b_zO, .inl (kI, 512, .inl zO))]) (wr := [(b_zX, .inl (kI, 32, .inl zX)), (b_zV, .inl (kI, 512, .inl ((LX11_widens_59 m_choices m_vl m_vtype m_vd m_vs1 m_vs2 m_f3 m_sew m_unmasked zX zO u1 u2 u3 (cnt m_vstart m_vl) (m_vstart, zV)).2)))]) (ci := 10) (q9 := 0) X [.int m_vs2, .int (pX11_widens_110_S3 m_sew u3), .int ((LX11_widens_59 m_choices m_vl m_vtype m_vd m_vs1 m_vs2 m_f3 m_sew m_unmasked zX zO u1 u2 u3 (cnt m_vstart m_vl) (m_vstart, zV)).1)] 0 [0, 3] [1, 2] [2, 0, 1, 3] (kX11_get l D kI kZ b_m b_zO m_thrown b_zX b_zV m_memory m_shut m_choices m_vl m_vtype m_vstart m_vxrm m_vxsat m_done m_illegal m_traps m_trapAddress m_word m_vd m_vs1 m_vs2 m_f3 m_f6 m_sew m_l8 m_unmasked zO m_vs2 (pX11_widens_110_S3 m_sew u3) ((LX11_widens_59 m_choices m_vl m_vtype m_vd m_vs1 m_vs2 m_f3 m_sew m_unmasked zX zO u1 u2 u3 (cnt m_vstart m_vl) (m_vstart, zV)).1) (hok.2.2.2.2.2.2.1 c3 c4 c17 c18)) vX11_get q32_21 dX11_widens_112 rfl rfl rfl rfl rfl rfl rfl rfl rfl rfl rfl rfl rfl rfl rfl ?_
    refine k_lstore (lv' := [(6, .long (fX11_get zO m_vs2 (pX11_widens_110_S3 m_sew u3) ((LX11_widens_59 m_choices m_vl m_vtype m_vd m_vs1 m_vs2 m_f3 m_sew m_unmasked zX zO u1 u2 u3 (cnt m_vstart m_vl) (m_vstart, zV)).1))), (0, .ref b_m), (1, .int u1), (2, .int u2), (3, .int u3), (4, .int ((2 : Int32) * m_sew)), (5, .int ((LX11_widens_59 m_choices m_vl m_vtype m_vd m_vs1 m_vs2 m_f3 m_sew m_unmasked zX zO u1 u2 u3 (cnt m_vstart m_vl) (m_vstart, zV)).1))]) X dX11_widens_115 rfl rfl rfl ?_
    refine k_aload_n X dX11_widens_117 rfl 1 rfl rfl ?_
    refine k_aload_n X dX11_widens_118 rfl 1 rfl rfl ?_
    refine k_get X i_wsX110 0 22 q27_9 rfl rfl rfl rfl rfl dX11_widens_119 rfl ?_
    refine k_iload X dX11_widens_122 6 rfl rfl ?_
    refine k_cV1 (st := []) (ws' := [(b_m, .inr (10, [.int m_thrown, .ref b_zX, .ref b_zV, .ref b_zO, .ref m_memory, .ref m_shut, .long m_choices, .int m_vl, .int m_vtype, .int m_vstart, .int m_vxrm, .int m_vxsat, .int m_done, .int m_illegal, .int m_traps, .int m_trapAddress, .int m_word, .int m_vd, .int m_vs1, .int m_vs2, .int m_f3, .int m_f6, .int m_sew, .int m_l8, .int m_unmasked])), (b_zX, .inl (kI, 32, .inl zX)), (b_zV, .inl (kI, 512, .inl ((LX11_widens_59 m_choices m_vl m_vtype m_vd m_vs1 m_vs2 m_f3 m_sew m_unmasked zX zO u1 u2 u3 (cnt m_vstart m_vl) (m_vstart, zV)).2))), (b_zO, .inl (kI, 512, .inl zO))]) (wr := [(b_zV, .inl (kI, 512, .inl ((LX11_widens_59 m_choices m_vl m_vtype m_vd m_vs1 m_vs2 m_f3 m_sew m_unmasked zX zO u1 u2 u3 (cnt m_vstart m_vl) (m_vstart, zV)).2)))]) (ci := 10) (q9 := 0) X [.int m_sew, .int ((LX11_widens_59 m_choices m_vl m_vtype m_vd m_vs1 m_vs2 m_f3 m_sew m_unmasked zX zO u1 u2 u3 (cnt m_vstart m_vl) (m_vstart, zV)).1)] 0 [0, 1, 3] [2] [1, 2, 0, 3] (kX11_second_ l D kI kZ b_m b_zX b_zO m_thrown b_zV m_memory m_shut m_choices m_vl m_vtype m_vstart m_vxrm m_vxsat m_done m_illegal m_traps m_trapAddress m_word m_vd m_vs1 m_vs2 m_f3 m_f6 m_sew m_l8 m_unmasked zX zO m_sew ((LX11_widens_59 m_choices m_vl m_vtype m_vd m_vs1 m_vs2 m_f3 m_sew m_unmasked zX zO u1 u2 u3 (cnt m_vstart m_vl) (m_vstart, zV)).1) (hok.2.2.2.2.2.2.2.1 c3 c4 c17 c18)) vX11_second_ q33_5 dX11_widens_124 rfl rfl rfl rfl rfl rfl rfl rfl rfl rfl rfl rfl rfl rfl rfl ?_
    refine k_lstore (lv' := [(8, .long (fX11_second_ m_vs1 m_f3 zX zO m_sew ((LX11_widens_59 m_choices m_vl m_vtype m_vd m_vs1 m_vs2 m_f3 m_sew m_unmasked zX zO u1 u2 u3 (cnt m_vstart m_vl) (m_vstart, zV)).1))), (6, .long (fX11_get zO m_vs2 (pX11_widens_110_S3 m_sew u3) ((LX11_widens_59 m_choices m_vl m_vtype m_vd m_vs1 m_vs2 m_f3 m_sew m_unmasked zX zO u1 u2 u3 (cnt m_vstart m_vl) (m_vstart, zV)).1))), (0, .ref b_m), (1, .int u1), (2, .int u2), (3, .int u3), (4, .int ((2 : Int32) * m_sew)), (5, .int ((LX11_widens_59 m_choices m_vl m_vtype m_vd m_vs1 m_vs2 m_f3 m_sew m_unmasked zX zO u1 u2 u3 (cnt m_vstart m_vl) (m_vstart, zV)).1))]) X dX11_widens_127 rfl rfl rfl ?_
    refine k_iload_n X dX11_widens_129 rfl 3 rfl rfl ?_
    refine k_mid2 [(b_m, .inr (10, [.int m_thrown, .ref b_zX, .ref b_zV, .ref b_zO, .ref m_memory, .ref m_shut, .long m_choices, .int m_vl, .int m_vtype, .int m_vstart, .int m_vxrm, .int m_vxsat, .int m_done, .int m_illegal, .int m_traps, .int m_trapAddress, .int m_word, .int m_vd, .int m_vs1, .int m_vs2, .int m_f3, .int m_f6, .int m_sew, .int m_l8, .int m_unmasked])), (b_zX, .inl (kI, 32, .inl zX)), (b_zV, .inl (kI, 512, .inl ((LX11_widens_59 m_choices m_vl m_vtype m_vd m_vs1 m_vs2 m_f3 m_sew m_unmasked zX zO u1 u2 u3 (cnt m_vstart m_vl) (m_vstart, zV)).2))), (b_zO, .inl (kI, 512, .inl zO))] [(0, .ref b_m), (1, .int u1), (2, .int u2), (3, .int u3), (4, .int ((2 : Int32) * m_sew)), (5, .int ((LX11_widens_59 m_choices m_vl m_vtype m_vd m_vs1 m_vs2 m_f3 m_sew m_unmasked zX zO u1 u2 u3 (cnt m_vstart m_vl) (m_vstart, zV)).1)), (6, .long (pX11_widens_148_L6 m_vs2 m_sew zO u1 u3 ((LX11_widens_59 m_choices m_vl m_vtype m_vd m_vs1 m_vs2 m_f3 m_sew m_unmasked zX zO u1 u2 u3 (cnt m_vstart m_vl) (m_vstart, zV)).1))), (8, .long (fX11_second_ m_vs1 m_f3 zX zO m_sew ((LX11_widens_59 m_choices m_vl m_vtype m_vd m_vs1 m_vs2 m_f3 m_sew m_unmasked zX zO u1 u2 u3 (cnt m_vstart m_vl) (m_vstart, zV)).1)))] [] 148 (fun hJ23 => ?_) ?_
    · skip
      refine k_if_eq (tgt := 148) X dX11_widens_130 (by decide) rfl (fun c21 => ?_) (fun c21 => ?_)
      · skip
        have e53 : (pX11_widens_148_L6 m_vs2 m_sew zO u1 u3 ((LX11_widens_59 m_choices m_vl m_vtype m_vd m_vs1 m_vs2 m_f3 m_sew m_unmasked zX zO u1 u2 u3 (cnt m_vstart m_vl) (m_vstart, zV)).1)) = (fX11_get zO m_vs2 (pX11_widens_110_S3 m_sew u3) ((LX11_widens_59 m_choices m_vl m_vtype m_vd m_vs1 m_vs2 m_f3 m_sew m_unmasked zX zO u1 u2 u3 (cnt m_vstart m_vl) (m_vstart, zV)).1)) := by rw [pX11_widens_148_L6, if_pos c21]
        rw [e53] at hJ23
        exact k_sub [2, 3, 4, 5, 6, 7, 1, 0] rfl hJ23
      refine k_iload_n X dX11_widens_133 rfl 5 rfl rfl ?_
      refine k_if_ne (tgt := 148) X dX11_widens_134 (by decide) rfl (fun c22 => ?_) (fun c22 => ?_)
      · skip
        refine k_lload X dX11_widens_137 1 rfl rfl ?_
        refine k_aload_n X dX11_widens_139 rfl 2 rfl rfl ?_
        refine k_get X i_wsX110 0 22 q27_9 rfl rfl rfl rfl rfl dX11_widens_140 rfl ?_
        refine k_cS1 (st := []) (ws' := [(b_m, .inr (10, [.int m_thrown, .ref b_zX, .ref b_zV, .ref b_zO, .ref m_memory, .ref m_shut, .long m_choices, .int m_vl, .int m_vtype, .int m_vstart, .int m_vxrm, .int m_vxsat, .int m_done, .int m_illegal, .int m_traps, .int m_trapAddress, .int m_word, .int m_vd, .int m_vs1, .int m_vs2, .int m_f3, .int m_f6, .int m_sew, .int m_l8, .int m_unmasked])), (b_zX, .inl (kI, 32, .inl zX)), (b_zV, .inl (kI, 512, .inl ((LX11_widens_59 m_choices m_vl m_vtype m_vd m_vs1 m_vs2 m_f3 m_sew m_unmasked zX zO u1 u2 u3 (cnt m_vstart m_vl) (m_vstart, zV)).2))), (b_zO, .inl (kI, 512, .inl zO))]) (wr := [(b_m, .inr (10, [.int m_thrown, .ref b_zX, .ref b_zV, .ref b_zO, .ref m_memory, .ref m_shut, .long m_choices, .int m_vl, .int m_vtype, .int m_vstart, .int m_vxrm, .int m_vxsat, .int m_done, .int m_illegal, .int m_traps, .int m_trapAddress, .int m_word, .int m_vd, .int m_vs1, .int m_vs2, .int m_f3, .int m_f6, .int m_sew, .int m_l8, .int m_unmasked])), (b_zX, .inl (kI, 32, .inl zX)), (b_zV, .inl (kI, 512, .inl ((LX11_widens_59 m_choices m_vl m_vtype m_vd m_vs1 m_vs2 m_f3 m_sew m_unmasked zX zO u1 u2 u3 (cnt m_vstart m_vl) (m_vstart, zV)).2))), (b_zO, .inl (kI, 512, .inl zO))]) X [.long (fX11_get zO m_vs2 (pX11_widens_110_S3 m_sew u3) ((LX11_widens_59 m_choices m_vl m_vtype m_vd m_vs1 m_vs2 m_f3 m_sew m_unmasked zX zO u1 u2 u3 (cnt m_vstart m_vl) (m_vstart, zV)).1)), .int m_sew] 0 [] [0, 1, 2, 3] [0, 1, 2, 3] (kX11_signed l D kI kZ (fX11_get zO m_vs2 (pX11_widens_110_S3 m_sew u3) ((LX11_widens_59 m_choices m_vl m_vtype m_vd m_vs1 m_vs2 m_f3 m_sew m_unmasked zX zO u1 u2 u3 (cnt m_vstart m_vl) (m_vstart, zV)).1)) m_sew) vX11_signed q33_20 dX11_widens_143 rfl rfl rfl rfl rfl rfl rfl rfl rfl rfl rfl rfl rfl ?_
        refine k_foldl (v := (eX11_widens_146 m_vs2 m_sew zO u3 ((LX11_widens_59 m_choices m_vl m_vtype m_vd m_vs1 m_vs2 m_f3 m_sew m_unmasked zX zO u1 u2 u3 (cnt m_vstart m_vl) (m_vstart, zV)).1))) rfl ?_
        refine k_lstore (lv' := [(6, .long (eX11_widens_146 m_vs2 m_sew zO u3 ((LX11_widens_59 m_choices m_vl m_vtype m_vd m_vs1 m_vs2 m_f3 m_sew m_unmasked zX zO u1 u2 u3 (cnt m_vstart m_vl) (m_vstart, zV)).1))), (8, .long (fX11_second_ m_vs1 m_f3 zX zO m_sew ((LX11_widens_59 m_choices m_vl m_vtype m_vd m_vs1 m_vs2 m_f3 m_sew m_unmasked zX zO u1 u2 u3 (cnt m_vstart m_vl) (m_vstart, zV)).1))), (0, .ref b_m), (1, .int u1), (2, .int u2), (3, .int u3), (4, .int ((2 : Int32) * m_sew)), (5, .int ((LX11_widens_59 m_choices m_vl m_vtype m_vd m_vs1 m_vs2 m_f3 m_sew m_unmasked zX zO u1 u2 u3 (cnt m_vstart m_vl) (m_vstart, zV)).1))]) X dX11_widens_146 rfl rfl rfl ?_
        have e54 : (pX11_widens_148_L6 m_vs2 m_sew zO u1 u3 ((LX11_widens_59 m_choices m_vl m_vtype m_vd m_vs1 m_vs2 m_f3 m_sew m_unmasked zX zO u1 u2 u3 (cnt m_vstart m_vl) (m_vstart, zV)).1)) = (eX11_widens_146 m_vs2 m_sew zO u3 ((LX11_widens_59 m_choices m_vl m_vtype m_vd m_vs1 m_vs2 m_f3 m_sew m_unmasked zX zO u1 u2 u3 (cnt m_vstart m_vl) (m_vstart, zV)).1)) := by rw [pX11_widens_148_L6, if_neg c21, if_pos c22]
        rw [e54] at hJ23
        exact k_sub [2, 3, 4, 5, 6, 7, 0, 1] rfl hJ23
      have e55 : (pX11_widens_148_L6 m_vs2 m_sew zO u1 u3 ((LX11_widens_59 m_choices m_vl m_vtype m_vd m_vs1 m_vs2 m_f3 m_sew m_unmasked zX zO u1 u2 u3 (cnt m_vstart m_vl) (m_vstart, zV)).1)) = (fX11_get zO m_vs2 (pX11_widens_110_S3 m_sew u3) ((LX11_widens_59 m_choices m_vl m_vtype m_vd m_vs1 m_vs2 m_f3 m_sew m_unmasked zX zO u1 u2 u3 (cnt m_vstart m_vl) (m_vstart, zV)).1)) := by rw [pX11_widens_148_L6, if_neg c21, if_neg c22]
      rw [e55] at hJ23
      exact k_sub [2, 3, 4, 5, 6, 7, 1, 0] rfl hJ23
    refine k_iload_n X dX11_widens_148 rfl 1 rfl rfl ?_
    refine k_mid2 [(b_m, .inr (10, [.int m_thrown, .ref b_zX, .ref b_zV, .ref b_zO, .ref m_memory, .ref m_shut, .long m_choices, .int m_vl, .int m_vtype, .int m_vstart, .int m_vxrm, .int m_vxsat, .int m_done, .int m_illegal, .int m_traps, .int m_trapAddress, .int m_word, .int m_vd, .int m_vs1, .int m_vs2, .int m_f3, .int m_f6, .int m_sew, .int m_l8, .int m_unmasked])), (b_zX, .inl (kI, 32, .inl zX)), (b_zV, .inl (kI, 512, .inl ((LX11_widens_59 m_choices m_vl m_vtype m_vd m_vs1 m_vs2 m_f3 m_sew m_unmasked zX zO u1 u2 u3 (cnt m_vstart m_vl) (m_vstart, zV)).2))), (b_zO, .inl (kI, 512, .inl zO))] [(0, .ref b_m), (1, .int u1), (2, .int u2), (3, .int u3), (4, .int ((2 : Int32) * m_sew)), (5, .int ((LX11_widens_59 m_choices m_vl m_vtype m_vd m_vs1 m_vs2 m_f3 m_sew m_unmasked zX zO u1 u2 u3 (cnt m_vstart m_vl) (m_vstart, zV)).1)), (6, .long (pX11_widens_148_L6 m_vs2 m_sew zO u1 u3 ((LX11_widens_59 m_choices m_vl m_vtype m_vd m_vs1 m_vs2 m_f3 m_sew m_unmasked zX zO u1 u2 u3 (cnt m_vstart m_vl) (m_vstart, zV)).1))), (8, .long (pX11_widens_163_L8 m_vs1 m_f3 m_sew zX zO u1 ((LX11_widens_59 m_choices m_vl m_vtype m_vd m_vs1 m_vs2 m_f3 m_sew m_unmasked zX zO u1 u2 u3 (cnt m_vstart m_vl) (m_vstart, zV)).1)))] [] 163 (fun hJ25 => ?_) ?_
    · skip
      refine k_if_eq (tgt := 163) X dX11_widens_149 (by decide) rfl (fun c24 => ?_) (fun c24 => ?_)
      · skip
        have e56 : (pX11_widens_163_L8 m_vs1 m_f3 m_sew zX zO u1 ((LX11_widens_59 m_choices m_vl m_vtype m_vd m_vs1 m_vs2 m_f3 m_sew m_unmasked zX zO u1 u2 u3 (cnt m_vstart m_vl) (m_vstart, zV)).1)) = (fX11_second_ m_vs1 m_f3 zX zO m_sew ((LX11_widens_59 m_choices m_vl m_vtype m_vd m_vs1 m_vs2 m_f3 m_sew m_unmasked zX zO u1 u2 u3 (cnt m_vstart m_vl) (m_vstart, zV)).1)) := by rw [pX11_widens_163_L8, if_pos c24]
        rw [e56] at hJ25
        exact k_sub [0, 1, 2, 3, 4, 5, 6, 7] rfl hJ25
      refine k_lload X dX11_widens_152 7 rfl rfl ?_
      refine k_aload_n X dX11_widens_154 rfl 0 rfl rfl ?_
      refine k_get X i_wsX110 0 22 q27_9 rfl rfl rfl rfl rfl dX11_widens_155 rfl ?_
      refine k_cS1 (st := []) (ws' := [(b_m, .inr (10, [.int m_thrown, .ref b_zX, .ref b_zV, .ref b_zO, .ref m_memory, .ref m_shut, .long m_choices, .int m_vl, .int m_vtype, .int m_vstart, .int m_vxrm, .int m_vxsat, .int m_done, .int m_illegal, .int m_traps, .int m_trapAddress, .int m_word, .int m_vd, .int m_vs1, .int m_vs2, .int m_f3, .int m_f6, .int m_sew, .int m_l8, .int m_unmasked])), (b_zX, .inl (kI, 32, .inl zX)), (b_zV, .inl (kI, 512, .inl ((LX11_widens_59 m_choices m_vl m_vtype m_vd m_vs1 m_vs2 m_f3 m_sew m_unmasked zX zO u1 u2 u3 (cnt m_vstart m_vl) (m_vstart, zV)).2))), (b_zO, .inl (kI, 512, .inl zO))]) (wr := [(b_m, .inr (10, [.int m_thrown, .ref b_zX, .ref b_zV, .ref b_zO, .ref m_memory, .ref m_shut, .long m_choices, .int m_vl, .int m_vtype, .int m_vstart, .int m_vxrm, .int m_vxsat, .int m_done, .int m_illegal, .int m_traps, .int m_trapAddress, .int m_word, .int m_vd, .int m_vs1, .int m_vs2, .int m_f3, .int m_f6, .int m_sew, .int m_l8, .int m_unmasked])), (b_zX, .inl (kI, 32, .inl zX)), (b_zV, .inl (kI, 512, .inl ((LX11_widens_59 m_choices m_vl m_vtype m_vd m_vs1 m_vs2 m_f3 m_sew m_unmasked zX zO u1 u2 u3 (cnt m_vstart m_vl) (m_vstart, zV)).2))), (b_zO, .inl (kI, 512, .inl zO))]) X [.long (fX11_second_ m_vs1 m_f3 zX zO m_sew ((LX11_widens_59 m_choices m_vl m_vtype m_vd m_vs1 m_vs2 m_f3 m_sew m_unmasked zX zO u1 u2 u3 (cnt m_vstart m_vl) (m_vstart, zV)).1)), .int m_sew] 0 [] [0, 1, 2, 3] [0, 1, 2, 3] (kX11_signed l D kI kZ (fX11_second_ m_vs1 m_f3 zX zO m_sew ((LX11_widens_59 m_choices m_vl m_vtype m_vd m_vs1 m_vs2 m_f3 m_sew m_unmasked zX zO u1 u2 u3 (cnt m_vstart m_vl) (m_vstart, zV)).1)) m_sew) vX11_signed q33_20 dX11_widens_158 rfl rfl rfl rfl rfl rfl rfl rfl rfl rfl rfl rfl rfl ?_
      refine k_lstore (lv' := [(8, .long (fX11_signed (fX11_second_ m_vs1 m_f3 zX zO m_sew ((LX11_widens_59 m_choices m_vl m_vtype m_vd m_vs1 m_vs2 m_f3 m_sew m_unmasked zX zO u1 u2 u3 (cnt m_vstart m_vl) (m_vstart, zV)).1)) m_sew)), (0, .ref b_m), (1, .int u1), (2, .int u2), (3, .int u3), (4, .int ((2 : Int32) * m_sew)), (5, .int ((LX11_widens_59 m_choices m_vl m_vtype m_vd m_vs1 m_vs2 m_f3 m_sew m_unmasked zX zO u1 u2 u3 (cnt m_vstart m_vl) (m_vstart, zV)).1)), (6, .long (pX11_widens_148_L6 m_vs2 m_sew zO u1 u3 ((LX11_widens_59 m_choices m_vl m_vtype m_vd m_vs1 m_vs2 m_f3 m_sew m_unmasked zX zO u1 u2 u3 (cnt m_vstart m_vl) (m_vstart, zV)).1)))]) X dX11_widens_161 rfl rfl rfl ?_
      have e57 : (pX11_widens_163_L8 m_vs1 m_f3 m_sew zX zO u1 ((LX11_widens_59 m_choices m_vl m_vtype m_vd m_vs1 m_vs2 m_f3 m_sew m_unmasked zX zO u1 u2 u3 (cnt m_vstart m_vl) (m_vstart, zV)).1)) = (fX11_signed (fX11_second_ m_vs1 m_f3 zX zO m_sew ((LX11_widens_59 m_choices m_vl m_vtype m_vd m_vs1 m_vs2 m_f3 m_sew m_unmasked zX zO u1 u2 u3 (cnt m_vstart m_vl) (m_vstart, zV)).1)) m_sew) := by rw [pX11_widens_163_L8, if_neg c24]
      rw [e57] at hJ25
      exact k_sub [1, 2, 3, 4, 5, 6, 7, 0] rfl hJ25
    refine k_aload_n X dX11_widens_163 rfl 0 rfl rfl ?_
    refine k_aload_n X dX11_widens_164 rfl 0 rfl rfl ?_
    refine k_get X i_wsX110 0 17 q27_3 rfl rfl rfl rfl rfl dX11_widens_165 rfl ?_
    refine k_iload X dX11_widens_168 4 rfl rfl ?_
    refine k_iload X dX11_widens_170 5 rfl rfl ?_
    refine k_iload_n X dX11_widens_172 rfl 2 rfl rfl ?_
    refine k_mid2 [(b_m, .inr (10, [.int m_thrown, .ref b_zX, .ref b_zV, .ref b_zO, .ref m_memory, .ref m_shut, .long m_choices, .int m_vl, .int m_vtype, .int m_vstart, .int m_vxrm, .int m_vxsat, .int m_done, .int m_illegal, .int m_traps, .int m_trapAddress, .int m_word, .int m_vd, .int m_vs1, .int m_vs2, .int m_f3, .int m_f6, .int m_sew, .int m_l8, .int m_unmasked])), (b_zX, .inl (kI, 32, .inl zX)), (b_zV, .inl (kI, 512, .inl ((LX11_widens_59 m_choices m_vl m_vtype m_vd m_vs1 m_vs2 m_f3 m_sew m_unmasked zX zO u1 u2 u3 (cnt m_vstart m_vl) (m_vstart, zV)).2))), (b_zO, .inl (kI, 512, .inl zO))] [(0, .ref b_m), (1, .int u1), (2, .int u2), (3, .int u3), (4, .int ((2 : Int32) * m_sew)), (5, .int ((LX11_widens_59 m_choices m_vl m_vtype m_vd m_vs1 m_vs2 m_f3 m_sew m_unmasked zX zO u1 u2 u3 (cnt m_vstart m_vl) (m_vstart, zV)).1)), (6, .long (pX11_widens_148_L6 m_vs2 m_sew zO u1 u3 ((LX11_widens_59 m_choices m_vl m_vtype m_vd m_vs1 m_vs2 m_f3 m_sew m_unmasked zX zO u1 u2 u3 (cnt m_vstart m_vl) (m_vstart, zV)).1))), (8, .long (pX11_widens_163_L8 m_vs1 m_f3 m_sew zX zO u1 ((LX11_widens_59 m_choices m_vl m_vtype m_vd m_vs1 m_vs2 m_f3 m_sew m_unmasked zX zO u1 u2 u3 (cnt m_vstart m_vl) (m_vstart, zV)).1)))] [.long (pX11_widens_189_S5 m_vs1 m_vs2 m_f3 m_sew zX zO u1 u2 u3 ((LX11_widens_59 m_choices m_vl m_vtype m_vd m_vs1 m_vs2 m_f3 m_sew m_unmasked zX zO u1 u2 u3 (cnt m_vstart m_vl) (m_vstart, zV)).1)), .int ((LX11_widens_59 m_choices m_vl m_vtype m_vd m_vs1 m_vs2 m_f3 m_sew m_unmasked zX zO u1 u2 u3 (cnt m_vstart m_vl) (m_vstart, zV)).1), .int ((2 : Int32) * m_sew), .int m_vd, .ref b_m] 189 (fun hJ27 => ?_) ?_
    · skip
      refine k_if_eq (tgt := 184) X dX11_widens_173 (by decide) rfl (fun c26 => ?_) (fun c26 => ?_)
      · skip
        refine k_lload X dX11_widens_184 6 rfl rfl ?_
        refine k_lload X dX11_widens_186 7 rfl rfl ?_
        refine k_ladd X dX11_widens_188 rfl ?_
        have e58 : (pX11_widens_189_S5 m_vs1 m_vs2 m_f3 m_sew zX zO u1 u2 u3 ((LX11_widens_59 m_choices m_vl m_vtype m_vd m_vs1 m_vs2 m_f3 m_sew m_unmasked zX zO u1 u2 u3 (cnt m_vstart m_vl) (m_vstart, zV)).1)) = ((pX11_widens_148_L6 m_vs2 m_sew zO u1 u3 ((LX11_widens_59 m_choices m_vl m_vtype m_vd m_vs1 m_vs2 m_f3 m_sew m_unmasked zX zO u1 u2 u3 (cnt m_vstart m_vl) (m_vstart, zV)).1)) + (pX11_widens_163_L8 m_vs1 m_f3 m_sew zX zO u1 ((LX11_widens_59 m_choices m_vl m_vtype m_vd m_vs1 m_vs2 m_f3 m_sew m_unmasked zX zO u1 u2 u3 (cnt m_vstart m_vl) (m_vstart, zV)).1))) := by rw [pX11_widens_189_S5, if_pos c26]
        rw [e58] at hJ27
        exact k_sub [0, 1, 2, 3, 4, 5, 6, 7] rfl hJ27
      refine k_lload X dX11_widens_176 6 rfl rfl ?_
      refine k_lload X dX11_widens_178 7 rfl rfl ?_
      refine k_lsub X dX11_widens_180 rfl ?_
      refine k_goto (tgt := 189) X dX11_widens_181 (by decide) ?_
      have e59 : (pX11_widens_189_S5 m_vs1 m_vs2 m_f3 m_sew zX zO u1 u2 u3 ((LX11_widens_59 m_choices m_vl m_vtype m_vd m_vs1 m_vs2 m_f3 m_sew m_unmasked zX zO u1 u2 u3 (cnt m_vstart m_vl) (m_vstart, zV)).1)) = ((pX11_widens_148_L6 m_vs2 m_sew zO u1 u3 ((LX11_widens_59 m_choices m_vl m_vtype m_vd m_vs1 m_vs2 m_f3 m_sew m_unmasked zX zO u1 u2 u3 (cnt m_vstart m_vl) (m_vstart, zV)).1)) - (pX11_widens_163_L8 m_vs1 m_f3 m_sew zX zO u1 ((LX11_widens_59 m_choices m_vl m_vtype m_vd m_vs1 m_vs2 m_f3 m_sew m_unmasked zX zO u1 u2 u3 (cnt m_vstart m_vl) (m_vstart, zV)).1))) := by rw [pX11_widens_189_S5, if_neg c26]
      rw [e59] at hJ27
      exact k_sub [0, 1, 2, 3, 4, 5, 6, 7] rfl hJ27
    refine k_cV0 (st := []) (ws' := [(b_m, .inr (10, [.int m_thrown, .ref b_zX, .ref b_zV, .ref b_zO, .ref m_memory, .ref m_shut, .long m_choices, .int m_vl, .int m_vtype, .int m_vstart, .int m_vxrm, .int m_vxsat, .int m_done, .int m_illegal, .int m_traps, .int m_trapAddress, .int m_word, .int m_vd, .int m_vs1, .int m_vs2, .int m_f3, .int m_f6, .int m_sew, .int m_l8, .int m_unmasked])), (b_zX, .inl (kI, 32, .inl zX)), (b_zV, .inl (kI, 512, .inl (fX11_put__zV ((LX11_widens_59 m_choices m_vl m_vtype m_vd m_vs1 m_vs2 m_f3 m_sew m_unmasked zX zO u1 u2 u3 (cnt m_vstart m_vl) (m_vstart, zV)).2) m_vd ((2 : Int32) * m_sew) ((LX11_widens_59 m_choices m_vl m_vtype m_vd m_vs1 m_vs2 m_f3 m_sew m_unmasked zX zO u1 u2 u3 (cnt m_vstart m_vl) (m_vstart, zV)).1) (pX11_widens_189_S5 m_vs1 m_vs2 m_f3 m_sew zX zO u1 u2 u3 ((LX11_widens_59 m_choices m_vl m_vtype m_vd m_vs1 m_vs2 m_f3 m_sew m_unmasked zX zO u1 u2 u3 (cnt m_vstart m_vl) (m_vstart, zV)).1))))), (b_zO, .inl (kI, 512, .inl zO))]) (wr := [(b_zX, .inl (kI, 32, .inl zX)), (b_zO, .inl (kI, 512, .inl zO))]) (ci := 10) (q9 := 0) X [.int m_vd, .int ((2 : Int32) * m_sew), .int ((LX11_widens_59 m_choices m_vl m_vtype m_vd m_vs1 m_vs2 m_f3 m_sew m_unmasked zX zO u1 u2 u3 (cnt m_vstart m_vl) (m_vstart, zV)).1), .long (pX11_widens_189_S5 m_vs1 m_vs2 m_f3 m_sew zX zO u1 u2 u3 ((LX11_widens_59 m_choices m_vl m_vtype m_vd m_vs1 m_vs2 m_f3 m_sew m_unmasked zX zO u1 u2 u3 (cnt m_vstart m_vl) (m_vstart, zV)).1))] 0 [0, 2] [1, 3] [2, 0, 3, 1] (kX11_put l D kI kZ b_m b_zV m_thrown b_zX b_zO m_memory m_shut m_choices m_vl m_vtype m_vstart m_vxrm m_vxsat m_done m_illegal m_traps m_trapAddress m_word m_vd m_vs1 m_vs2 m_f3 m_f6 m_sew m_l8 m_unmasked ((LX11_widens_59 m_choices m_vl m_vtype m_vd m_vs1 m_vs2 m_f3 m_sew m_unmasked zX zO u1 u2 u3 (cnt m_vstart m_vl) (m_vstart, zV)).2) m_vd ((2 : Int32) * m_sew) ((LX11_widens_59 m_choices m_vl m_vtype m_vd m_vs1 m_vs2 m_f3 m_sew m_unmasked zX zO u1 u2 u3 (cnt m_vstart m_vl) (m_vstart, zV)).1) (pX11_widens_189_S5 m_vs1 m_vs2 m_f3 m_sew zX zO u1 u2 u3 ((LX11_widens_59 m_choices m_vl m_vtype m_vd m_vs1 m_vs2 m_f3 m_sew m_unmasked zX zO u1 u2 u3 (cnt m_vstart m_vl) (m_vstart, zV)).1)) (hok.2.2.2.2.2.2.2.2 c3 c4 c17 c18)) vX11_put q32_13 dX11_widens_189 rfl rfl rfl rfl rfl rfl rfl rfl rfl rfl rfl rfl rfl rfl rfl ?_
    have e60 : (pX11_widens_192_zV m_choices m_vtype m_vd m_vs1 m_vs2 m_f3 m_sew m_unmasked zX zO u1 u2 u3 ((LX11_widens_59 m_choices m_vl m_vtype m_vd m_vs1 m_vs2 m_f3 m_sew m_unmasked zX zO u1 u2 u3 (cnt m_vstart m_vl) (m_vstart, zV)).1) ((LX11_widens_59 m_choices m_vl m_vtype m_vd m_vs1 m_vs2 m_f3 m_sew m_unmasked zX zO u1 u2 u3 (cnt m_vstart m_vl) (m_vstart, zV)).2)) = (fX11_put__zV ((LX11_widens_59 m_choices m_vl m_vtype m_vd m_vs1 m_vs2 m_f3 m_sew m_unmasked zX zO u1 u2 u3 (cnt m_vstart m_vl) (m_vstart, zV)).2) m_vd ((2 : Int32) * m_sew) ((LX11_widens_59 m_choices m_vl m_vtype m_vd m_vs1 m_vs2 m_f3 m_sew m_unmasked zX zO u1 u2 u3 (cnt m_vstart m_vl) (m_vstart, zV)).1) (pX11_widens_189_S5 m_vs1 m_vs2 m_f3 m_sew zX zO u1 u2 u3 ((LX11_widens_59 m_choices m_vl m_vtype m_vd m_vs1 m_vs2 m_f3 m_sew m_unmasked zX zO u1 u2 u3 (cnt m_vstart m_vl) (m_vstart, zV)).1))) := by rw [pX11_widens_192_zV, if_neg c18]
    rw [e60] at hJ28
    exact k_sub [0, 1, 2, 3, 4, 5] rfl hJ28
  refine k_iinc (lv' := [(5, .int ((LX11_widens_59 m_choices m_vl m_vtype m_vd m_vs1 m_vs2 m_f3 m_sew m_unmasked zX zO u1 u2 u3 (cnt m_vstart m_vl) (m_vstart, zV)).1 + (1 : Int32))), (0, .ref b_m), (1, .int u1), (2, .int u2), (3, .int u3), (4, .int ((2 : Int32) * m_sew))]) X dX11_widens_192 5 rfl kc_i_1 rfl rfl rfl ?_
  refine k_goto (tgt := 59) X dX11_widens_195 (by decide) ?_
  exact absurd (show tX11_widens_59 m_vl ((LX11_widens_59 m_choices m_vl m_vtype m_vd m_vs1 m_vs2 m_f3 m_sew m_unmasked zX zO u1 u2 u3 (cnt m_vstart m_vl) (m_vstart, zV)).1) ((LX11_widens_59 m_choices m_vl m_vtype m_vd m_vs1 m_vs2 m_f3 m_sew m_unmasked zX zO u1 u2 u3 (cnt m_vstart m_vl) (m_vstart, zV)).2) from by rw [tX11_widens_59, if_neg c17]; exact True.intro) (hok.2.2.1 c3 c4)
theorem vX11_widens : kVi yX11_widens cX11_widens 10 (some .boolean) 3 := ⟨q39_2, q1_5, q39_0, q39_1, by decide, by decide +kernel⟩
noncomputable def pX11_multiplies_126_L6 (m_vs2 : Int32) (m_sew : Int32) (zO : Nat → Int32) (u1 : Int32) (w_L5 : Int32) : Int64 := (if u1 = (0 : Int32) then (fX11_get zO m_vs2 m_sew w_L5) else (fX11_signed (fX11_get zO m_vs2 m_sew w_L5) m_sew))
noncomputable def pX11_multiplies_141_L8 (m_vs1 : Int32) (m_f3 : Int32) (m_sew : Int32) (zX : Nat → Int32) (zO : Nat → Int32) (u2 : Int32) (w_L5 : Int32) : Int64 := (if u2 = (0 : Int32) then (fX11_second_ m_vs1 m_f3 zX zO m_sew w_L5) else (fX11_signed (fX11_second_ m_vs1 m_f3 zX zO m_sew w_L5) m_sew))
noncomputable def pX11_multiplies_175_S6 (m_vd : Int32) (m_sew : Int32) (zO : Nat → Int32) (u3 : Int32) (w_L5 : Int32) : Int64 := (if u3 = (0 : Int32) then (0 : Int64) else (fX11_get zO m_vd ((2 : Int32) * m_sew) w_L5))
noncomputable def pX11_multiplies_179_zV (m_choices : Int64) (m_vtype : Int32) (m_vd : Int32) (m_vs1 : Int32) (m_vs2 : Int32) (m_f3 : Int32) (m_sew : Int32) (m_unmasked : Int32) (zX : Nat → Int32) (zO : Nat → Int32) (u1 : Int32) (u2 : Int32) (u3 : Int32) (w_L5 : Int32) (w_zV : Nat → Int32) : Nat → Int32 := (if (fX11_isActive m_unmasked zO w_L5) = (0 : Int32) then (fX11_masked__zV m_choices m_vtype w_zV m_vd ((2 : Int32) * m_sew) w_L5) else (fX11_put__zV w_zV m_vd ((2 : Int32) * m_sew) w_L5 (((pX11_multiplies_126_L6 m_vs2 m_sew zO u1 w_L5) * (pX11_multiplies_141_L8 m_vs1 m_f3 m_sew zX zO u2 w_L5)) + (pX11_multiplies_175_S6 m_vd m_sew zO u3 w_L5))))
noncomputable def tX11_multiplies_50 (m_vl : Int32) (w_L5 : Int32) (w_zV : Nat → Int32) : Prop := (if m_vl ≤ w_L5 then False else True)
noncomputable def bX11_multiplies_50_L5 (m_vl : Int32) (w_L5 : Int32) (w_zV : Nat → Int32) : Int32 := (if m_vl ≤ w_L5 then w_L5 else (w_L5 + (1 : Int32)))
noncomputable def bX11_multiplies_50_zV (m_choices : Int64) (m_vl : Int32) (m_vtype : Int32) (m_vd : Int32) (m_vs1 : Int32) (m_vs2 : Int32) (m_f3 : Int32) (m_sew : Int32) (m_unmasked : Int32) (zX : Nat → Int32) (zO : Nat → Int32) (u1 : Int32) (u2 : Int32) (u3 : Int32) (w_L5 : Int32) (w_zV : Nat → Int32) : Nat → Int32 := (if m_vl ≤ w_L5 then w_zV else (pX11_multiplies_179_zV m_choices m_vtype m_vd m_vs1 m_vs2 m_f3 m_sew m_unmasked zX zO u1 u2 u3 w_L5 w_zV))
noncomputable def LX11_multiplies_50 (m_choices : Int64) (m_vl : Int32) (m_vtype : Int32) (m_vd : Int32) (m_vs1 : Int32) (m_vs2 : Int32) (m_f3 : Int32) (m_sew : Int32) (m_unmasked : Int32) (zX : Nat → Int32) (zO : Nat → Int32) (u1 : Int32) (u2 : Int32) (u3 : Int32) : Nat → Int32 × (Nat → Int32) → Int32 × (Nat → Int32)
  | 0, s => s
  | n + 1, s => LX11_multiplies_50 m_choices m_vl m_vtype m_vd m_vs1 m_vs2 m_f3 m_sew m_unmasked zX zO u1 u2 u3 n ((bX11_multiplies_50_L5 m_vl s.1 s.2), (bX11_multiplies_50_zV m_choices m_vl m_vtype m_vd m_vs1 m_vs2 m_f3 m_sew m_unmasked zX zO u1 u2 u3 s.1 s.2))
noncomputable def oX11_multiplies_50 (m_choices : Int64) (m_vl : Int32) (m_vtype : Int32) (m_vd : Int32) (m_vs1 : Int32) (m_vs2 : Int32) (m_f3 : Int32) (m_sew : Int32) (m_unmasked : Int32) (zX : Nat → Int32) (zO : Nat → Int32) (u1 : Int32) (u2 : Int32) (u3 : Int32) (w_L5 : Int32) (w_zV : Nat → Int32) : Prop := (¬ (m_vl ≤ w_L5) → okX11_isActive m_unmasked w_L5) ∧ (¬ (m_vl ≤ w_L5) → ((fX11_isActive m_unmasked zO w_L5) = (0 : Int32)) → okX11_masked m_choices m_vtype w_zV m_vd ((2 : Int32) * m_sew) w_L5) ∧ (¬ (m_vl ≤ w_L5) → ¬ ((fX11_isActive m_unmasked zO w_L5) = (0 : Int32)) → okX11_get zO m_vs2 m_sew w_L5) ∧ (¬ (m_vl ≤ w_L5) → ¬ ((fX11_isActive m_unmasked zO w_L5) = (0 : Int32)) → okX11_second_ m_vs1 m_f3 zO m_sew w_L5) ∧ (¬ (m_vl ≤ w_L5) → ¬ ((fX11_isActive m_unmasked zO w_L5) = (0 : Int32)) → ¬ (u3 = (0 : Int32)) → okX11_get zO m_vd ((2 : Int32) * m_sew) w_L5) ∧ (¬ (m_vl ≤ w_L5) → ¬ ((fX11_isActive m_unmasked zO w_L5) = (0 : Int32)) → okX11_put w_zV m_vd ((2 : Int32) * m_sew) w_L5 (((pX11_multiplies_126_L6 m_vs2 m_sew zO u1 w_L5) * (pX11_multiplies_141_L8 m_vs1 m_f3 m_sew zX zO u2 w_L5)) + (pX11_multiplies_175_S6 m_vd m_sew zO u3 w_L5)))
noncomputable def KX11_multiplies_50 (m_choices : Int64) (m_vl : Int32) (m_vtype : Int32) (m_vd : Int32) (m_vs1 : Int32) (m_vs2 : Int32) (m_f3 : Int32) (m_sew : Int32) (m_unmasked : Int32) (zX : Nat → Int32) (zO : Nat → Int32) (u1 : Int32) (u2 : Int32) (u3 : Int32) : Nat → Int32 × (Nat → Int32) → Prop
  | 0, _ => True
  | n + 1, s => (tX11_multiplies_50 m_vl s.1 s.2 ∧ oX11_multiplies_50 m_choices m_vl m_vtype m_vd m_vs1 m_vs2 m_f3 m_sew m_unmasked zX zO u1 u2 u3 s.1 s.2) ∧ KX11_multiplies_50 m_choices m_vl m_vtype m_vd m_vs1 m_vs2 m_f3 m_sew m_unmasked zX zO u1 u2 u3 n ((bX11_multiplies_50_L5 m_vl s.1 s.2), (bX11_multiplies_50_zV m_choices m_vl m_vtype m_vd m_vs1 m_vs2 m_f3 m_sew m_unmasked zX zO u1 u2 u3 s.1 s.2))
theorem itX11_multiplies_50 (m_choices : Int64) (m_vl : Int32) (m_vtype : Int32) (m_vd : Int32) (m_vs1 : Int32) (m_vs2 : Int32) (m_f3 : Int32) (m_sew : Int32) (m_unmasked : Int32) (zX : Nat → Int32) (zO : Nat → Int32) (u1 : Int32) (u2 : Int32) (u3 : Int32) {b9 : Nat} (h9 : m_vl = nI b9) (hb9 : b9 < 2147483648) : ∀ (n a : Nat) (w_zV : Nat → Int32), a + n ≤ b9 → LX11_multiplies_50 m_choices m_vl m_vtype m_vd m_vs1 m_vs2 m_f3 m_sew m_unmasked zX zO u1 u2 u3 n (nI a, w_zV) = (nI (a + n), itr (fun k s => ((pX11_multiplies_179_zV m_choices m_vtype m_vd m_vs1 m_vs2 m_f3 m_sew m_unmasked zX zO u1 u2 u3 (nI k) s))) n a (w_zV))
  | 0, a, w_zV, _ => rfl
  | n + 1, a, w_zV, h => by
    have hc : ¬ (m_vl ≤ nI a) := by rw [h9]; exact nI_ge (by omega) hb9
    have e0 : bX11_multiplies_50_L5 m_vl (nI a) w_zV = nI (a + 1) := by rw [bX11_multiplies_50_L5, if_neg hc, nI_1]
    have e1 : bX11_multiplies_50_zV m_choices m_vl m_vtype m_vd m_vs1 m_vs2 m_f3 m_sew m_unmasked zX zO u1 u2 u3 (nI a) w_zV = (pX11_multiplies_179_zV m_choices m_vtype m_vd m_vs1 m_vs2 m_f3 m_sew m_unmasked zX zO u1 u2 u3 (nI a) w_zV) := by rw [bX11_multiplies_50_zV, if_neg hc]
    show LX11_multiplies_50 m_choices m_vl m_vtype m_vd m_vs1 m_vs2 m_f3 m_sew m_unmasked zX zO u1 u2 u3 n (bX11_multiplies_50_L5 m_vl (nI a) w_zV, bX11_multiplies_50_zV m_choices m_vl m_vtype m_vd m_vs1 m_vs2 m_f3 m_sew m_unmasked zX zO u1 u2 u3 (nI a) w_zV) = _
    rw [e0, e1, itX11_multiplies_50 m_choices m_vl m_vtype m_vd m_vs1 m_vs2 m_f3 m_sew m_unmasked zX zO u1 u2 u3 h9 hb9 n (a + 1) _ (by omega), show a + (n + 1) = a + 1 + n by omega]; rfl
theorem ktX11_multiplies_50 (m_choices : Int64) (m_vl : Int32) (m_vtype : Int32) (m_vd : Int32) (m_vs1 : Int32) (m_vs2 : Int32) (m_f3 : Int32) (m_sew : Int32) (m_unmasked : Int32) (zX : Nat → Int32) (zO : Nat → Int32) (u1 : Int32) (u2 : Int32) (u3 : Int32) {b9 : Nat} (h9 : m_vl = nI b9) (hb9 : b9 < 2147483648) (I : Nat → (Nat → Int32) → Prop) (hI : ∀ (a : Nat) (w_zV : Nat → Int32), I a (w_zV) → a < b9 → oX11_multiplies_50 m_choices m_vl m_vtype m_vd m_vs1 m_vs2 m_f3 m_sew m_unmasked zX zO u1 u2 u3 (nI a) w_zV ∧ I (a + 1) ((pX11_multiplies_179_zV m_choices m_vtype m_vd m_vs1 m_vs2 m_f3 m_sew m_unmasked zX zO u1 u2 u3 (nI a) w_zV))) : ∀ (n a : Nat) (w_zV : Nat → Int32), a + n ≤ b9 → I a (w_zV) → KX11_multiplies_50 m_choices m_vl m_vtype m_vd m_vs1 m_vs2 m_f3 m_sew m_unmasked zX zO u1 u2 u3 n (nI a, w_zV)
  | 0, a, w_zV, _, _ => True.intro
  | n + 1, a, w_zV, h, hi => by
    have hc : ¬ (m_vl ≤ nI a) := by rw [h9]; exact nI_ge (by omega) hb9
    have e0 : bX11_multiplies_50_L5 m_vl (nI a) w_zV = nI (a + 1) := by rw [bX11_multiplies_50_L5, if_neg hc, nI_1]
    have e1 : bX11_multiplies_50_zV m_choices m_vl m_vtype m_vd m_vs1 m_vs2 m_f3 m_sew m_unmasked zX zO u1 u2 u3 (nI a) w_zV = (pX11_multiplies_179_zV m_choices m_vtype m_vd m_vs1 m_vs2 m_f3 m_sew m_unmasked zX zO u1 u2 u3 (nI a) w_zV) := by rw [bX11_multiplies_50_zV, if_neg hc]
    obtain ⟨h1, h2⟩ := hI a w_zV hi (by omega)
    show (tX11_multiplies_50 m_vl (nI a) w_zV ∧ oX11_multiplies_50 m_choices m_vl m_vtype m_vd m_vs1 m_vs2 m_f3 m_sew m_unmasked zX zO u1 u2 u3 (nI a) w_zV) ∧ KX11_multiplies_50 m_choices m_vl m_vtype m_vd m_vs1 m_vs2 m_f3 m_sew m_unmasked zX zO u1 u2 u3 n (bX11_multiplies_50_L5 m_vl (nI a) w_zV, bX11_multiplies_50_zV m_choices m_vl m_vtype m_vd m_vs1 m_vs2 m_f3 m_sew m_unmasked zX zO u1 u2 u3 (nI a) w_zV)
    refine ⟨⟨by rw [tX11_multiplies_50, if_neg hc]; exact True.intro, h1⟩, ?_⟩
    rw [e0, e1]; exact ktX11_multiplies_50 m_choices m_vl m_vtype m_vd m_vs1 m_vs2 m_f3 m_sew m_unmasked zX zO u1 u2 u3 h9 hb9 I hI n (a + 1) _ (by omega) h2
theorem ntX11_multiplies_50 (m_choices : Int64) (m_vl : Int32) (m_vtype : Int32) (m_vd : Int32) (m_vs1 : Int32) (m_vs2 : Int32) (m_f3 : Int32) (m_sew : Int32) (m_unmasked : Int32) (zX : Nat → Int32) (zO : Nat → Int32) (u1 : Int32) (u2 : Int32) (u3 : Int32) {b9 : Nat} (h9 : m_vl = nI b9) (hb9 : b9 < 2147483648) (w_zV : Nat → Int32) : ¬ tX11_multiplies_50 m_vl (nI b9) w_zV := by rw [tX11_multiplies_50, if_pos (by rw [h9]; exact Int32.le_refl _)]; exact id
noncomputable def fX11_multiplies (m_vd : Int32) (m_vs1 : Int32) (m_vs2 : Int32) (m_f3 : Int32) (m_sew : Int32) (m_l8 : Int32) (m_unmasked : Int32) : Int32 := (if (fX11_mayBe m_vd m_sew m_l8 m_unmasked ((2 : Int32) * m_sew) m_vs2 m_sew (fX11_second m_vs1 m_f3) m_sew) = (0 : Int32) then (0 : Int32) else (1 : Int32))
noncomputable def fX11_multiplies__zV (m_choices : Int64) (m_vl : Int32) (m_vtype : Int32) (m_vstart : Int32) (m_vd : Int32) (m_vs1 : Int32) (m_vs2 : Int32) (m_f3 : Int32) (m_sew : Int32) (m_l8 : Int32) (m_unmasked : Int32) (zX : Nat → Int32) (zV : Nat → Int32) (zO : Nat → Int32) (u1 : Int32) (u2 : Int32) (u3 : Int32) : Nat → Int32 := (if (fX11_mayBe m_vd m_sew m_l8 m_unmasked ((2 : Int32) * m_sew) m_vs2 m_sew (fX11_second m_vs1 m_f3) m_sew) = (0 : Int32) then zV else (if (fX11_goes m_vl m_vstart) = (0 : Int32) then zV else (fX11_tail__zV m_choices m_vtype ((LX11_multiplies_50 m_choices m_vl m_vtype m_vd m_vs1 m_vs2 m_f3 m_sew m_unmasked zX zO u1 u2 u3 (cnt m_vstart m_vl) (m_vstart, zV)).2) m_vd ((2 : Int32) * m_sew) ((2 : Int32) * m_l8) m_vl)))
noncomputable def okX11_multiplies (m_choices : Int64) (m_vl : Int32) (m_vtype : Int32) (m_vstart : Int32) (m_vd : Int32) (m_vs1 : Int32) (m_vs2 : Int32) (m_f3 : Int32) (m_sew : Int32) (m_l8 : Int32) (m_unmasked : Int32) (zX : Nat → Int32) (zV : Nat → Int32) (zO : Nat → Int32) (u1 : Int32) (u2 : Int32) (u3 : Int32) : Prop := (okX11_mayBe m_vd m_sew m_l8 m_unmasked ((2 : Int32) * m_sew) m_vs2 m_sew (fX11_second m_vs1 m_f3) m_sew) ∧ (¬ ((fX11_mayBe m_vd m_sew m_l8 m_unmasked ((2 : Int32) * m_sew) m_vs2 m_sew (fX11_second m_vs1 m_f3) m_sew) = (0 : Int32)) → ¬ ((fX11_goes m_vl m_vstart) = (0 : Int32)) → KX11_multiplies_50 m_choices m_vl m_vtype m_vd m_vs1 m_vs2 m_f3 m_sew m_unmasked zX zO u1 u2 u3 (cnt m_vstart m_vl) (m_vstart, zV)) ∧ (¬ ((fX11_mayBe m_vd m_sew m_l8 m_unmasked ((2 : Int32) * m_sew) m_vs2 m_sew (fX11_second m_vs1 m_f3) m_sew) = (0 : Int32)) → ¬ ((fX11_goes m_vl m_vstart) = (0 : Int32)) → ¬ (tX11_multiplies_50 m_vl ((LX11_multiplies_50 m_choices m_vl m_vtype m_vd m_vs1 m_vs2 m_f3 m_sew m_unmasked zX zO u1 u2 u3 (cnt m_vstart m_vl) (m_vstart, zV)).1) ((LX11_multiplies_50 m_choices m_vl m_vtype m_vd m_vs1 m_vs2 m_f3 m_sew m_unmasked zX zO u1 u2 u3 (cnt m_vstart m_vl) (m_vstart, zV)).2))) ∧ (¬ ((fX11_mayBe m_vd m_sew m_l8 m_unmasked ((2 : Int32) * m_sew) m_vs2 m_sew (fX11_second m_vs1 m_f3) m_sew) = (0 : Int32)) → ¬ ((fX11_goes m_vl m_vstart) = (0 : Int32)) → (m_vl ≤ (LX11_multiplies_50 m_choices m_vl m_vtype m_vd m_vs1 m_vs2 m_f3 m_sew m_unmasked zX zO u1 u2 u3 (cnt m_vstart m_vl) (m_vstart, zV)).1) → okX11_tail m_choices m_vtype ((LX11_multiplies_50 m_choices m_vl m_vtype m_vd m_vs1 m_vs2 m_f3 m_sew m_unmasked zX zO u1 u2 u3 (cnt m_vstart m_vl) (m_vstart, zV)).2) m_vd ((2 : Int32) * m_sew) ((2 : Int32) * m_l8) m_vl) ∧ (¬ ((fX11_mayBe m_vd m_sew m_l8 m_unmasked ((2 : Int32) * m_sew) m_vs2 m_sew (fX11_second m_vs1 m_f3) m_sew) = (0 : Int32)) → ¬ ((fX11_goes m_vl m_vstart) = (0 : Int32)) → ¬ (m_vl ≤ (LX11_multiplies_50 m_choices m_vl m_vtype m_vd m_vs1 m_vs2 m_f3 m_sew m_unmasked zX zO u1 u2 u3 (cnt m_vstart m_vl) (m_vstart, zV)).1) → okX11_isActive m_unmasked ((LX11_multiplies_50 m_choices m_vl m_vtype m_vd m_vs1 m_vs2 m_f3 m_sew m_unmasked zX zO u1 u2 u3 (cnt m_vstart m_vl) (m_vstart, zV)).1)) ∧ (¬ ((fX11_mayBe m_vd m_sew m_l8 m_unmasked ((2 : Int32) * m_sew) m_vs2 m_sew (fX11_second m_vs1 m_f3) m_sew) = (0 : Int32)) → ¬ ((fX11_goes m_vl m_vstart) = (0 : Int32)) → ¬ (m_vl ≤ (LX11_multiplies_50 m_choices m_vl m_vtype m_vd m_vs1 m_vs2 m_f3 m_sew m_unmasked zX zO u1 u2 u3 (cnt m_vstart m_vl) (m_vstart, zV)).1) → ((fX11_isActive m_unmasked zO ((LX11_multiplies_50 m_choices m_vl m_vtype m_vd m_vs1 m_vs2 m_f3 m_sew m_unmasked zX zO u1 u2 u3 (cnt m_vstart m_vl) (m_vstart, zV)).1)) = (0 : Int32)) → okX11_masked m_choices m_vtype ((LX11_multiplies_50 m_choices m_vl m_vtype m_vd m_vs1 m_vs2 m_f3 m_sew m_unmasked zX zO u1 u2 u3 (cnt m_vstart m_vl) (m_vstart, zV)).2) m_vd ((2 : Int32) * m_sew) ((LX11_multiplies_50 m_choices m_vl m_vtype m_vd m_vs1 m_vs2 m_f3 m_sew m_unmasked zX zO u1 u2 u3 (cnt m_vstart m_vl) (m_vstart, zV)).1)) ∧ (¬ ((fX11_mayBe m_vd m_sew m_l8 m_unmasked ((2 : Int32) * m_sew) m_vs2 m_sew (fX11_second m_vs1 m_f3) m_sew) = (0 : Int32)) → ¬ ((fX11_goes m_vl m_vstart) = (0 : Int32)) → ¬ (m_vl ≤ (LX11_multiplies_50 m_choices m_vl m_vtype m_vd m_vs1 m_vs2 m_f3 m_sew m_unmasked zX zO u1 u2 u3 (cnt m_vstart m_vl) (m_vstart, zV)).1) → ¬ ((fX11_isActive m_unmasked zO ((LX11_multiplies_50 m_choices m_vl m_vtype m_vd m_vs1 m_vs2 m_f3 m_sew m_unmasked zX zO u1 u2 u3 (cnt m_vstart m_vl) (m_vstart, zV)).1)) = (0 : Int32)) → okX11_get zO m_vs2 m_sew ((LX11_multiplies_50 m_choices m_vl m_vtype m_vd m_vs1 m_vs2 m_f3 m_sew m_unmasked zX zO u1 u2 u3 (cnt m_vstart m_vl) (m_vstart, zV)).1)) ∧ (¬ ((fX11_mayBe m_vd m_sew m_l8 m_unmasked ((2 : Int32) * m_sew) m_vs2 m_sew (fX11_second m_vs1 m_f3) m_sew) = (0 : Int32)) → ¬ ((fX11_goes m_vl m_vstart) = (0 : Int32)) → ¬ (m_vl ≤ (LX11_multiplies_50 m_choices m_vl m_vtype m_vd m_vs1 m_vs2 m_f3 m_sew m_unmasked zX zO u1 u2 u3 (cnt m_vstart m_vl) (m_vstart, zV)).1) → ¬ ((fX11_isActive m_unmasked zO ((LX11_multiplies_50 m_choices m_vl m_vtype m_vd m_vs1 m_vs2 m_f3 m_sew m_unmasked zX zO u1 u2 u3 (cnt m_vstart m_vl) (m_vstart, zV)).1)) = (0 : Int32)) → okX11_second_ m_vs1 m_f3 zO m_sew ((LX11_multiplies_50 m_choices m_vl m_vtype m_vd m_vs1 m_vs2 m_f3 m_sew m_unmasked zX zO u1 u2 u3 (cnt m_vstart m_vl) (m_vstart, zV)).1)) ∧ (¬ ((fX11_mayBe m_vd m_sew m_l8 m_unmasked ((2 : Int32) * m_sew) m_vs2 m_sew (fX11_second m_vs1 m_f3) m_sew) = (0 : Int32)) → ¬ ((fX11_goes m_vl m_vstart) = (0 : Int32)) → ¬ (m_vl ≤ (LX11_multiplies_50 m_choices m_vl m_vtype m_vd m_vs1 m_vs2 m_f3 m_sew m_unmasked zX zO u1 u2 u3 (cnt m_vstart m_vl) (m_vstart, zV)).1) → ¬ ((fX11_isActive m_unmasked zO ((LX11_multiplies_50 m_choices m_vl m_vtype m_vd m_vs1 m_vs2 m_f3 m_sew m_unmasked zX zO u1 u2 u3 (cnt m_vstart m_vl) (m_vstart, zV)).1)) = (0 : Int32)) → ¬ (u3 = (0 : Int32)) → okX11_get zO m_vd ((2 : Int32) * m_sew) ((LX11_multiplies_50 m_choices m_vl m_vtype m_vd m_vs1 m_vs2 m_f3 m_sew m_unmasked zX zO u1 u2 u3 (cnt m_vstart m_vl) (m_vstart, zV)).1)) ∧ (¬ ((fX11_mayBe m_vd m_sew m_l8 m_unmasked ((2 : Int32) * m_sew) m_vs2 m_sew (fX11_second m_vs1 m_f3) m_sew) = (0 : Int32)) → ¬ ((fX11_goes m_vl m_vstart) = (0 : Int32)) → ¬ (m_vl ≤ (LX11_multiplies_50 m_choices m_vl m_vtype m_vd m_vs1 m_vs2 m_f3 m_sew m_unmasked zX zO u1 u2 u3 (cnt m_vstart m_vl) (m_vstart, zV)).1) → ¬ ((fX11_isActive m_unmasked zO ((LX11_multiplies_50 m_choices m_vl m_vtype m_vd m_vs1 m_vs2 m_f3 m_sew m_unmasked zX zO u1 u2 u3 (cnt m_vstart m_vl) (m_vstart, zV)).1)) = (0 : Int32)) → okX11_put ((LX11_multiplies_50 m_choices m_vl m_vtype m_vd m_vs1 m_vs2 m_f3 m_sew m_unmasked zX zO u1 u2 u3 (cnt m_vstart m_vl) (m_vstart, zV)).2) m_vd ((2 : Int32) * m_sew) ((LX11_multiplies_50 m_choices m_vl m_vtype m_vd m_vs1 m_vs2 m_f3 m_sew m_unmasked zX zO u1 u2 u3 (cnt m_vstart m_vl) (m_vstart, zV)).1) (((pX11_multiplies_126_L6 m_vs2 m_sew zO u1 ((LX11_multiplies_50 m_choices m_vl m_vtype m_vd m_vs1 m_vs2 m_f3 m_sew m_unmasked zX zO u1 u2 u3 (cnt m_vstart m_vl) (m_vstart, zV)).1)) * (pX11_multiplies_141_L8 m_vs1 m_f3 m_sew zX zO u2 ((LX11_multiplies_50 m_choices m_vl m_vtype m_vd m_vs1 m_vs2 m_f3 m_sew m_unmasked zX zO u1 u2 u3 (cnt m_vstart m_vl) (m_vstart, zV)).1))) + (pX11_multiplies_175_S6 m_vd m_sew zO u3 ((LX11_multiplies_50 m_choices m_vl m_vtype m_vd m_vs1 m_vs2 m_f3 m_sew m_unmasked zX zO u1 u2 u3 (cnt m_vstart m_vl) (m_vstart, zV)).1))))
theorem zX11_multiplies (m_vd : Int32) (m_vs1 : Int32) (m_vs2 : Int32) (m_f3 : Int32) (m_sew : Int32) (m_l8 : Int32) (m_unmasked : Int32) : narrow .boolean (.int (fX11_multiplies m_vd m_vs1 m_vs2 m_f3 m_sew m_l8 m_unmasked)) = .int (fX11_multiplies m_vd m_vs1 m_vs2 m_f3 m_sew m_l8 m_unmasked) := by unfold fX11_multiplies; exact (kzi rfl rfl)
set_option maxRecDepth 100000 in
set_option maxHeartbeats 4000000 in
theorem kX11_multiplies (l : Launch) (D : va_G) (kI kZ : ClassId) (b_m : Nat) (b_zX : Nat) (b_zV : Nat) (b_zO : Nat) (m_thrown : Int32) (m_memory : Nat) (m_shut : Nat) (m_choices : Int64) (m_vl : Int32) (m_vtype : Int32) (m_vstart : Int32) (m_vxrm : Int32) (m_vxsat : Int32) (m_done : Int32) (m_illegal : Int32) (m_traps : Int32) (m_trapAddress : Int32) (m_word : Int32) (m_vd : Int32) (m_vs1 : Int32) (m_vs2 : Int32) (m_f3 : Int32) (m_f6 : Int32) (m_sew : Int32) (m_l8 : Int32) (m_unmasked : Int32) (zX : Nat → Int32) (zV : Nat → Int32) (zO : Nat → Int32) (u1 : Int32) (u2 : Int32) (u3 : Int32) (hok : okX11_multiplies m_choices m_vl m_vtype m_vstart m_vd m_vs1 m_vs2 m_f3 m_sew m_l8 m_unmasked zX zV zO u1 u2 u3) : kM l yX11_multiplies cX11_multiplies 10 (some .boolean) 4 63 0 0 D [(kI, .int), (kZ, .boolean)] [.ref b_m, .int u1, .int u2, .int u3] [(b_m, .inr (10, [.int m_thrown, .ref b_zX, .ref b_zV, .ref b_zO, .ref m_memory, .ref m_shut, .long m_choices, .int m_vl, .int m_vtype, .int m_vstart, .int m_vxrm, .int m_vxsat, .int m_done, .int m_illegal, .int m_traps, .int m_trapAddress, .int m_word, .int m_vd, .int m_vs1, .int m_vs2, .int m_f3, .int m_f6, .int m_sew, .int m_l8, .int m_unmasked])), (b_zX, .inl (kI, 32, .inl zX)), (b_zV, .inl (kI, 512, .inl zV)), (b_zO, .inl (kI, 512, .inl zO))] (some (.int (fX11_multiplies m_vd m_vs1 m_vs2 m_f3 m_sew m_l8 m_unmasked))) [(b_m, .inr (10, [.int m_thrown, .ref b_zX, .ref b_zV, .ref b_zO, .ref m_memory, .ref m_shut, .long m_choices, .int m_vl, .int m_vtype, .int m_vstart, .int m_vxrm, .int m_vxsat, .int m_done, .int m_illegal, .int m_traps, .int m_trapAddress, .int m_word, .int m_vd, .int m_vs1, .int m_vs2, .int m_f3, .int m_f6, .int m_sew, .int m_l8, .int m_unmasked])), (b_zX, .inl (kI, 32, .inl zX)), (b_zV, .inl (kI, 512, .inl (fX11_multiplies__zV m_choices m_vl m_vtype m_vstart m_vd m_vs1 m_vs2 m_f3 m_sew m_l8 m_unmasked zX zV zO u1 u2 u3))), (b_zO, .inl (kI, 512, .inl zO))] := by
  refine kM.of (by decide) rfl ?_
  intro p e R s m args below meth c A X _ _ hRt hLk
  refine k_sub [0, 1, 2, 3] (lv' := [(0, .ref b_m), (1, .int u1), (2, .int u2), (3, .int u3)]) rfl ?_
  unfold okX11_multiplies at hok
  refine k_iconst X dX11_multiplies_0 kc_i_2 rfl ?_
  refine k_aload_n X dX11_multiplies_1 rfl 0 rfl rfl ?_
  refine k_get X i_wsX110 0 22 q27_9 rfl rfl rfl rfl rfl dX11_multiplies_2 rfl ?_
  refine k_imul X dX11_multiplies_5 rfl ?_
  refine k_istore (lv' := [(4, .int ((2 : Int32) * m_sew)), (0, .ref b_m), (1, .int u1), (2, .int u2), (3, .int u3)]) X dX11_multiplies_6 rfl rfl rfl ?_
  refine k_aload_n X dX11_multiplies_8 rfl 1 rfl rfl ?_
  refine k_iload X dX11_multiplies_9 0 rfl rfl ?_
  refine k_aload_n X dX11_multiplies_11 rfl 1 rfl rfl ?_
  refine k_get X i_wsX110 0 19 q27_6 rfl rfl rfl rfl rfl dX11_multiplies_12 rfl ?_
  refine k_aload_n X dX11_multiplies_15 rfl 1 rfl rfl ?_
  refine k_get X i_wsX110 0 22 q27_9 rfl rfl rfl rfl rfl dX11_multiplies_16 rfl ?_
  refine k_aload_n X dX11_multiplies_19 rfl 1 rfl rfl ?_
  refine k_cV1 (st := [.int m_sew, .int m_vs2, .int ((2 : Int32) * m_sew), .ref b_m]) (ws' := [(b_m, .inr (10, [.int m_thrown, .ref b_zX, .ref b_zV, .ref b_zO, .ref m_memory, .ref m_shut, .long m_choices, .int m_vl, .int m_vtype, .int m_vstart, .int m_vxrm, .int m_vxsat, .int m_done, .int m_illegal, .int m_traps, .int m_trapAddress, .int m_word, .int m_vd, .int m_vs1, .int m_vs2, .int m_f3, .int m_f6, .int m_sew, .int m_l8, .int m_unmasked])), (b_zX, .inl (kI, 32, .inl zX)), (b_zV, .inl (kI, 512, .inl zV)), (b_zO, .inl (kI, 512, .inl zO))]) (wr := [(b_zX, .inl (kI, 32, .inl zX)), (b_zV, .inl (kI, 512, .inl zV)), (b_zO, .inl (kI, 512, .inl zO))]) (ci := 10) (q9 := 0) X [] 4 [0] [1, 2, 3] [3, 0, 1, 2] (kX11_second l D kI kZ b_m m_thrown b_zX b_zV b_zO m_memory m_shut m_choices m_vl m_vtype m_vstart m_vxrm m_vxsat m_done m_illegal m_traps m_trapAddress m_word m_vd m_vs1 m_vs2 m_f3 m_f6 m_sew m_l8 m_unmasked) vX11_second q29_17 dX11_multiplies_20 rfl rfl rfl rfl rfl rfl rfl rfl rfl rfl rfl rfl rfl rfl rfl ?_
  refine k_aload_n X dX11_multiplies_23 rfl 1 rfl rfl ?_
  refine k_get X i_wsX110 0 22 q27_9 rfl rfl rfl rfl rfl dX11_multiplies_24 rfl ?_
  refine k_cV1 (st := []) (ws' := [(b_m, .inr (10, [.int m_thrown, .ref b_zX, .ref b_zV, .ref b_zO, .ref m_memory, .ref m_shut, .long m_choices, .int m_vl, .int m_vtype, .int m_vstart, .int m_vxrm, .int m_vxsat, .int m_done, .int m_illegal, .int m_traps, .int m_trapAddress, .int m_word, .int m_vd, .int m_vs1, .int m_vs2, .int m_f3, .int m_f6, .int m_sew, .int m_l8, .int m_unmasked])), (b_zX, .inl (kI, 32, .inl zX)), (b_zV, .inl (kI, 512, .inl zV)), (b_zO, .inl (kI, 512, .inl zO))]) (wr := [(b_zX, .inl (kI, 32, .inl zX)), (b_zV, .inl (kI, 512, .inl zV)), (b_zO, .inl (kI, 512, .inl zO))]) (ci := 10) (q9 := 0) X [.int ((2 : Int32) * m_sew), .int m_vs2, .int m_sew, .int (fX11_second m_vs1 m_f3), .int m_sew] 0 [0] [1, 2, 3] [3, 0, 1, 2] (kX11_mayBe l D kI kZ b_m m_thrown b_zX b_zV b_zO m_memory m_shut m_choices m_vl m_vtype m_vstart m_vxrm m_vxsat m_done m_illegal m_traps m_trapAddress m_word m_vd m_vs1 m_vs2 m_f3 m_f6 m_sew m_l8 m_unmasked ((2 : Int32) * m_sew) m_vs2 m_sew (fX11_second m_vs1 m_f3) m_sew (hok.1)) vX11_mayBe q29_21 dX11_multiplies_27 rfl rfl rfl rfl rfl rfl rfl rfl rfl rfl rfl rfl rfl rfl rfl ?_
  refine k_if_ne (tgt := 35) X dX11_multiplies_30 (by decide) rfl (fun c1 => ?_) (fun c1 => ?_)
  · skip
    refine k_iconst X dX11_multiplies_33 kc_i_0 rfl ?_
    have e21 : (fX11_multiplies m_vd m_vs1 m_vs2 m_f3 m_sew m_l8 m_unmasked) = (0 : Int32) := by rw [fX11_multiplies, if_pos c1]
    have e22 : (fX11_multiplies__zV m_choices m_vl m_vtype m_vstart m_vd m_vs1 m_vs2 m_f3 m_sew m_l8 m_unmasked zX zV zO u1 u2 u3) = zV := by rw [fX11_multiplies__zV, if_pos c1]
    exact k_zret9 X hRt hLk rfl e21.symm (by rw [e22]) dX11_multiplies_34
  refine k_aload_n X dX11_multiplies_35 rfl 1 rfl rfl ?_
  refine k_cV1 (st := []) (ws' := [(b_m, .inr (10, [.int m_thrown, .ref b_zX, .ref b_zV, .ref b_zO, .ref m_memory, .ref m_shut, .long m_choices, .int m_vl, .int m_vtype, .int m_vstart, .int m_vxrm, .int m_vxsat, .int m_done, .int m_illegal, .int m_traps, .int m_trapAddress, .int m_word, .int m_vd, .int m_vs1, .int m_vs2, .int m_f3, .int m_f6, .int m_sew, .int m_l8, .int m_unmasked])), (b_zX, .inl (kI, 32, .inl zX)), (b_zV, .inl (kI, 512, .inl zV)), (b_zO, .inl (kI, 512, .inl zO))]) (wr := [(b_zX, .inl (kI, 32, .inl zX)), (b_zV, .inl (kI, 512, .inl zV)), (b_zO, .inl (kI, 512, .inl zO))]) (ci := 10) (q9 := 0) X [] 0 [0] [1, 2, 3] [3, 0, 1, 2] (kX11_goes l D kI kZ b_m m_thrown b_zX b_zV b_zO m_memory m_shut m_choices m_vl m_vtype m_vstart m_vxrm m_vxsat m_done m_illegal m_traps m_trapAddress m_word m_vd m_vs1 m_vs2 m_f3 m_f6 m_sew m_l8 m_unmasked) vX11_goes q31_2 dX11_multiplies_36 rfl rfl rfl rfl rfl rfl rfl rfl rfl rfl rfl rfl rfl rfl rfl ?_
  refine k_if_ne (tgt := 44) X dX11_multiplies_39 (by decide) rfl (fun c2 => ?_) (fun c2 => ?_)
  · skip
    refine k_iconst X dX11_multiplies_42 kc_i_1 rfl ?_
    have e23 : (fX11_multiplies m_vd m_vs1 m_vs2 m_f3 m_sew m_l8 m_unmasked) = (1 : Int32) := by rw [fX11_multiplies, if_neg c1]
    have e24 : (fX11_multiplies__zV m_choices m_vl m_vtype m_vstart m_vd m_vs1 m_vs2 m_f3 m_sew m_l8 m_unmasked zX zV zO u1 u2 u3) = zV := by rw [fX11_multiplies__zV, if_neg c1, if_pos c2]
    exact k_zret9 X hRt hLk rfl e23.symm (by rw [e24]) dX11_multiplies_43
  refine k_aload_n X dX11_multiplies_44 rfl 1 rfl rfl ?_
  refine k_get X i_wsX110 0 9 q27_14 rfl rfl rfl rfl rfl dX11_multiplies_45 rfl ?_
  refine k_istore (lv' := [(5, .int m_vstart), (4, .int ((2 : Int32) * m_sew)), (0, .ref b_m), (1, .int u1), (2, .int u2), (3, .int u3)]) X dX11_multiplies_48 rfl rfl rfl ?_
  refine k_sub [2, 3, 4, 5, 1, 0] (lv' := [(0, .ref b_m), (1, .int u1), (2, .int u2), (3, .int u3), (4, .int ((2 : Int32) * m_sew)), (5, .int m_vstart)]) rfl ?_
  refine k_loop (KX11_multiplies_50 m_choices m_vl m_vtype m_vd m_vs1 m_vs2 m_f3 m_sew m_unmasked zX zO u1 u2 u3) (LX11_multiplies_50 m_choices m_vl m_vtype m_vd m_vs1 m_vs2 m_f3 m_sew m_unmasked zX zO u1 u2 u3) (fun s9 => (bX11_multiplies_50_L5 m_vl s9.1 s9.2, bX11_multiplies_50_zV m_choices m_vl m_vtype m_vd m_vs1 m_vs2 m_f3 m_sew m_unmasked zX zO u1 u2 u3 s9.1 s9.2)) (fun s9 => tX11_multiplies_50 m_vl s9.1 s9.2 ∧ oX11_multiplies_50 m_choices m_vl m_vtype m_vd m_vs1 m_vs2 m_f3 m_sew m_unmasked zX zO u1 u2 u3 s9.1 s9.2) (fun s9 => [(b_m, .inr (10, [.int m_thrown, .ref b_zX, .ref b_zV, .ref b_zO, .ref m_memory, .ref m_shut, .long m_choices, .int m_vl, .int m_vtype, .int m_vstart, .int m_vxrm, .int m_vxsat, .int m_done, .int m_illegal, .int m_traps, .int m_trapAddress, .int m_word, .int m_vd, .int m_vs1, .int m_vs2, .int m_f3, .int m_f6, .int m_sew, .int m_l8, .int m_unmasked])), (b_zX, .inl (kI, 32, .inl zX)), (b_zV, .inl (kI, 512, .inl s9.2)), (b_zO, .inl (kI, 512, .inl zO))]) (fun s9 => [(0, .ref b_m), (1, .int u1), (2, .int u2), (3, .int u3), (4, .int ((2 : Int32) * m_sew)), (5, .int s9.1)]) 50 (fun _ => rfl) (fun _ _ => rfl) (fun _ _ h => h) ?_ (cnt m_vstart m_vl) (m_vstart, zV) (hok.2.1 c1 c2) ?_
  · rintro ⟨w_L5, w_zV⟩ ⟨hlat, hob⟩ g0
    try dsimp only at hlat hob g0 ⊢
    unfold oX11_multiplies_50 at hob
    refine k_iload X dX11_multiplies_50 5 rfl rfl ?_
    refine k_aload_n X dX11_multiplies_52 rfl 0 rfl rfl ?_
    refine k_get X i_wsX110 0 7 q28_7 rfl rfl rfl rfl rfl dX11_multiplies_53 rfl ?_
    refine k_icmp_ge (tgt := 185) X dX11_multiplies_56 (by decide) rfl (fun c3 => ?_) (fun c3 => ?_)
    · skip
      exact absurd hlat (by rw [tX11_multiplies_50, if_pos c3]; exact id)
    refine k_aload_n X dX11_multiplies_59 rfl 0 rfl rfl ?_
    refine k_iload X dX11_multiplies_60 5 rfl rfl ?_
    refine k_cV1 (st := []) (ws' := [(b_m, .inr (10, [.int m_thrown, .ref b_zX, .ref b_zV, .ref b_zO, .ref m_memory, .ref m_shut, .long m_choices, .int m_vl, .int m_vtype, .int m_vstart, .int m_vxrm, .int m_vxsat, .int m_done, .int m_illegal, .int m_traps, .int m_trapAddress, .int m_word, .int m_vd, .int m_vs1, .int m_vs2, .int m_f3, .int m_f6, .int m_sew, .int m_l8, .int m_unmasked])), (b_zX, .inl (kI, 32, .inl zX)), (b_zV, .inl (kI, 512, .inl w_zV)), (b_zO, .inl (kI, 512, .inl zO))]) (wr := [(b_zX, .inl (kI, 32, .inl zX)), (b_zV, .inl (kI, 512, .inl w_zV))]) (ci := 10) (q9 := 0) X [.int w_L5] 0 [0, 3] [1, 2] [2, 0, 1, 3] (kX11_isActive l D kI kZ b_m b_zO m_thrown b_zX b_zV m_memory m_shut m_choices m_vl m_vtype m_vstart m_vxrm m_vxsat m_done m_illegal m_traps m_trapAddress m_word m_vd m_vs1 m_vs2 m_f3 m_f6 m_sew m_l8 m_unmasked zO w_L5 (hob.1 c3)) vX11_isActive q31_6 dX11_multiplies_62 rfl rfl rfl rfl rfl rfl rfl rfl rfl rfl rfl rfl rfl rfl rfl ?_
    refine k_mid2 [(b_m, .inr (10, [.int m_thrown, .ref b_zX, .ref b_zV, .ref b_zO, .ref m_memory, .ref m_shut, .long m_choices, .int m_vl, .int m_vtype, .int m_vstart, .int m_vxrm, .int m_vxsat, .int m_done, .int m_illegal, .int m_traps, .int m_trapAddress, .int m_word, .int m_vd, .int m_vs1, .int m_vs2, .int m_f3, .int m_f6, .int m_sew, .int m_l8, .int m_unmasked])), (b_zX, .inl (kI, 32, .inl zX)), (b_zV, .inl (kI, 512, .inl (pX11_multiplies_179_zV m_choices m_vtype m_vd m_vs1 m_vs2 m_f3 m_sew m_unmasked zX zO u1 u2 u3 w_L5 w_zV))), (b_zO, .inl (kI, 512, .inl zO))] [(0, .ref b_m), (1, .int u1), (2, .int u2), (3, .int u3), (4, .int ((2 : Int32) * m_sew)), (5, .int w_L5)] [] 179 (fun hJ11 => ?_) ?_
    · skip
      refine k_if_ne (tgt := 83) X dX11_multiplies_65 (by decide) rfl (fun c4 => ?_) (fun c4 => ?_)
      · skip
        refine k_aload_n X dX11_multiplies_68 rfl 0 rfl rfl ?_
        refine k_aload_n X dX11_multiplies_69 rfl 0 rfl rfl ?_
        refine k_get X i_wsX110 0 17 q27_3 rfl rfl rfl rfl rfl dX11_multiplies_70 rfl ?_
        refine k_iload X dX11_multiplies_73 4 rfl rfl ?_
        refine k_iload X dX11_multiplies_75 5 rfl rfl ?_
        refine k_cV0 (st := []) (ws' := [(b_m, .inr (10, [.int m_thrown, .ref b_zX, .ref b_zV, .ref b_zO, .ref m_memory, .ref m_shut, .long m_choices, .int m_vl, .int m_vtype, .int m_vstart, .int m_vxrm, .int m_vxsat, .int m_done, .int m_illegal, .int m_traps, .int m_trapAddress, .int m_word, .int m_vd, .int m_vs1, .int m_vs2, .int m_f3, .int m_f6, .int m_sew, .int m_l8, .int m_unmasked])), (b_zX, .inl (kI, 32, .inl zX)), (b_zV, .inl (kI, 512, .inl (fX11_masked__zV m_choices m_vtype w_zV m_vd ((2 : Int32) * m_sew) w_L5))), (b_zO, .inl (kI, 512, .inl zO))]) (wr := [(b_zX, .inl (kI, 32, .inl zX)), (b_zO, .inl (kI, 512, .inl zO))]) (ci := 10) (q9 := 0) X [.int m_vd, .int ((2 : Int32) * m_sew), .int w_L5] 0 [0, 2] [1, 3] [2, 0, 3, 1] (kX11_masked l D kI kZ b_m b_zV m_thrown b_zX b_zO m_memory m_shut m_choices m_vl m_vtype m_vstart m_vxrm m_vxsat m_done m_illegal m_traps m_trapAddress m_word m_vd m_vs1 m_vs2 m_f3 m_f6 m_sew m_l8 m_unmasked w_zV m_vd ((2 : Int32) * m_sew) w_L5 (hob.2.1 c3 c4)) vX11_masked q31_14 dX11_multiplies_77 rfl rfl rfl rfl rfl rfl rfl rfl rfl rfl rfl rfl rfl rfl rfl ?_
        refine k_goto (tgt := 179) X dX11_multiplies_80 (by decide) ?_
        have e25 : (pX11_multiplies_179_zV m_choices m_vtype m_vd m_vs1 m_vs2 m_f3 m_sew m_unmasked zX zO u1 u2 u3 w_L5 w_zV) = (fX11_masked__zV m_choices m_vtype w_zV m_vd ((2 : Int32) * m_sew) w_L5) := by rw [pX11_multiplies_179_zV, if_pos c4]
        rw [e25] at hJ11
        exact k_sub [0, 1, 2, 3, 4, 5] rfl hJ11
      refine k_aload_n X dX11_multiplies_83 rfl 0 rfl rfl ?_
      refine k_aload_n X dX11_multiplies_84 rfl 0 rfl rfl ?_
      refine k_get X i_wsX110 0 19 q27_6 rfl rfl rfl rfl rfl dX11_multiplies_85 rfl ?_
      refine k_aload_n X dX11_multiplies_88 rfl 0 rfl rfl ?_
      refine k_get X i_wsX110 0 22 q27_9 rfl rfl rfl rfl rfl dX11_multiplies_89 rfl ?_
      refine k_iload X dX11_multiplies_92 5 rfl rfl ?_
      refine k_cV1 (st := []) (ws' := [(b_m, .inr (10, [.int m_thrown, .ref b_zX, .ref b_zV, .ref b_zO, .ref m_memory, .ref m_shut, .long m_choices, .int m_vl, .int m_vtype, .int m_vstart, .int m_vxrm, .int m_vxsat, .int m_done, .int m_illegal, .int m_traps, .int m_trapAddress, .int m_word, .int m_vd, .int m_vs1, .int m_vs2, .int m_f3, .int m_f6, .int m_sew, .int m_l8, .int m_unmasked])), (b_zX, .inl (kI, 32, .inl zX)), (b_zV, .inl (kI, 512, .inl w_zV)), (b_zO, .inl (kI, 512, .inl zO))]) (wr := [(b_zX, .inl (kI, 32, .inl zX)), (b_zV, .inl (kI, 512, .inl w_zV))]) (ci := 10) (q9 := 0) X [.int m_vs2, .int m_sew, .int w_L5] 0 [0, 3] [1, 2] [2, 0, 1, 3] (kX11_get l D kI kZ b_m b_zO m_thrown b_zX b_zV m_memory m_shut m_choices m_vl m_vtype m_vstart m_vxrm m_vxsat m_done m_illegal m_traps m_trapAddress m_word m_vd m_vs1 m_vs2 m_f3 m_f6 m_sew m_l8 m_unmasked zO m_vs2 m_sew w_L5 (hob.2.2.1 c3 c4)) vX11_get q32_21 dX11_multiplies_94 rfl rfl rfl rfl rfl rfl rfl rfl rfl rfl rfl rfl rfl rfl rfl ?_
      refine k_lstore (lv' := [(6, .long (fX11_get zO m_vs2 m_sew w_L5)), (0, .ref b_m), (1, .int u1), (2, .int u2), (3, .int u3), (4, .int ((2 : Int32) * m_sew)), (5, .int w_L5)]) X dX11_multiplies_97 rfl rfl rfl ?_
      refine k_aload_n X dX11_multiplies_99 rfl 1 rfl rfl ?_
      refine k_aload_n X dX11_multiplies_100 rfl 1 rfl rfl ?_
      refine k_get X i_wsX110 0 22 q27_9 rfl rfl rfl rfl rfl dX11_multiplies_101 rfl ?_
      refine k_iload X dX11_multiplies_104 6 rfl rfl ?_
      refine k_cV1 (st := []) (ws' := [(b_m, .inr (10, [.int m_thrown, .ref b_zX, .ref b_zV, .ref b_zO, .ref m_memory, .ref m_shut, .long m_choices, .int m_vl, .int m_vtype, .int m_vstart, .int m_vxrm, .int m_vxsat, .int m_done, .int m_illegal, .int m_traps, .int m_trapAddress, .int m_word, .int m_vd, .int m_vs1, .int m_vs2, .int m_f3, .int m_f6, .int m_sew, .int m_l8, .int m_unmasked])), (b_zX, .inl (kI, 32, .inl zX)), (b_zV, .inl (kI, 512, .inl w_zV)), (b_zO, .inl (kI, 512, .inl zO))]) (wr := [(b_zV, .inl (kI, 512, .inl w_zV))]) (ci := 10) (q9 := 0) X [.int m_sew, .int w_L5] 0 [0, 1, 3] [2] [1, 2, 0, 3] (kX11_second_ l D kI kZ b_m b_zX b_zO m_thrown b_zV m_memory m_shut m_choices m_vl m_vtype m_vstart m_vxrm m_vxsat m_done m_illegal m_traps m_trapAddress m_word m_vd m_vs1 m_vs2 m_f3 m_f6 m_sew m_l8 m_unmasked zX zO m_sew w_L5 (hob.2.2.2.1 c3 c4)) vX11_second_ q33_5 dX11_multiplies_106 rfl rfl rfl rfl rfl rfl rfl rfl rfl rfl rfl rfl rfl rfl rfl ?_
      refine k_lstore (lv' := [(8, .long (fX11_second_ m_vs1 m_f3 zX zO m_sew w_L5)), (6, .long (fX11_get zO m_vs2 m_sew w_L5)), (0, .ref b_m), (1, .int u1), (2, .int u2), (3, .int u3), (4, .int ((2 : Int32) * m_sew)), (5, .int w_L5)]) X dX11_multiplies_109 rfl rfl rfl ?_
      refine k_iload_n X dX11_multiplies_111 rfl 3 rfl rfl ?_
      refine k_mid2 [(b_m, .inr (10, [.int m_thrown, .ref b_zX, .ref b_zV, .ref b_zO, .ref m_memory, .ref m_shut, .long m_choices, .int m_vl, .int m_vtype, .int m_vstart, .int m_vxrm, .int m_vxsat, .int m_done, .int m_illegal, .int m_traps, .int m_trapAddress, .int m_word, .int m_vd, .int m_vs1, .int m_vs2, .int m_f3, .int m_f6, .int m_sew, .int m_l8, .int m_unmasked])), (b_zX, .inl (kI, 32, .inl zX)), (b_zV, .inl (kI, 512, .inl w_zV)), (b_zO, .inl (kI, 512, .inl zO))] [(0, .ref b_m), (1, .int u1), (2, .int u2), (3, .int u3), (4, .int ((2 : Int32) * m_sew)), (5, .int w_L5), (6, .long (pX11_multiplies_126_L6 m_vs2 m_sew zO u1 w_L5)), (8, .long (fX11_second_ m_vs1 m_f3 zX zO m_sew w_L5))] [] 126 (fun hJ6 => ?_) ?_
      · skip
        refine k_if_eq (tgt := 126) X dX11_multiplies_112 (by decide) rfl (fun c5 => ?_) (fun c5 => ?_)
        · skip
          have e26 : (pX11_multiplies_126_L6 m_vs2 m_sew zO u1 w_L5) = (fX11_get zO m_vs2 m_sew w_L5) := by rw [pX11_multiplies_126_L6, if_pos c5]
          rw [e26] at hJ6
          exact k_sub [2, 3, 4, 5, 6, 7, 1, 0] rfl hJ6
        refine k_lload X dX11_multiplies_115 1 rfl rfl ?_
        refine k_aload_n X dX11_multiplies_117 rfl 2 rfl rfl ?_
        refine k_get X i_wsX110 0 22 q27_9 rfl rfl rfl rfl rfl dX11_multiplies_118 rfl ?_
        refine k_cS1 (st := []) (ws' := [(b_m, .inr (10, [.int m_thrown, .ref b_zX, .ref b_zV, .ref b_zO, .ref m_memory, .ref m_shut, .long m_choices, .int m_vl, .int m_vtype, .int m_vstart, .int m_vxrm, .int m_vxsat, .int m_done, .int m_illegal, .int m_traps, .int m_trapAddress, .int m_word, .int m_vd, .int m_vs1, .int m_vs2, .int m_f3, .int m_f6, .int m_sew, .int m_l8, .int m_unmasked])), (b_zX, .inl (kI, 32, .inl zX)), (b_zV, .inl (kI, 512, .inl w_zV)), (b_zO, .inl (kI, 512, .inl zO))]) (wr := [(b_m, .inr (10, [.int m_thrown, .ref b_zX, .ref b_zV, .ref b_zO, .ref m_memory, .ref m_shut, .long m_choices, .int m_vl, .int m_vtype, .int m_vstart, .int m_vxrm, .int m_vxsat, .int m_done, .int m_illegal, .int m_traps, .int m_trapAddress, .int m_word, .int m_vd, .int m_vs1, .int m_vs2, .int m_f3, .int m_f6, .int m_sew, .int m_l8, .int m_unmasked])), (b_zX, .inl (kI, 32, .inl zX)), (b_zV, .inl (kI, 512, .inl w_zV)), (b_zO, .inl (kI, 512, .inl zO))]) X [.long (fX11_get zO m_vs2 m_sew w_L5), .int m_sew] 0 [] [0, 1, 2, 3] [0, 1, 2, 3] (kX11_signed l D kI kZ (fX11_get zO m_vs2 m_sew w_L5) m_sew) vX11_signed q33_20 dX11_multiplies_121 rfl rfl rfl rfl rfl rfl rfl rfl rfl rfl rfl rfl rfl ?_
        refine k_lstore (lv' := [(6, .long (fX11_signed (fX11_get zO m_vs2 m_sew w_L5) m_sew)), (8, .long (fX11_second_ m_vs1 m_f3 zX zO m_sew w_L5)), (0, .ref b_m), (1, .int u1), (2, .int u2), (3, .int u3), (4, .int ((2 : Int32) * m_sew)), (5, .int w_L5)]) X dX11_multiplies_124 rfl rfl rfl ?_
        have e27 : (pX11_multiplies_126_L6 m_vs2 m_sew zO u1 w_L5) = (fX11_signed (fX11_get zO m_vs2 m_sew w_L5) m_sew) := by rw [pX11_multiplies_126_L6, if_neg c5]
        rw [e27] at hJ6
        exact k_sub [2, 3, 4, 5, 6, 7, 0, 1] rfl hJ6
      refine k_iload_n X dX11_multiplies_126 rfl 2 rfl rfl ?_
      refine k_mid2 [(b_m, .inr (10, [.int m_thrown, .ref b_zX, .ref b_zV, .ref b_zO, .ref m_memory, .ref m_shut, .long m_choices, .int m_vl, .int m_vtype, .int m_vstart, .int m_vxrm, .int m_vxsat, .int m_done, .int m_illegal, .int m_traps, .int m_trapAddress, .int m_word, .int m_vd, .int m_vs1, .int m_vs2, .int m_f3, .int m_f6, .int m_sew, .int m_l8, .int m_unmasked])), (b_zX, .inl (kI, 32, .inl zX)), (b_zV, .inl (kI, 512, .inl w_zV)), (b_zO, .inl (kI, 512, .inl zO))] [(0, .ref b_m), (1, .int u1), (2, .int u2), (3, .int u3), (4, .int ((2 : Int32) * m_sew)), (5, .int w_L5), (6, .long (pX11_multiplies_126_L6 m_vs2 m_sew zO u1 w_L5)), (8, .long (pX11_multiplies_141_L8 m_vs1 m_f3 m_sew zX zO u2 w_L5))] [] 141 (fun hJ8 => ?_) ?_
      · skip
        refine k_if_eq (tgt := 141) X dX11_multiplies_127 (by decide) rfl (fun c7 => ?_) (fun c7 => ?_)
        · skip
          have e28 : (pX11_multiplies_141_L8 m_vs1 m_f3 m_sew zX zO u2 w_L5) = (fX11_second_ m_vs1 m_f3 zX zO m_sew w_L5) := by rw [pX11_multiplies_141_L8, if_pos c7]
          rw [e28] at hJ8
          exact k_sub [0, 1, 2, 3, 4, 5, 6, 7] rfl hJ8
        refine k_lload X dX11_multiplies_130 7 rfl rfl ?_
        refine k_aload_n X dX11_multiplies_132 rfl 0 rfl rfl ?_
        refine k_get X i_wsX110 0 22 q27_9 rfl rfl rfl rfl rfl dX11_multiplies_133 rfl ?_
        refine k_cS1 (st := []) (ws' := [(b_m, .inr (10, [.int m_thrown, .ref b_zX, .ref b_zV, .ref b_zO, .ref m_memory, .ref m_shut, .long m_choices, .int m_vl, .int m_vtype, .int m_vstart, .int m_vxrm, .int m_vxsat, .int m_done, .int m_illegal, .int m_traps, .int m_trapAddress, .int m_word, .int m_vd, .int m_vs1, .int m_vs2, .int m_f3, .int m_f6, .int m_sew, .int m_l8, .int m_unmasked])), (b_zX, .inl (kI, 32, .inl zX)), (b_zV, .inl (kI, 512, .inl w_zV)), (b_zO, .inl (kI, 512, .inl zO))]) (wr := [(b_m, .inr (10, [.int m_thrown, .ref b_zX, .ref b_zV, .ref b_zO, .ref m_memory, .ref m_shut, .long m_choices, .int m_vl, .int m_vtype, .int m_vstart, .int m_vxrm, .int m_vxsat, .int m_done, .int m_illegal, .int m_traps, .int m_trapAddress, .int m_word, .int m_vd, .int m_vs1, .int m_vs2, .int m_f3, .int m_f6, .int m_sew, .int m_l8, .int m_unmasked])), (b_zX, .inl (kI, 32, .inl zX)), (b_zV, .inl (kI, 512, .inl w_zV)), (b_zO, .inl (kI, 512, .inl zO))]) X [.long (fX11_second_ m_vs1 m_f3 zX zO m_sew w_L5), .int m_sew] 0 [] [0, 1, 2, 3] [0, 1, 2, 3] (kX11_signed l D kI kZ (fX11_second_ m_vs1 m_f3 zX zO m_sew w_L5) m_sew) vX11_signed q33_20 dX11_multiplies_136 rfl rfl rfl rfl rfl rfl rfl rfl rfl rfl rfl rfl rfl ?_
        refine k_lstore (lv' := [(8, .long (fX11_signed (fX11_second_ m_vs1 m_f3 zX zO m_sew w_L5) m_sew)), (0, .ref b_m), (1, .int u1), (2, .int u2), (3, .int u3), (4, .int ((2 : Int32) * m_sew)), (5, .int w_L5), (6, .long (pX11_multiplies_126_L6 m_vs2 m_sew zO u1 w_L5))]) X dX11_multiplies_139 rfl rfl rfl ?_
        have e29 : (pX11_multiplies_141_L8 m_vs1 m_f3 m_sew zX zO u2 w_L5) = (fX11_signed (fX11_second_ m_vs1 m_f3 zX zO m_sew w_L5) m_sew) := by rw [pX11_multiplies_141_L8, if_neg c7]
        rw [e29] at hJ8
        exact k_sub [1, 2, 3, 4, 5, 6, 7, 0] rfl hJ8
      refine k_aload_n X dX11_multiplies_141 rfl 0 rfl rfl ?_
      refine k_aload_n X dX11_multiplies_142 rfl 0 rfl rfl ?_
      refine k_get X i_wsX110 0 17 q27_3 rfl rfl rfl rfl rfl dX11_multiplies_143 rfl ?_
      refine k_iload X dX11_multiplies_146 4 rfl rfl ?_
      refine k_iload X dX11_multiplies_148 5 rfl rfl ?_
      refine k_lload X dX11_multiplies_150 6 rfl rfl ?_
      refine k_lload X dX11_multiplies_152 7 rfl rfl ?_
      refine k_lmul X dX11_multiplies_154 rfl ?_
      refine k_iload_n X dX11_multiplies_155 rfl 3 rfl rfl ?_
      refine k_mid2 [(b_m, .inr (10, [.int m_thrown, .ref b_zX, .ref b_zV, .ref b_zO, .ref m_memory, .ref m_shut, .long m_choices, .int m_vl, .int m_vtype, .int m_vstart, .int m_vxrm, .int m_vxsat, .int m_done, .int m_illegal, .int m_traps, .int m_trapAddress, .int m_word, .int m_vd, .int m_vs1, .int m_vs2, .int m_f3, .int m_f6, .int m_sew, .int m_l8, .int m_unmasked])), (b_zX, .inl (kI, 32, .inl zX)), (b_zV, .inl (kI, 512, .inl w_zV)), (b_zO, .inl (kI, 512, .inl zO))] [(0, .ref b_m), (1, .int u1), (2, .int u2), (3, .int u3), (4, .int ((2 : Int32) * m_sew)), (5, .int w_L5), (6, .long (pX11_multiplies_126_L6 m_vs2 m_sew zO u1 w_L5)), (8, .long (pX11_multiplies_141_L8 m_vs1 m_f3 m_sew zX zO u2 w_L5))] [.long (pX11_multiplies_175_S6 m_vd m_sew zO u3 w_L5), .long ((pX11_multiplies_126_L6 m_vs2 m_sew zO u1 w_L5) * (pX11_multiplies_141_L8 m_vs1 m_f3 m_sew zX zO u2 w_L5)), .int w_L5, .int ((2 : Int32) * m_sew), .int m_vd, .ref b_m] 175 (fun hJ10 => ?_) ?_
      · skip
        refine k_if_eq (tgt := 174) X dX11_multiplies_156 (by decide) rfl (fun c9 => ?_) (fun c9 => ?_)
        · skip
          refine k_lconst (v := (0 : Int64)) X dX11_multiplies_174 rfl rfl ?_
          have e30 : (pX11_multiplies_175_S6 m_vd m_sew zO u3 w_L5) = (0 : Int64) := by rw [pX11_multiplies_175_S6, if_pos c9]
          rw [e30] at hJ10
          exact k_sub [0, 1, 2, 3, 4, 5, 6, 7] rfl hJ10
        refine k_aload_n X dX11_multiplies_159 rfl 0 rfl rfl ?_
        refine k_aload_n X dX11_multiplies_160 rfl 0 rfl rfl ?_
        refine k_get X i_wsX110 0 17 q27_3 rfl rfl rfl rfl rfl dX11_multiplies_161 rfl ?_
        refine k_iload X dX11_multiplies_164 4 rfl rfl ?_
        refine k_iload X dX11_multiplies_166 5 rfl rfl ?_
        refine k_cV1 (st := [.long ((pX11_multiplies_126_L6 m_vs2 m_sew zO u1 w_L5) * (pX11_multiplies_141_L8 m_vs1 m_f3 m_sew zX zO u2 w_L5)), .int w_L5, .int ((2 : Int32) * m_sew), .int m_vd, .ref b_m]) (ws' := [(b_m, .inr (10, [.int m_thrown, .ref b_zX, .ref b_zV, .ref b_zO, .ref m_memory, .ref m_shut, .long m_choices, .int m_vl, .int m_vtype, .int m_vstart, .int m_vxrm, .int m_vxsat, .int m_done, .int m_illegal, .int m_traps, .int m_trapAddress, .int m_word, .int m_vd, .int m_vs1, .int m_vs2, .int m_f3, .int m_f6, .int m_sew, .int m_l8, .int m_unmasked])), (b_zX, .inl (kI, 32, .inl zX)), (b_zV, .inl (kI, 512, .inl w_zV)), (b_zO, .inl (kI, 512, .inl zO))]) (wr := [(b_zX, .inl (kI, 32, .inl zX)), (b_zV, .inl (kI, 512, .inl w_zV))]) (ci := 10) (q9 := 0) X [.int m_vd, .int ((2 : Int32) * m_sew), .int w_L5] 6 [0, 3] [1, 2] [2, 0, 1, 3] (kX11_get l D kI kZ b_m b_zO m_thrown b_zX b_zV m_memory m_shut m_choices m_vl m_vtype m_vstart m_vxrm m_vxsat m_done m_illegal m_traps m_trapAddress m_word m_vd m_vs1 m_vs2 m_f3 m_f6 m_sew m_l8 m_unmasked zO m_vd ((2 : Int32) * m_sew) w_L5 (hob.2.2.2.2.1 c3 c4 c9)) vX11_get q32_21 dX11_multiplies_168 rfl rfl rfl rfl rfl rfl rfl rfl rfl rfl rfl rfl rfl rfl rfl ?_
        refine k_goto (tgt := 175) X dX11_multiplies_171 (by decide) ?_
        have e31 : (pX11_multiplies_175_S6 m_vd m_sew zO u3 w_L5) = (fX11_get zO m_vd ((2 : Int32) * m_sew) w_L5) := by rw [pX11_multiplies_175_S6, if_neg c9]
        rw [e31] at hJ10
        exact k_sub [0, 1, 2, 3, 4, 5, 6, 7] rfl hJ10
      refine k_ladd X dX11_multiplies_175 rfl ?_
      refine k_cV0 (st := []) (ws' := [(b_m, .inr (10, [.int m_thrown, .ref b_zX, .ref b_zV, .ref b_zO, .ref m_memory, .ref m_shut, .long m_choices, .int m_vl, .int m_vtype, .int m_vstart, .int m_vxrm, .int m_vxsat, .int m_done, .int m_illegal, .int m_traps, .int m_trapAddress, .int m_word, .int m_vd, .int m_vs1, .int m_vs2, .int m_f3, .int m_f6, .int m_sew, .int m_l8, .int m_unmasked])), (b_zX, .inl (kI, 32, .inl zX)), (b_zV, .inl (kI, 512, .inl (fX11_put__zV w_zV m_vd ((2 : Int32) * m_sew) w_L5 (((pX11_multiplies_126_L6 m_vs2 m_sew zO u1 w_L5) * (pX11_multiplies_141_L8 m_vs1 m_f3 m_sew zX zO u2 w_L5)) + (pX11_multiplies_175_S6 m_vd m_sew zO u3 w_L5))))), (b_zO, .inl (kI, 512, .inl zO))]) (wr := [(b_zX, .inl (kI, 32, .inl zX)), (b_zO, .inl (kI, 512, .inl zO))]) (ci := 10) (q9 := 0) X [.int m_vd, .int ((2 : Int32) * m_sew), .int w_L5, .long (((pX11_multiplies_126_L6 m_vs2 m_sew zO u1 w_L5) * (pX11_multiplies_141_L8 m_vs1 m_f3 m_sew zX zO u2 w_L5)) + (pX11_multiplies_175_S6 m_vd m_sew zO u3 w_L5))] 0 [0, 2] [1, 3] [2, 0, 3, 1] (kX11_put l D kI kZ b_m b_zV m_thrown b_zX b_zO m_memory m_shut m_choices m_vl m_vtype m_vstart m_vxrm m_vxsat m_done m_illegal m_traps m_trapAddress m_word m_vd m_vs1 m_vs2 m_f3 m_f6 m_sew m_l8 m_unmasked w_zV m_vd ((2 : Int32) * m_sew) w_L5 (((pX11_multiplies_126_L6 m_vs2 m_sew zO u1 w_L5) * (pX11_multiplies_141_L8 m_vs1 m_f3 m_sew zX zO u2 w_L5)) + (pX11_multiplies_175_S6 m_vd m_sew zO u3 w_L5)) (hob.2.2.2.2.2 c3 c4)) vX11_put q32_13 dX11_multiplies_176 rfl rfl rfl rfl rfl rfl rfl rfl rfl rfl rfl rfl rfl rfl rfl ?_
      have e32 : (pX11_multiplies_179_zV m_choices m_vtype m_vd m_vs1 m_vs2 m_f3 m_sew m_unmasked zX zO u1 u2 u3 w_L5 w_zV) = (fX11_put__zV w_zV m_vd ((2 : Int32) * m_sew) w_L5 (((pX11_multiplies_126_L6 m_vs2 m_sew zO u1 w_L5) * (pX11_multiplies_141_L8 m_vs1 m_f3 m_sew zX zO u2 w_L5)) + (pX11_multiplies_175_S6 m_vd m_sew zO u3 w_L5))) := by rw [pX11_multiplies_179_zV, if_neg c4]
      rw [e32] at hJ11
      exact k_sub [0, 1, 2, 3, 4, 5] rfl hJ11
    refine k_iinc (lv' := [(5, .int (w_L5 + (1 : Int32))), (0, .ref b_m), (1, .int u1), (2, .int u2), (3, .int u3), (4, .int ((2 : Int32) * m_sew))]) X dX11_multiplies_179 5 rfl kc_i_1 rfl rfl rfl ?_
    refine k_goto (tgt := 50) X dX11_multiplies_182 (by decide) ?_
    have e33 : bX11_multiplies_50_L5 m_vl w_L5 w_zV = (w_L5 + (1 : Int32)) := by rw [bX11_multiplies_50_L5, if_neg c3]
    rw [e33] at g0
    have e34 : bX11_multiplies_50_zV m_choices m_vl m_vtype m_vd m_vs1 m_vs2 m_f3 m_sew m_unmasked zX zO u1 u2 u3 w_L5 w_zV = (pX11_multiplies_179_zV m_choices m_vtype m_vd m_vs1 m_vs2 m_f3 m_sew m_unmasked zX zO u1 u2 u3 w_L5 w_zV) := by rw [bX11_multiplies_50_zV, if_neg c3]
    rw [e34] at g0
    exact k_sub [1, 2, 3, 4, 5, 0] rfl g0
  try dsimp only
  refine k_iload X dX11_multiplies_50 5 rfl rfl ?_
  refine k_aload_n X dX11_multiplies_52 rfl 0 rfl rfl ?_
  refine k_get X i_wsX110 0 7 q28_7 rfl rfl rfl rfl rfl dX11_multiplies_53 rfl ?_
  refine k_icmp_ge (tgt := 185) X dX11_multiplies_56 (by decide) rfl (fun c12 => ?_) (fun c12 => ?_)
  · skip
    refine k_aload_n X dX11_multiplies_185 rfl 0 rfl rfl ?_
    refine k_aload_n X dX11_multiplies_186 rfl 0 rfl rfl ?_
    refine k_get X i_wsX110 0 17 q27_3 rfl rfl rfl rfl rfl dX11_multiplies_187 rfl ?_
    refine k_iload X dX11_multiplies_190 4 rfl rfl ?_
    refine k_iconst X dX11_multiplies_192 kc_i_2 rfl ?_
    refine k_aload_n X dX11_multiplies_193 rfl 0 rfl rfl ?_
    refine k_get X i_wsX110 0 23 q27_10 rfl rfl rfl rfl rfl dX11_multiplies_194 rfl ?_
    refine k_imul X dX11_multiplies_197 rfl ?_
    refine k_aload_n X dX11_multiplies_198 rfl 0 rfl rfl ?_
    refine k_get X i_wsX110 0 7 q28_7 rfl rfl rfl rfl rfl dX11_multiplies_199 rfl ?_
    refine k_cV0 (st := []) (ws' := [(b_m, .inr (10, [.int m_thrown, .ref b_zX, .ref b_zV, .ref b_zO, .ref m_memory, .ref m_shut, .long m_choices, .int m_vl, .int m_vtype, .int m_vstart, .int m_vxrm, .int m_vxsat, .int m_done, .int m_illegal, .int m_traps, .int m_trapAddress, .int m_word, .int m_vd, .int m_vs1, .int m_vs2, .int m_f3, .int m_f6, .int m_sew, .int m_l8, .int m_unmasked])), (b_zX, .inl (kI, 32, .inl zX)), (b_zV, .inl (kI, 512, .inl (fX11_tail__zV m_choices m_vtype ((LX11_multiplies_50 m_choices m_vl m_vtype m_vd m_vs1 m_vs2 m_f3 m_sew m_unmasked zX zO u1 u2 u3 (cnt m_vstart m_vl) (m_vstart, zV)).2) m_vd ((2 : Int32) * m_sew) ((2 : Int32) * m_l8) m_vl))), (b_zO, .inl (kI, 512, .inl zO))]) (wr := [(b_zX, .inl (kI, 32, .inl zX)), (b_zO, .inl (kI, 512, .inl zO))]) (ci := 10) (q9 := 0) X [.int m_vd, .int ((2 : Int32) * m_sew), .int ((2 : Int32) * m_l8), .int m_vl] 0 [0, 2] [1, 3] [2, 0, 3, 1] (kX11_tail l D kI kZ b_m b_zV m_thrown b_zX b_zO m_memory m_shut m_choices m_vl m_vtype m_vstart m_vxrm m_vxsat m_done m_illegal m_traps m_trapAddress m_word m_vd m_vs1 m_vs2 m_f3 m_f6 m_sew m_l8 m_unmasked ((LX11_multiplies_50 m_choices m_vl m_vtype m_vd m_vs1 m_vs2 m_f3 m_sew m_unmasked zX zO u1 u2 u3 (cnt m_vstart m_vl) (m_vstart, zV)).2) m_vd ((2 : Int32) * m_sew) ((2 : Int32) * m_l8) m_vl (hok.2.2.2.1 c1 c2 c12)) vX11_tail q34_11 dX11_multiplies_202 rfl rfl rfl rfl rfl rfl rfl rfl rfl rfl rfl rfl rfl rfl rfl ?_
    refine k_iconst X dX11_multiplies_205 kc_i_1 rfl ?_
    have e35 : (fX11_multiplies m_vd m_vs1 m_vs2 m_f3 m_sew m_l8 m_unmasked) = (1 : Int32) := by rw [fX11_multiplies, if_neg c1]
    have e36 : (fX11_multiplies__zV m_choices m_vl m_vtype m_vstart m_vd m_vs1 m_vs2 m_f3 m_sew m_l8 m_unmasked zX zV zO u1 u2 u3) = (fX11_tail__zV m_choices m_vtype ((LX11_multiplies_50 m_choices m_vl m_vtype m_vd m_vs1 m_vs2 m_f3 m_sew m_unmasked zX zO u1 u2 u3 (cnt m_vstart m_vl) (m_vstart, zV)).2) m_vd ((2 : Int32) * m_sew) ((2 : Int32) * m_l8) m_vl) := by rw [fX11_multiplies__zV, if_neg c1, if_neg c2]
    exact k_zret9 X hRt hLk rfl e35.symm (by rw [e36]) dX11_multiplies_206
  refine k_aload_n X dX11_multiplies_59 rfl 0 rfl rfl ?_
  refine k_iload X dX11_multiplies_60 5 rfl rfl ?_
  refine k_cV1 (st := []) (ws' := [(b_m, .inr (10, [.int m_thrown, .ref b_zX, .ref b_zV, .ref b_zO, .ref m_memory, .ref m_shut, .long m_choices, .int m_vl, .int m_vtype, .int m_vstart, .int m_vxrm, .int m_vxsat, .int m_done, .int m_illegal, .int m_traps, .int m_trapAddress, .int m_word, .int m_vd, .int m_vs1, .int m_vs2, .int m_f3, .int m_f6, .int m_sew, .int m_l8, .int m_unmasked])), (b_zX, .inl (kI, 32, .inl zX)), (b_zV, .inl (kI, 512, .inl ((LX11_multiplies_50 m_choices m_vl m_vtype m_vd m_vs1 m_vs2 m_f3 m_sew m_unmasked zX zO u1 u2 u3 (cnt m_vstart m_vl) (m_vstart, zV)).2))), (b_zO, .inl (kI, 512, .inl zO))]) (wr := [(b_zX, .inl (kI, 32, .inl zX)), (b_zV, .inl (kI, 512, .inl ((LX11_multiplies_50 m_choices m_vl m_vtype m_vd m_vs1 m_vs2 m_f3 m_sew m_unmasked zX zO u1 u2 u3 (cnt m_vstart m_vl) (m_vstart, zV)).2)))]) (ci := 10) (q9 := 0) X [.int ((LX11_multiplies_50 m_choices m_vl m_vtype m_vd m_vs1 m_vs2 m_f3 m_sew m_unmasked zX zO u1 u2 u3 (cnt m_vstart m_vl) (m_vstart, zV)).1)] 0 [0, 3] [1, 2] [2, 0, 1, 3] (kX11_isActive l D kI kZ b_m b_zO m_thrown b_zX b_zV m_memory m_shut m_choices m_vl m_vtype m_vstart m_vxrm m_vxsat m_done m_illegal m_traps m_trapAddress m_word m_vd m_vs1 m_vs2 m_f3 m_f6 m_sew m_l8 m_unmasked zO ((LX11_multiplies_50 m_choices m_vl m_vtype m_vd m_vs1 m_vs2 m_f3 m_sew m_unmasked zX zO u1 u2 u3 (cnt m_vstart m_vl) (m_vstart, zV)).1) (hok.2.2.2.2.1 c1 c2 c12)) vX11_isActive q31_6 dX11_multiplies_62 rfl rfl rfl rfl rfl rfl rfl rfl rfl rfl rfl rfl rfl rfl rfl ?_
  refine k_mid2 [(b_m, .inr (10, [.int m_thrown, .ref b_zX, .ref b_zV, .ref b_zO, .ref m_memory, .ref m_shut, .long m_choices, .int m_vl, .int m_vtype, .int m_vstart, .int m_vxrm, .int m_vxsat, .int m_done, .int m_illegal, .int m_traps, .int m_trapAddress, .int m_word, .int m_vd, .int m_vs1, .int m_vs2, .int m_f3, .int m_f6, .int m_sew, .int m_l8, .int m_unmasked])), (b_zX, .inl (kI, 32, .inl zX)), (b_zV, .inl (kI, 512, .inl (pX11_multiplies_179_zV m_choices m_vtype m_vd m_vs1 m_vs2 m_f3 m_sew m_unmasked zX zO u1 u2 u3 ((LX11_multiplies_50 m_choices m_vl m_vtype m_vd m_vs1 m_vs2 m_f3 m_sew m_unmasked zX zO u1 u2 u3 (cnt m_vstart m_vl) (m_vstart, zV)).1) ((LX11_multiplies_50 m_choices m_vl m_vtype m_vd m_vs1 m_vs2 m_f3 m_sew m_unmasked zX zO u1 u2 u3 (cnt m_vstart m_vl) (m_vstart, zV)).2)))), (b_zO, .inl (kI, 512, .inl zO))] [(0, .ref b_m), (1, .int u1), (2, .int u2), (3, .int u3), (4, .int ((2 : Int32) * m_sew)), (5, .int ((LX11_multiplies_50 m_choices m_vl m_vtype m_vd m_vs1 m_vs2 m_f3 m_sew m_unmasked zX zO u1 u2 u3 (cnt m_vstart m_vl) (m_vstart, zV)).1))] [] 179 (fun hJ20 => ?_) ?_
  · skip
    refine k_if_ne (tgt := 83) X dX11_multiplies_65 (by decide) rfl (fun c13 => ?_) (fun c13 => ?_)
    · skip
      refine k_aload_n X dX11_multiplies_68 rfl 0 rfl rfl ?_
      refine k_aload_n X dX11_multiplies_69 rfl 0 rfl rfl ?_
      refine k_get X i_wsX110 0 17 q27_3 rfl rfl rfl rfl rfl dX11_multiplies_70 rfl ?_
      refine k_iload X dX11_multiplies_73 4 rfl rfl ?_
      refine k_iload X dX11_multiplies_75 5 rfl rfl ?_
      refine k_cV0 (st := []) (ws' := [(b_m, .inr (10, [.int m_thrown, .ref b_zX, .ref b_zV, .ref b_zO, .ref m_memory, .ref m_shut, .long m_choices, .int m_vl, .int m_vtype, .int m_vstart, .int m_vxrm, .int m_vxsat, .int m_done, .int m_illegal, .int m_traps, .int m_trapAddress, .int m_word, .int m_vd, .int m_vs1, .int m_vs2, .int m_f3, .int m_f6, .int m_sew, .int m_l8, .int m_unmasked])), (b_zX, .inl (kI, 32, .inl zX)), (b_zV, .inl (kI, 512, .inl (fX11_masked__zV m_choices m_vtype ((LX11_multiplies_50 m_choices m_vl m_vtype m_vd m_vs1 m_vs2 m_f3 m_sew m_unmasked zX zO u1 u2 u3 (cnt m_vstart m_vl) (m_vstart, zV)).2) m_vd ((2 : Int32) * m_sew) ((LX11_multiplies_50 m_choices m_vl m_vtype m_vd m_vs1 m_vs2 m_f3 m_sew m_unmasked zX zO u1 u2 u3 (cnt m_vstart m_vl) (m_vstart, zV)).1)))), (b_zO, .inl (kI, 512, .inl zO))]) (wr := [(b_zX, .inl (kI, 32, .inl zX)), (b_zO, .inl (kI, 512, .inl zO))]) (ci := 10) (q9 := 0) X [.int m_vd, .int ((2 : Int32) * m_sew), .int ((LX11_multiplies_50 m_choices m_vl m_vtype m_vd m_vs1 m_vs2 m_f3 m_sew m_unmasked zX zO u1 u2 u3 (cnt m_vstart m_vl) (m_vstart, zV)).1)] 0 [0, 2] [1, 3] [2, 0, 3, 1] (kX11_masked l D kI kZ b_m b_zV m_thrown b_zX b_zO m_memory m_shut m_choices m_vl m_vtype m_vstart m_vxrm m_vxsat m_done m_illegal m_traps m_trapAddress m_word m_vd m_vs1 m_vs2 m_f3 m_f6 m_sew m_l8 m_unmasked ((LX11_multiplies_50 m_choices m_vl m_vtype m_vd m_vs1 m_vs2 m_f3 m_sew m_unmasked zX zO u1 u2 u3 (cnt m_vstart m_vl) (m_vstart, zV)).2) m_vd ((2 : Int32) * m_sew) ((LX11_multiplies_50 m_choices m_vl m_vtype m_vd m_vs1 m_vs2 m_f3 m_sew m_unmasked zX zO u1 u2 u3 (cnt m_vstart m_vl) (m_vstart, zV)).1) (hok.2.2.2.2.2.1 c1 c2 c12 c13)) vX11_masked q31_14 dX11_multiplies_77 rfl rfl rfl rfl rfl rfl rfl rfl rfl rfl rfl rfl rfl rfl rfl ?_
      refine k_goto (tgt := 179) X dX11_multiplies_80 (by decide) ?_
      have e37 : (pX11_multiplies_179_zV m_choices m_vtype m_vd m_vs1 m_vs2 m_f3 m_sew m_unmasked zX zO u1 u2 u3 ((LX11_multiplies_50 m_choices m_vl m_vtype m_vd m_vs1 m_vs2 m_f3 m_sew m_unmasked zX zO u1 u2 u3 (cnt m_vstart m_vl) (m_vstart, zV)).1) ((LX11_multiplies_50 m_choices m_vl m_vtype m_vd m_vs1 m_vs2 m_f3 m_sew m_unmasked zX zO u1 u2 u3 (cnt m_vstart m_vl) (m_vstart, zV)).2)) = (fX11_masked__zV m_choices m_vtype ((LX11_multiplies_50 m_choices m_vl m_vtype m_vd m_vs1 m_vs2 m_f3 m_sew m_unmasked zX zO u1 u2 u3 (cnt m_vstart m_vl) (m_vstart, zV)).2) m_vd ((2 : Int32) * m_sew) ((LX11_multiplies_50 m_choices m_vl m_vtype m_vd m_vs1 m_vs2 m_f3 m_sew m_unmasked zX zO u1 u2 u3 (cnt m_vstart m_vl) (m_vstart, zV)).1)) := by rw [pX11_multiplies_179_zV, if_pos c13]
      rw [e37] at hJ20
      exact k_sub [0, 1, 2, 3, 4, 5] rfl hJ20
    refine k_aload_n X dX11_multiplies_83 rfl 0 rfl rfl ?_
    refine k_aload_n X dX11_multiplies_84 rfl 0 rfl rfl ?_
    refine k_get X i_wsX110 0 19 q27_6 rfl rfl rfl rfl rfl dX11_multiplies_85 rfl ?_
    refine k_aload_n X dX11_multiplies_88 rfl 0 rfl rfl ?_
    refine k_get X i_wsX110 0 22 q27_9 rfl rfl rfl rfl rfl dX11_multiplies_89 rfl ?_
    refine k_iload X dX11_multiplies_92 5 rfl rfl ?_
    refine k_cV1 (st := []) (ws' := [(b_m, .inr (10, [.int m_thrown, .ref b_zX, .ref b_zV, .ref b_zO, .ref m_memory, .ref m_shut, .long m_choices, .int m_vl, .int m_vtype, .int m_vstart, .int m_vxrm, .int m_vxsat, .int m_done, .int m_illegal, .int m_traps, .int m_trapAddress, .int m_word, .int m_vd, .int m_vs1, .int m_vs2, .int m_f3, .int m_f6, .int m_sew, .int m_l8, .int m_unmasked])), (b_zX, .inl (kI, 32, .inl zX)), (b_zV, .inl (kI, 512, .inl ((LX11_multiplies_50 m_choices m_vl m_vtype m_vd m_vs1 m_vs2 m_f3 m_sew m_unmasked zX zO u1 u2 u3 (cnt m_vstart m_vl) (m_vstart, zV)).2))), (b_zO, .inl (kI, 512, .inl zO))]) (wr := [(b_zX, .inl (kI, 32, .inl zX)), (b_zV, .inl (kI, 512, .inl ((LX11_multiplies_50 m_choices m_vl m_vtype m_vd m_vs1 m_vs2 m_f3 m_sew m_unmasked zX zO u1 u2 u3 (cnt m_vstart m_vl) (m_vstart, zV)).2)))]) (ci := 10) (q9 := 0) X [.int m_vs2, .int m_sew, .int ((LX11_multiplies_50 m_choices m_vl m_vtype m_vd m_vs1 m_vs2 m_f3 m_sew m_unmasked zX zO u1 u2 u3 (cnt m_vstart m_vl) (m_vstart, zV)).1)] 0 [0, 3] [1, 2] [2, 0, 1, 3] (kX11_get l D kI kZ b_m b_zO m_thrown b_zX b_zV m_memory m_shut m_choices m_vl m_vtype m_vstart m_vxrm m_vxsat m_done m_illegal m_traps m_trapAddress m_word m_vd m_vs1 m_vs2 m_f3 m_f6 m_sew m_l8 m_unmasked zO m_vs2 m_sew ((LX11_multiplies_50 m_choices m_vl m_vtype m_vd m_vs1 m_vs2 m_f3 m_sew m_unmasked zX zO u1 u2 u3 (cnt m_vstart m_vl) (m_vstart, zV)).1) (hok.2.2.2.2.2.2.1 c1 c2 c12 c13)) vX11_get q32_21 dX11_multiplies_94 rfl rfl rfl rfl rfl rfl rfl rfl rfl rfl rfl rfl rfl rfl rfl ?_
    refine k_lstore (lv' := [(6, .long (fX11_get zO m_vs2 m_sew ((LX11_multiplies_50 m_choices m_vl m_vtype m_vd m_vs1 m_vs2 m_f3 m_sew m_unmasked zX zO u1 u2 u3 (cnt m_vstart m_vl) (m_vstart, zV)).1))), (0, .ref b_m), (1, .int u1), (2, .int u2), (3, .int u3), (4, .int ((2 : Int32) * m_sew)), (5, .int ((LX11_multiplies_50 m_choices m_vl m_vtype m_vd m_vs1 m_vs2 m_f3 m_sew m_unmasked zX zO u1 u2 u3 (cnt m_vstart m_vl) (m_vstart, zV)).1))]) X dX11_multiplies_97 rfl rfl rfl ?_
    refine k_aload_n X dX11_multiplies_99 rfl 1 rfl rfl ?_
    refine k_aload_n X dX11_multiplies_100 rfl 1 rfl rfl ?_
    refine k_get X i_wsX110 0 22 q27_9 rfl rfl rfl rfl rfl dX11_multiplies_101 rfl ?_
    refine k_iload X dX11_multiplies_104 6 rfl rfl ?_
    refine k_cV1 (st := []) (ws' := [(b_m, .inr (10, [.int m_thrown, .ref b_zX, .ref b_zV, .ref b_zO, .ref m_memory, .ref m_shut, .long m_choices, .int m_vl, .int m_vtype, .int m_vstart, .int m_vxrm, .int m_vxsat, .int m_done, .int m_illegal, .int m_traps, .int m_trapAddress, .int m_word, .int m_vd, .int m_vs1, .int m_vs2, .int m_f3, .int m_f6, .int m_sew, .int m_l8, .int m_unmasked])), (b_zX, .inl (kI, 32, .inl zX)), (b_zV, .inl (kI, 512, .inl ((LX11_multiplies_50 m_choices m_vl m_vtype m_vd m_vs1 m_vs2 m_f3 m_sew m_unmasked zX zO u1 u2 u3 (cnt m_vstart m_vl) (m_vstart, zV)).2))), (b_zO, .inl (kI, 512, .inl zO))]) (wr := [(b_zV, .inl (kI, 512, .inl ((LX11_multiplies_50 m_choices m_vl m_vtype m_vd m_vs1 m_vs2 m_f3 m_sew m_unmasked zX zO u1 u2 u3 (cnt m_vstart m_vl) (m_vstart, zV)).2)))]) (ci := 10) (q9 := 0) X [.int m_sew, .int ((LX11_multiplies_50 m_choices m_vl m_vtype m_vd m_vs1 m_vs2 m_f3 m_sew m_unmasked zX zO u1 u2 u3 (cnt m_vstart m_vl) (m_vstart, zV)).1)] 0 [0, 1, 3] [2] [1, 2, 0, 3] (kX11_second_ l D kI kZ b_m b_zX b_zO m_thrown b_zV m_memory m_shut m_choices m_vl m_vtype m_vstart m_vxrm m_vxsat m_done m_illegal m_traps m_trapAddress m_word m_vd m_vs1 m_vs2 m_f3 m_f6 m_sew m_l8 m_unmasked zX zO m_sew ((LX11_multiplies_50 m_choices m_vl m_vtype m_vd m_vs1 m_vs2 m_f3 m_sew m_unmasked zX zO u1 u2 u3 (cnt m_vstart m_vl) (m_vstart, zV)).1) (hok.2.2.2.2.2.2.2.1 c1 c2 c12 c13)) vX11_second_ q33_5 dX11_multiplies_106 rfl rfl rfl rfl rfl rfl rfl rfl rfl rfl rfl rfl rfl rfl rfl ?_
    refine k_lstore (lv' := [(8, .long (fX11_second_ m_vs1 m_f3 zX zO m_sew ((LX11_multiplies_50 m_choices m_vl m_vtype m_vd m_vs1 m_vs2 m_f3 m_sew m_unmasked zX zO u1 u2 u3 (cnt m_vstart m_vl) (m_vstart, zV)).1))), (6, .long (fX11_get zO m_vs2 m_sew ((LX11_multiplies_50 m_choices m_vl m_vtype m_vd m_vs1 m_vs2 m_f3 m_sew m_unmasked zX zO u1 u2 u3 (cnt m_vstart m_vl) (m_vstart, zV)).1))), (0, .ref b_m), (1, .int u1), (2, .int u2), (3, .int u3), (4, .int ((2 : Int32) * m_sew)), (5, .int ((LX11_multiplies_50 m_choices m_vl m_vtype m_vd m_vs1 m_vs2 m_f3 m_sew m_unmasked zX zO u1 u2 u3 (cnt m_vstart m_vl) (m_vstart, zV)).1))]) X dX11_multiplies_109 rfl rfl rfl ?_
    refine k_iload_n X dX11_multiplies_111 rfl 3 rfl rfl ?_
    refine k_mid2 [(b_m, .inr (10, [.int m_thrown, .ref b_zX, .ref b_zV, .ref b_zO, .ref m_memory, .ref m_shut, .long m_choices, .int m_vl, .int m_vtype, .int m_vstart, .int m_vxrm, .int m_vxsat, .int m_done, .int m_illegal, .int m_traps, .int m_trapAddress, .int m_word, .int m_vd, .int m_vs1, .int m_vs2, .int m_f3, .int m_f6, .int m_sew, .int m_l8, .int m_unmasked])), (b_zX, .inl (kI, 32, .inl zX)), (b_zV, .inl (kI, 512, .inl ((LX11_multiplies_50 m_choices m_vl m_vtype m_vd m_vs1 m_vs2 m_f3 m_sew m_unmasked zX zO u1 u2 u3 (cnt m_vstart m_vl) (m_vstart, zV)).2))), (b_zO, .inl (kI, 512, .inl zO))] [(0, .ref b_m), (1, .int u1), (2, .int u2), (3, .int u3), (4, .int ((2 : Int32) * m_sew)), (5, .int ((LX11_multiplies_50 m_choices m_vl m_vtype m_vd m_vs1 m_vs2 m_f3 m_sew m_unmasked zX zO u1 u2 u3 (cnt m_vstart m_vl) (m_vstart, zV)).1)), (6, .long (pX11_multiplies_126_L6 m_vs2 m_sew zO u1 ((LX11_multiplies_50 m_choices m_vl m_vtype m_vd m_vs1 m_vs2 m_f3 m_sew m_unmasked zX zO u1 u2 u3 (cnt m_vstart m_vl) (m_vstart, zV)).1))), (8, .long (fX11_second_ m_vs1 m_f3 zX zO m_sew ((LX11_multiplies_50 m_choices m_vl m_vtype m_vd m_vs1 m_vs2 m_f3 m_sew m_unmasked zX zO u1 u2 u3 (cnt m_vstart m_vl) (m_vstart, zV)).1)))] [] 126 (fun hJ15 => ?_) ?_
    · skip
      refine k_if_eq (tgt := 126) X dX11_multiplies_112 (by decide) rfl (fun c14 => ?_) (fun c14 => ?_)
      · skip
        have e38 : (pX11_multiplies_126_L6 m_vs2 m_sew zO u1 ((LX11_multiplies_50 m_choices m_vl m_vtype m_vd m_vs1 m_vs2 m_f3 m_sew m_unmasked zX zO u1 u2 u3 (cnt m_vstart m_vl) (m_vstart, zV)).1)) = (fX11_get zO m_vs2 m_sew ((LX11_multiplies_50 m_choices m_vl m_vtype m_vd m_vs1 m_vs2 m_f3 m_sew m_unmasked zX zO u1 u2 u3 (cnt m_vstart m_vl) (m_vstart, zV)).1)) := by rw [pX11_multiplies_126_L6, if_pos c14]
        rw [e38] at hJ15
        exact k_sub [2, 3, 4, 5, 6, 7, 1, 0] rfl hJ15
      refine k_lload X dX11_multiplies_115 1 rfl rfl ?_
      refine k_aload_n X dX11_multiplies_117 rfl 2 rfl rfl ?_
      refine k_get X i_wsX110 0 22 q27_9 rfl rfl rfl rfl rfl dX11_multiplies_118 rfl ?_
      refine k_cS1 (st := []) (ws' := [(b_m, .inr (10, [.int m_thrown, .ref b_zX, .ref b_zV, .ref b_zO, .ref m_memory, .ref m_shut, .long m_choices, .int m_vl, .int m_vtype, .int m_vstart, .int m_vxrm, .int m_vxsat, .int m_done, .int m_illegal, .int m_traps, .int m_trapAddress, .int m_word, .int m_vd, .int m_vs1, .int m_vs2, .int m_f3, .int m_f6, .int m_sew, .int m_l8, .int m_unmasked])), (b_zX, .inl (kI, 32, .inl zX)), (b_zV, .inl (kI, 512, .inl ((LX11_multiplies_50 m_choices m_vl m_vtype m_vd m_vs1 m_vs2 m_f3 m_sew m_unmasked zX zO u1 u2 u3 (cnt m_vstart m_vl) (m_vstart, zV)).2))), (b_zO, .inl (kI, 512, .inl zO))]) (wr := [(b_m, .inr (10, [.int m_thrown, .ref b_zX, .ref b_zV, .ref b_zO, .ref m_memory, .ref m_shut, .long m_choices, .int m_vl, .int m_vtype, .int m_vstart, .int m_vxrm, .int m_vxsat, .int m_done, .int m_illegal, .int m_traps, .int m_trapAddress, .int m_word, .int m_vd, .int m_vs1, .int m_vs2, .int m_f3, .int m_f6, .int m_sew, .int m_l8, .int m_unmasked])), (b_zX, .inl (kI, 32, .inl zX)), (b_zV, .inl (kI, 512, .inl ((LX11_multiplies_50 m_choices m_vl m_vtype m_vd m_vs1 m_vs2 m_f3 m_sew m_unmasked zX zO u1 u2 u3 (cnt m_vstart m_vl) (m_vstart, zV)).2))), (b_zO, .inl (kI, 512, .inl zO))]) X [.long (fX11_get zO m_vs2 m_sew ((LX11_multiplies_50 m_choices m_vl m_vtype m_vd m_vs1 m_vs2 m_f3 m_sew m_unmasked zX zO u1 u2 u3 (cnt m_vstart m_vl) (m_vstart, zV)).1)), .int m_sew] 0 [] [0, 1, 2, 3] [0, 1, 2, 3] (kX11_signed l D kI kZ (fX11_get zO m_vs2 m_sew ((LX11_multiplies_50 m_choices m_vl m_vtype m_vd m_vs1 m_vs2 m_f3 m_sew m_unmasked zX zO u1 u2 u3 (cnt m_vstart m_vl) (m_vstart, zV)).1)) m_sew) vX11_signed q33_20 dX11_multiplies_121 rfl rfl rfl rfl rfl rfl rfl rfl rfl rfl rfl rfl rfl ?_
      refine k_lstore (lv' := [(6, .long (fX11_signed (fX11_get zO m_vs2 m_sew ((LX11_multiplies_50 m_choices m_vl m_vtype m_vd m_vs1 m_vs2 m_f3 m_sew m_unmasked zX zO u1 u2 u3 (cnt m_vstart m_vl) (m_vstart, zV)).1)) m_sew)), (8, .long (fX11_second_ m_vs1 m_f3 zX zO m_sew ((LX11_multiplies_50 m_choices m_vl m_vtype m_vd m_vs1 m_vs2 m_f3 m_sew m_unmasked zX zO u1 u2 u3 (cnt m_vstart m_vl) (m_vstart, zV)).1))), (0, .ref b_m), (1, .int u1), (2, .int u2), (3, .int u3), (4, .int ((2 : Int32) * m_sew)), (5, .int ((LX11_multiplies_50 m_choices m_vl m_vtype m_vd m_vs1 m_vs2 m_f3 m_sew m_unmasked zX zO u1 u2 u3 (cnt m_vstart m_vl) (m_vstart, zV)).1))]) X dX11_multiplies_124 rfl rfl rfl ?_
      have e39 : (pX11_multiplies_126_L6 m_vs2 m_sew zO u1 ((LX11_multiplies_50 m_choices m_vl m_vtype m_vd m_vs1 m_vs2 m_f3 m_sew m_unmasked zX zO u1 u2 u3 (cnt m_vstart m_vl) (m_vstart, zV)).1)) = (fX11_signed (fX11_get zO m_vs2 m_sew ((LX11_multiplies_50 m_choices m_vl m_vtype m_vd m_vs1 m_vs2 m_f3 m_sew m_unmasked zX zO u1 u2 u3 (cnt m_vstart m_vl) (m_vstart, zV)).1)) m_sew) := by rw [pX11_multiplies_126_L6, if_neg c14]
      rw [e39] at hJ15
      exact k_sub [2, 3, 4, 5, 6, 7, 0, 1] rfl hJ15
    refine k_iload_n X dX11_multiplies_126 rfl 2 rfl rfl ?_
    refine k_mid2 [(b_m, .inr (10, [.int m_thrown, .ref b_zX, .ref b_zV, .ref b_zO, .ref m_memory, .ref m_shut, .long m_choices, .int m_vl, .int m_vtype, .int m_vstart, .int m_vxrm, .int m_vxsat, .int m_done, .int m_illegal, .int m_traps, .int m_trapAddress, .int m_word, .int m_vd, .int m_vs1, .int m_vs2, .int m_f3, .int m_f6, .int m_sew, .int m_l8, .int m_unmasked])), (b_zX, .inl (kI, 32, .inl zX)), (b_zV, .inl (kI, 512, .inl ((LX11_multiplies_50 m_choices m_vl m_vtype m_vd m_vs1 m_vs2 m_f3 m_sew m_unmasked zX zO u1 u2 u3 (cnt m_vstart m_vl) (m_vstart, zV)).2))), (b_zO, .inl (kI, 512, .inl zO))] [(0, .ref b_m), (1, .int u1), (2, .int u2), (3, .int u3), (4, .int ((2 : Int32) * m_sew)), (5, .int ((LX11_multiplies_50 m_choices m_vl m_vtype m_vd m_vs1 m_vs2 m_f3 m_sew m_unmasked zX zO u1 u2 u3 (cnt m_vstart m_vl) (m_vstart, zV)).1)), (6, .long (pX11_multiplies_126_L6 m_vs2 m_sew zO u1 ((LX11_multiplies_50 m_choices m_vl m_vtype m_vd m_vs1 m_vs2 m_f3 m_sew m_unmasked zX zO u1 u2 u3 (cnt m_vstart m_vl) (m_vstart, zV)).1))), (8, .long (pX11_multiplies_141_L8 m_vs1 m_f3 m_sew zX zO u2 ((LX11_multiplies_50 m_choices m_vl m_vtype m_vd m_vs1 m_vs2 m_f3 m_sew m_unmasked zX zO u1 u2 u3 (cnt m_vstart m_vl) (m_vstart, zV)).1)))] [] 141 (fun hJ17 => ?_) ?_
    · skip
      refine k_if_eq (tgt := 141) X dX11_multiplies_127 (by decide) rfl (fun c16 => ?_) (fun c16 => ?_)
      · skip
        have e40 : (pX11_multiplies_141_L8 m_vs1 m_f3 m_sew zX zO u2 ((LX11_multiplies_50 m_choices m_vl m_vtype m_vd m_vs1 m_vs2 m_f3 m_sew m_unmasked zX zO u1 u2 u3 (cnt m_vstart m_vl) (m_vstart, zV)).1)) = (fX11_second_ m_vs1 m_f3 zX zO m_sew ((LX11_multiplies_50 m_choices m_vl m_vtype m_vd m_vs1 m_vs2 m_f3 m_sew m_unmasked zX zO u1 u2 u3 (cnt m_vstart m_vl) (m_vstart, zV)).1)) := by rw [pX11_multiplies_141_L8, if_pos c16]
        rw [e40] at hJ17
        exact k_sub [0, 1, 2, 3, 4, 5, 6, 7] rfl hJ17
      refine k_lload X dX11_multiplies_130 7 rfl rfl ?_
      refine k_aload_n X dX11_multiplies_132 rfl 0 rfl rfl ?_
      refine k_get X i_wsX110 0 22 q27_9 rfl rfl rfl rfl rfl dX11_multiplies_133 rfl ?_
      refine k_cS1 (st := []) (ws' := [(b_m, .inr (10, [.int m_thrown, .ref b_zX, .ref b_zV, .ref b_zO, .ref m_memory, .ref m_shut, .long m_choices, .int m_vl, .int m_vtype, .int m_vstart, .int m_vxrm, .int m_vxsat, .int m_done, .int m_illegal, .int m_traps, .int m_trapAddress, .int m_word, .int m_vd, .int m_vs1, .int m_vs2, .int m_f3, .int m_f6, .int m_sew, .int m_l8, .int m_unmasked])), (b_zX, .inl (kI, 32, .inl zX)), (b_zV, .inl (kI, 512, .inl ((LX11_multiplies_50 m_choices m_vl m_vtype m_vd m_vs1 m_vs2 m_f3 m_sew m_unmasked zX zO u1 u2 u3 (cnt m_vstart m_vl) (m_vstart, zV)).2))), (b_zO, .inl (kI, 512, .inl zO))]) (wr := [(b_m, .inr (10, [.int m_thrown, .ref b_zX, .ref b_zV, .ref b_zO, .ref m_memory, .ref m_shut, .long m_choices, .int m_vl, .int m_vtype, .int m_vstart, .int m_vxrm, .int m_vxsat, .int m_done, .int m_illegal, .int m_traps, .int m_trapAddress, .int m_word, .int m_vd, .int m_vs1, .int m_vs2, .int m_f3, .int m_f6, .int m_sew, .int m_l8, .int m_unmasked])), (b_zX, .inl (kI, 32, .inl zX)), (b_zV, .inl (kI, 512, .inl ((LX11_multiplies_50 m_choices m_vl m_vtype m_vd m_vs1 m_vs2 m_f3 m_sew m_unmasked zX zO u1 u2 u3 (cnt m_vstart m_vl) (m_vstart, zV)).2))), (b_zO, .inl (kI, 512, .inl zO))]) X [.long (fX11_second_ m_vs1 m_f3 zX zO m_sew ((LX11_multiplies_50 m_choices m_vl m_vtype m_vd m_vs1 m_vs2 m_f3 m_sew m_unmasked zX zO u1 u2 u3 (cnt m_vstart m_vl) (m_vstart, zV)).1)), .int m_sew] 0 [] [0, 1, 2, 3] [0, 1, 2, 3] (kX11_signed l D kI kZ (fX11_second_ m_vs1 m_f3 zX zO m_sew ((LX11_multiplies_50 m_choices m_vl m_vtype m_vd m_vs1 m_vs2 m_f3 m_sew m_unmasked zX zO u1 u2 u3 (cnt m_vstart m_vl) (m_vstart, zV)).1)) m_sew) vX11_signed q33_20 dX11_multiplies_136 rfl rfl rfl rfl rfl rfl rfl rfl rfl rfl rfl rfl rfl ?_
      refine k_lstore (lv' := [(8, .long (fX11_signed (fX11_second_ m_vs1 m_f3 zX zO m_sew ((LX11_multiplies_50 m_choices m_vl m_vtype m_vd m_vs1 m_vs2 m_f3 m_sew m_unmasked zX zO u1 u2 u3 (cnt m_vstart m_vl) (m_vstart, zV)).1)) m_sew)), (0, .ref b_m), (1, .int u1), (2, .int u2), (3, .int u3), (4, .int ((2 : Int32) * m_sew)), (5, .int ((LX11_multiplies_50 m_choices m_vl m_vtype m_vd m_vs1 m_vs2 m_f3 m_sew m_unmasked zX zO u1 u2 u3 (cnt m_vstart m_vl) (m_vstart, zV)).1)), (6, .long (pX11_multiplies_126_L6 m_vs2 m_sew zO u1 ((LX11_multiplies_50 m_choices m_vl m_vtype m_vd m_vs1 m_vs2 m_f3 m_sew m_unmasked zX zO u1 u2 u3 (cnt m_vstart m_vl) (m_vstart, zV)).1)))]) X dX11_multiplies_139 rfl rfl rfl ?_
      have e41 : (pX11_multiplies_141_L8 m_vs1 m_f3 m_sew zX zO u2 ((LX11_multiplies_50 m_choices m_vl m_vtype m_vd m_vs1 m_vs2 m_f3 m_sew m_unmasked zX zO u1 u2 u3 (cnt m_vstart m_vl) (m_vstart, zV)).1)) = (fX11_signed (fX11_second_ m_vs1 m_f3 zX zO m_sew ((LX11_multiplies_50 m_choices m_vl m_vtype m_vd m_vs1 m_vs2 m_f3 m_sew m_unmasked zX zO u1 u2 u3 (cnt m_vstart m_vl) (m_vstart, zV)).1)) m_sew) := by rw [pX11_multiplies_141_L8, if_neg c16]
      rw [e41] at hJ17
      exact k_sub [1, 2, 3, 4, 5, 6, 7, 0] rfl hJ17
    refine k_aload_n X dX11_multiplies_141 rfl 0 rfl rfl ?_
    refine k_aload_n X dX11_multiplies_142 rfl 0 rfl rfl ?_
    refine k_get X i_wsX110 0 17 q27_3 rfl rfl rfl rfl rfl dX11_multiplies_143 rfl ?_
    refine k_iload X dX11_multiplies_146 4 rfl rfl ?_
    refine k_iload X dX11_multiplies_148 5 rfl rfl ?_
    refine k_lload X dX11_multiplies_150 6 rfl rfl ?_
    refine k_lload X dX11_multiplies_152 7 rfl rfl ?_
    refine k_lmul X dX11_multiplies_154 rfl ?_
    refine k_iload_n X dX11_multiplies_155 rfl 3 rfl rfl ?_
    refine k_mid2 [(b_m, .inr (10, [.int m_thrown, .ref b_zX, .ref b_zV, .ref b_zO, .ref m_memory, .ref m_shut, .long m_choices, .int m_vl, .int m_vtype, .int m_vstart, .int m_vxrm, .int m_vxsat, .int m_done, .int m_illegal, .int m_traps, .int m_trapAddress, .int m_word, .int m_vd, .int m_vs1, .int m_vs2, .int m_f3, .int m_f6, .int m_sew, .int m_l8, .int m_unmasked])), (b_zX, .inl (kI, 32, .inl zX)), (b_zV, .inl (kI, 512, .inl ((LX11_multiplies_50 m_choices m_vl m_vtype m_vd m_vs1 m_vs2 m_f3 m_sew m_unmasked zX zO u1 u2 u3 (cnt m_vstart m_vl) (m_vstart, zV)).2))), (b_zO, .inl (kI, 512, .inl zO))] [(0, .ref b_m), (1, .int u1), (2, .int u2), (3, .int u3), (4, .int ((2 : Int32) * m_sew)), (5, .int ((LX11_multiplies_50 m_choices m_vl m_vtype m_vd m_vs1 m_vs2 m_f3 m_sew m_unmasked zX zO u1 u2 u3 (cnt m_vstart m_vl) (m_vstart, zV)).1)), (6, .long (pX11_multiplies_126_L6 m_vs2 m_sew zO u1 ((LX11_multiplies_50 m_choices m_vl m_vtype m_vd m_vs1 m_vs2 m_f3 m_sew m_unmasked zX zO u1 u2 u3 (cnt m_vstart m_vl) (m_vstart, zV)).1))), (8, .long (pX11_multiplies_141_L8 m_vs1 m_f3 m_sew zX zO u2 ((LX11_multiplies_50 m_choices m_vl m_vtype m_vd m_vs1 m_vs2 m_f3 m_sew m_unmasked zX zO u1 u2 u3 (cnt m_vstart m_vl) (m_vstart, zV)).1)))] [.long (pX11_multiplies_175_S6 m_vd m_sew zO u3 ((LX11_multiplies_50 m_choices m_vl m_vtype m_vd m_vs1 m_vs2 m_f3 m_sew m_unmasked zX zO u1 u2 u3 (cnt m_vstart m_vl) (m_vstart, zV)).1)), .long ((pX11_multiplies_126_L6 m_vs2 m_sew zO u1 ((LX11_multiplies_50 m_choices m_vl m_vtype m_vd m_vs1 m_vs2 m_f3 m_sew m_unmasked zX zO u1 u2 u3 (cnt m_vstart m_vl) (m_vstart, zV)).1)) * (pX11_multiplies_141_L8 m_vs1 m_f3 m_sew zX zO u2 ((LX11_multiplies_50 m_choices m_vl m_vtype m_vd m_vs1 m_vs2 m_f3 m_sew m_unmasked zX zO u1 u2 u3 (cnt m_vstart m_vl) (m_vstart, zV)).1))), .int ((LX11_multiplies_50 m_choices m_vl m_vtype m_vd m_vs1 m_vs2 m_f3 m_sew m_unmasked zX zO u1 u2 u3 (cnt m_vstart m_vl) (m_vstart, zV)).1), .int ((2 : Int32) * m_sew), .int m_vd, .ref b_m] 175 (fun hJ19 => ?_) ?_
    · skip
      refine k_if_eq (tgt := 174) X dX11_multiplies_156 (by decide) rfl (fun c18 => ?_) (fun c18 => ?_)
      · skip
        refine k_lconst (v := (0 : Int64)) X dX11_multiplies_174 rfl rfl ?_
        have e42 : (pX11_multiplies_175_S6 m_vd m_sew zO u3 ((LX11_multiplies_50 m_choices m_vl m_vtype m_vd m_vs1 m_vs2 m_f3 m_sew m_unmasked zX zO u1 u2 u3 (cnt m_vstart m_vl) (m_vstart, zV)).1)) = (0 : Int64) := by rw [pX11_multiplies_175_S6, if_pos c18]
        rw [e42] at hJ19
        exact k_sub [0, 1, 2, 3, 4, 5, 6, 7] rfl hJ19
      refine k_aload_n X dX11_multiplies_159 rfl 0 rfl rfl ?_
      refine k_aload_n X dX11_multiplies_160 rfl 0 rfl rfl ?_
      refine k_get X i_wsX110 0 17 q27_3 rfl rfl rfl rfl rfl dX11_multiplies_161 rfl ?_
      refine k_iload X dX11_multiplies_164 4 rfl rfl ?_
      refine k_iload X dX11_multiplies_166 5 rfl rfl ?_
      refine k_cV1 (st := [.long ((pX11_multiplies_126_L6 m_vs2 m_sew zO u1 ((LX11_multiplies_50 m_choices m_vl m_vtype m_vd m_vs1 m_vs2 m_f3 m_sew m_unmasked zX zO u1 u2 u3 (cnt m_vstart m_vl) (m_vstart, zV)).1)) * (pX11_multiplies_141_L8 m_vs1 m_f3 m_sew zX zO u2 ((LX11_multiplies_50 m_choices m_vl m_vtype m_vd m_vs1 m_vs2 m_f3 m_sew m_unmasked zX zO u1 u2 u3 (cnt m_vstart m_vl) (m_vstart, zV)).1))), .int ((LX11_multiplies_50 m_choices m_vl m_vtype m_vd m_vs1 m_vs2 m_f3 m_sew m_unmasked zX zO u1 u2 u3 (cnt m_vstart m_vl) (m_vstart, zV)).1), .int ((2 : Int32) * m_sew), .int m_vd, .ref b_m]) (ws' := [(b_m, .inr (10, [.int m_thrown, .ref b_zX, .ref b_zV, .ref b_zO, .ref m_memory, .ref m_shut, .long m_choices, .int m_vl, .int m_vtype, .int m_vstart, .int m_vxrm, .int m_vxsat, .int m_done, .int m_illegal, .int m_traps, .int m_trapAddress, .int m_word, .int m_vd, .int m_vs1, .int m_vs2, .int m_f3, .int m_f6, .int m_sew, .int m_l8, .int m_unmasked])), (b_zX, .inl (kI, 32, .inl zX)), (b_zV, .inl (kI, 512, .inl ((LX11_multiplies_50 m_choices m_vl m_vtype m_vd m_vs1 m_vs2 m_f3 m_sew m_unmasked zX zO u1 u2 u3 (cnt m_vstart m_vl) (m_vstart, zV)).2))), (b_zO, .inl (kI, 512, .inl zO))]) (wr := [(b_zX, .inl (kI, 32, .inl zX)), (b_zV, .inl (kI, 512, .inl ((LX11_multiplies_50 m_choices m_vl m_vtype m_vd m_vs1 m_vs2 m_f3 m_sew m_unmasked zX zO u1 u2 u3 (cnt m_vstart m_vl) (m_vstart, zV)).2)))]) (ci := 10) (q9 := 0) X [.int m_vd, .int ((2 : Int32) * m_sew), .int ((LX11_multiplies_50 m_choices m_vl m_vtype m_vd m_vs1 m_vs2 m_f3 m_sew m_unmasked zX zO u1 u2 u3 (cnt m_vstart m_vl) (m_vstart, zV)).1)] 6 [0, 3] [1, 2] [2, 0, 1, 3] (kX11_get l D kI kZ b_m b_zO m_thrown b_zX b_zV m_memory m_shut m_choices m_vl m_vtype m_vstart m_vxrm m_vxsat m_done m_illegal m_traps m_trapAddress m_word m_vd m_vs1 m_vs2 m_f3 m_f6 m_sew m_l8 m_unmasked zO m_vd ((2 : Int32) * m_sew) ((LX11_multiplies_50 m_choices m_vl m_vtype m_vd m_vs1 m_vs2 m_f3 m_sew m_unmasked zX zO u1 u2 u3 (cnt m_vstart m_vl) (m_vstart, zV)).1) (hok.2.2.2.2.2.2.2.2.1 c1 c2 c12 c13 c18)) vX11_get q32_21 dX11_multiplies_168 rfl rfl rfl rfl rfl rfl rfl rfl rfl rfl rfl rfl rfl rfl rfl ?_
      refine k_goto (tgt := 175) X dX11_multiplies_171 (by decide) ?_
      have e43 : (pX11_multiplies_175_S6 m_vd m_sew zO u3 ((LX11_multiplies_50 m_choices m_vl m_vtype m_vd m_vs1 m_vs2 m_f3 m_sew m_unmasked zX zO u1 u2 u3 (cnt m_vstart m_vl) (m_vstart, zV)).1)) = (fX11_get zO m_vd ((2 : Int32) * m_sew) ((LX11_multiplies_50 m_choices m_vl m_vtype m_vd m_vs1 m_vs2 m_f3 m_sew m_unmasked zX zO u1 u2 u3 (cnt m_vstart m_vl) (m_vstart, zV)).1)) := by rw [pX11_multiplies_175_S6, if_neg c18]
      rw [e43] at hJ19
      exact k_sub [0, 1, 2, 3, 4, 5, 6, 7] rfl hJ19
    refine k_ladd X dX11_multiplies_175 rfl ?_
    refine k_cV0 (st := []) (ws' := [(b_m, .inr (10, [.int m_thrown, .ref b_zX, .ref b_zV, .ref b_zO, .ref m_memory, .ref m_shut, .long m_choices, .int m_vl, .int m_vtype, .int m_vstart, .int m_vxrm, .int m_vxsat, .int m_done, .int m_illegal, .int m_traps, .int m_trapAddress, .int m_word, .int m_vd, .int m_vs1, .int m_vs2, .int m_f3, .int m_f6, .int m_sew, .int m_l8, .int m_unmasked])), (b_zX, .inl (kI, 32, .inl zX)), (b_zV, .inl (kI, 512, .inl (fX11_put__zV ((LX11_multiplies_50 m_choices m_vl m_vtype m_vd m_vs1 m_vs2 m_f3 m_sew m_unmasked zX zO u1 u2 u3 (cnt m_vstart m_vl) (m_vstart, zV)).2) m_vd ((2 : Int32) * m_sew) ((LX11_multiplies_50 m_choices m_vl m_vtype m_vd m_vs1 m_vs2 m_f3 m_sew m_unmasked zX zO u1 u2 u3 (cnt m_vstart m_vl) (m_vstart, zV)).1) (((pX11_multiplies_126_L6 m_vs2 m_sew zO u1 ((LX11_multiplies_50 m_choices m_vl m_vtype m_vd m_vs1 m_vs2 m_f3 m_sew m_unmasked zX zO u1 u2 u3 (cnt m_vstart m_vl) (m_vstart, zV)).1)) * (pX11_multiplies_141_L8 m_vs1 m_f3 m_sew zX zO u2 ((LX11_multiplies_50 m_choices m_vl m_vtype m_vd m_vs1 m_vs2 m_f3 m_sew m_unmasked zX zO u1 u2 u3 (cnt m_vstart m_vl) (m_vstart, zV)).1))) + (pX11_multiplies_175_S6 m_vd m_sew zO u3 ((LX11_multiplies_50 m_choices m_vl m_vtype m_vd m_vs1 m_vs2 m_f3 m_sew m_unmasked zX zO u1 u2 u3 (cnt m_vstart m_vl) (m_vstart, zV)).1)))))), (b_zO, .inl (kI, 512, .inl zO))]) (wr := [(b_zX, .inl (kI, 32, .inl zX)), (b_zO, .inl (kI, 512, .inl zO))]) (ci := 10) (q9 := 0) X [.int m_vd, .int ((2 : Int32) * m_sew), .int ((LX11_multiplies_50 m_choices m_vl m_vtype m_vd m_vs1 m_vs2 m_f3 m_sew m_unmasked zX zO u1 u2 u3 (cnt m_vstart m_vl) (m_vstart, zV)).1), .long (((pX11_multiplies_126_L6 m_vs2 m_sew zO u1 ((LX11_multiplies_50 m_choices m_vl m_vtype m_vd m_vs1 m_vs2 m_f3 m_sew m_unmasked zX zO u1 u2 u3 (cnt m_vstart m_vl) (m_vstart, zV)).1)) * (pX11_multiplies_141_L8 m_vs1 m_f3 m_sew zX zO u2 ((LX11_multiplies_50 m_choices m_vl m_vtype m_vd m_vs1 m_vs2 m_f3 m_sew m_unmasked zX zO u1 u2 u3 (cnt m_vstart m_vl) (m_vstart, zV)).1))) + (pX11_multiplies_175_S6 m_vd m_sew zO u3 ((LX11_multiplies_50 m_choices m_vl m_vtype m_vd m_vs1 m_vs2 m_f3 m_sew m_unmasked zX zO u1 u2 u3 (cnt m_vstart m_vl) (m_vstart, zV)).1)))] 0 [0, 2] [1, 3] [2, 0, 3, 1] (kX11_put l D kI kZ b_m b_zV m_thrown b_zX b_zO m_memory m_shut m_choices m_vl m_vtype m_vstart m_vxrm m_vxsat m_done m_illegal m_traps m_trapAddress m_word m_vd m_vs1 m_vs2 m_f3 m_f6 m_sew m_l8 m_unmasked ((LX11_multiplies_50 m_choices m_vl m_vtype m_vd m_vs1 m_vs2 m_f3 m_sew m_unmasked zX zO u1 u2 u3 (cnt m_vstart m_vl) (m_vstart, zV)).2) m_vd ((2 : Int32) * m_sew) ((LX11_multiplies_50 m_choices m_vl m_vtype m_vd m_vs1 m_vs2 m_f3 m_sew m_unmasked zX zO u1 u2 u3 (cnt m_vstart m_vl) (m_vstart, zV)).1) (((pX11_multiplies_126_L6 m_vs2 m_sew zO u1 ((LX11_multiplies_50 m_choices m_vl m_vtype m_vd m_vs1 m_vs2 m_f3 m_sew m_unmasked zX zO u1 u2 u3 (cnt m_vstart m_vl) (m_vstart, zV)).1)) * (pX11_multiplies_141_L8 m_vs1 m_f3 m_sew zX zO u2 ((LX11_multiplies_50 m_choices m_vl m_vtype m_vd m_vs1 m_vs2 m_f3 m_sew m_unmasked zX zO u1 u2 u3 (cnt m_vstart m_vl) (m_vstart, zV)).1))) + (pX11_multiplies_175_S6 m_vd m_sew zO u3 ((LX11_multiplies_50 m_choices m_vl m_vtype m_vd m_vs1 m_vs2 m_f3 m_sew m_unmasked zX zO u1 u2 u3 (cnt m_vstart m_vl) (m_vstart, zV)).1))) (hok.2.2.2.2.2.2.2.2.2 c1 c2 c12 c13)) vX11_put q32_13 dX11_multiplies_176 rfl rfl rfl rfl rfl rfl rfl rfl rfl rfl rfl rfl rfl rfl rfl ?_
    have e44 : (pX11_multiplies_179_zV m_choices m_vtype m_vd m_vs1 m_vs2 m_f3 m_sew m_unmasked zX zO u1 u2 u3 ((LX11_multiplies_50 m_choices m_vl m_vtype m_vd m_vs1 m_vs2 m_f3 m_sew m_unmasked zX zO u1 u2 u3 (cnt m_vstart m_vl) (m_vstart, zV)).1) ((LX11_multiplies_50 m_choices m_vl m_vtype m_vd m_vs1 m_vs2 m_f3 m_sew m_unmasked zX zO u1 u2 u3 (cnt m_vstart m_vl) (m_vstart, zV)).2)) = (fX11_put__zV ((LX11_multiplies_50 m_choices m_vl m_vtype m_vd m_vs1 m_vs2 m_f3 m_sew m_unmasked zX zO u1 u2 u3 (cnt m_vstart m_vl) (m_vstart, zV)).2) m_vd ((2 : Int32) * m_sew) ((LX11_multiplies_50 m_choices m_vl m_vtype m_vd m_vs1 m_vs2 m_f3 m_sew m_unmasked zX zO u1 u2 u3 (cnt m_vstart m_vl) (m_vstart, zV)).1) (((pX11_multiplies_126_L6 m_vs2 m_sew zO u1 ((LX11_multiplies_50 m_choices m_vl m_vtype m_vd m_vs1 m_vs2 m_f3 m_sew m_unmasked zX zO u1 u2 u3 (cnt m_vstart m_vl) (m_vstart, zV)).1)) * (pX11_multiplies_141_L8 m_vs1 m_f3 m_sew zX zO u2 ((LX11_multiplies_50 m_choices m_vl m_vtype m_vd m_vs1 m_vs2 m_f3 m_sew m_unmasked zX zO u1 u2 u3 (cnt m_vstart m_vl) (m_vstart, zV)).1))) + (pX11_multiplies_175_S6 m_vd m_sew zO u3 ((LX11_multiplies_50 m_choices m_vl m_vtype m_vd m_vs1 m_vs2 m_f3 m_sew m_unmasked zX zO u1 u2 u3 (cnt m_vstart m_vl) (m_vstart, zV)).1)))) := by rw [pX11_multiplies_179_zV, if_neg c13]
    rw [e44] at hJ20
    exact k_sub [0, 1, 2, 3, 4, 5] rfl hJ20
  refine k_iinc (lv' := [(5, .int ((LX11_multiplies_50 m_choices m_vl m_vtype m_vd m_vs1 m_vs2 m_f3 m_sew m_unmasked zX zO u1 u2 u3 (cnt m_vstart m_vl) (m_vstart, zV)).1 + (1 : Int32))), (0, .ref b_m), (1, .int u1), (2, .int u2), (3, .int u3), (4, .int ((2 : Int32) * m_sew))]) X dX11_multiplies_179 5 rfl kc_i_1 rfl rfl rfl ?_
  refine k_goto (tgt := 50) X dX11_multiplies_182 (by decide) ?_
  exact absurd (show tX11_multiplies_50 m_vl ((LX11_multiplies_50 m_choices m_vl m_vtype m_vd m_vs1 m_vs2 m_f3 m_sew m_unmasked zX zO u1 u2 u3 (cnt m_vstart m_vl) (m_vstart, zV)).1) ((LX11_multiplies_50 m_choices m_vl m_vtype m_vd m_vs1 m_vs2 m_f3 m_sew m_unmasked zX zO u1 u2 u3 (cnt m_vstart m_vl) (m_vstart, zV)).2) from by rw [tX11_multiplies_50, if_neg c12]; exact True.intro) (hok.2.2.1 c1 c2)
theorem vX11_multiplies : kVi yX11_multiplies cX11_multiplies 10 (some .boolean) 3 := ⟨q39_6, q1_5, q39_4, q39_5, by decide, by decide +kernel⟩
noncomputable def pX11_extends1_43_S1 (m_vs1 : Int32) : Int32 := (if m_vs1 = (4 : Int32) then (4 : Int32) else (if m_vs1 = (5 : Int32) then (4 : Int32) else (if m_vs1 = (6 : Int32) then (2 : Int32) else (if m_vs1 = (7 : Int32) then (2 : Int32) else (0 : Int32)))))
noncomputable def pX11_extends1_172_S5 (m_vs1 : Int32) (m_vs2 : Int32) (m_sew : Int32) (zO : Nat → Int32) (w_L2 : Int32) : Int64 := (if (m_vs1 &&& (1 : Int32)) = (1 : Int32) then (fX11_signed (fX11_get zO m_vs2 (m_sew / (pX11_extends1_43_S1 m_vs1)) w_L2) (m_sew / (pX11_extends1_43_S1 m_vs1))) else (fX11_get zO m_vs2 (m_sew / (pX11_extends1_43_S1 m_vs1)) w_L2))
noncomputable def pX11_extends1_175_zV (m_choices : Int64) (m_vtype : Int32) (m_vd : Int32) (m_vs1 : Int32) (m_vs2 : Int32) (m_sew : Int32) (m_unmasked : Int32) (zO : Nat → Int32) (w_L2 : Int32) (w_zV : Nat → Int32) : Nat → Int32 := (if (fX11_isActive m_unmasked zO w_L2) = (0 : Int32) then (fX11_masked__zV m_choices m_vtype w_zV m_vd m_sew w_L2) else (fX11_put__zV w_zV m_vd m_sew w_L2 (pX11_extends1_172_S5 m_vs1 m_vs2 m_sew zO w_L2)))
noncomputable def tX11_extends1_90 (m_vl : Int32) (w_L2 : Int32) (w_zV : Nat → Int32) : Prop := (if m_vl ≤ w_L2 then False else True)
noncomputable def bX11_extends1_90_L2 (m_vl : Int32) (w_L2 : Int32) (w_zV : Nat → Int32) : Int32 := (if m_vl ≤ w_L2 then w_L2 else (w_L2 + (1 : Int32)))
noncomputable def bX11_extends1_90_zV (m_choices : Int64) (m_vl : Int32) (m_vtype : Int32) (m_vd : Int32) (m_vs1 : Int32) (m_vs2 : Int32) (m_sew : Int32) (m_unmasked : Int32) (zO : Nat → Int32) (w_L2 : Int32) (w_zV : Nat → Int32) : Nat → Int32 := (if m_vl ≤ w_L2 then w_zV else (pX11_extends1_175_zV m_choices m_vtype m_vd m_vs1 m_vs2 m_sew m_unmasked zO w_L2 w_zV))
noncomputable def LX11_extends1_90 (m_choices : Int64) (m_vl : Int32) (m_vtype : Int32) (m_vd : Int32) (m_vs1 : Int32) (m_vs2 : Int32) (m_sew : Int32) (m_unmasked : Int32) (zO : Nat → Int32) : Nat → Int32 × (Nat → Int32) → Int32 × (Nat → Int32)
  | 0, s => s
  | n + 1, s => LX11_extends1_90 m_choices m_vl m_vtype m_vd m_vs1 m_vs2 m_sew m_unmasked zO n ((bX11_extends1_90_L2 m_vl s.1 s.2), (bX11_extends1_90_zV m_choices m_vl m_vtype m_vd m_vs1 m_vs2 m_sew m_unmasked zO s.1 s.2))
noncomputable def oX11_extends1_90 (m_choices : Int64) (m_vl : Int32) (m_vtype : Int32) (m_vd : Int32) (m_vs1 : Int32) (m_vs2 : Int32) (m_sew : Int32) (m_unmasked : Int32) (zO : Nat → Int32) (w_L2 : Int32) (w_zV : Nat → Int32) : Prop := (¬ (m_vl ≤ w_L2) → okX11_isActive m_unmasked w_L2) ∧ (¬ (m_vl ≤ w_L2) → ((fX11_isActive m_unmasked zO w_L2) = (0 : Int32)) → okX11_masked m_choices m_vtype w_zV m_vd m_sew w_L2) ∧ (¬ (m_vl ≤ w_L2) → ¬ ((fX11_isActive m_unmasked zO w_L2) = (0 : Int32)) → ¬ (pX11_extends1_43_S1 m_vs1) = 0) ∧ (¬ (m_vl ≤ w_L2) → ¬ ((fX11_isActive m_unmasked zO w_L2) = (0 : Int32)) → okX11_get zO m_vs2 (m_sew / (pX11_extends1_43_S1 m_vs1)) w_L2) ∧ (¬ (m_vl ≤ w_L2) → ¬ ((fX11_isActive m_unmasked zO w_L2) = (0 : Int32)) → ((m_vs1 &&& (1 : Int32)) = (1 : Int32)) → ¬ (pX11_extends1_43_S1 m_vs1) = 0) ∧ (¬ (m_vl ≤ w_L2) → ¬ ((fX11_isActive m_unmasked zO w_L2) = (0 : Int32)) → okX11_put w_zV m_vd m_sew w_L2 (pX11_extends1_172_S5 m_vs1 m_vs2 m_sew zO w_L2))
noncomputable def KX11_extends1_90 (m_choices : Int64) (m_vl : Int32) (m_vtype : Int32) (m_vd : Int32) (m_vs1 : Int32) (m_vs2 : Int32) (m_sew : Int32) (m_unmasked : Int32) (zO : Nat → Int32) : Nat → Int32 × (Nat → Int32) → Prop
  | 0, _ => True
  | n + 1, s => (tX11_extends1_90 m_vl s.1 s.2 ∧ oX11_extends1_90 m_choices m_vl m_vtype m_vd m_vs1 m_vs2 m_sew m_unmasked zO s.1 s.2) ∧ KX11_extends1_90 m_choices m_vl m_vtype m_vd m_vs1 m_vs2 m_sew m_unmasked zO n ((bX11_extends1_90_L2 m_vl s.1 s.2), (bX11_extends1_90_zV m_choices m_vl m_vtype m_vd m_vs1 m_vs2 m_sew m_unmasked zO s.1 s.2))
theorem itX11_extends1_90 (m_choices : Int64) (m_vl : Int32) (m_vtype : Int32) (m_vd : Int32) (m_vs1 : Int32) (m_vs2 : Int32) (m_sew : Int32) (m_unmasked : Int32) (zO : Nat → Int32) {b9 : Nat} (h9 : m_vl = nI b9) (hb9 : b9 < 2147483648) : ∀ (n a : Nat) (w_zV : Nat → Int32), a + n ≤ b9 → LX11_extends1_90 m_choices m_vl m_vtype m_vd m_vs1 m_vs2 m_sew m_unmasked zO n (nI a, w_zV) = (nI (a + n), itr (fun k s => ((pX11_extends1_175_zV m_choices m_vtype m_vd m_vs1 m_vs2 m_sew m_unmasked zO (nI k) s))) n a (w_zV))
  | 0, a, w_zV, _ => rfl
  | n + 1, a, w_zV, h => by
    have hc : ¬ (m_vl ≤ nI a) := by rw [h9]; exact nI_ge (by omega) hb9
    have e0 : bX11_extends1_90_L2 m_vl (nI a) w_zV = nI (a + 1) := by rw [bX11_extends1_90_L2, if_neg hc, nI_1]
    have e1 : bX11_extends1_90_zV m_choices m_vl m_vtype m_vd m_vs1 m_vs2 m_sew m_unmasked zO (nI a) w_zV = (pX11_extends1_175_zV m_choices m_vtype m_vd m_vs1 m_vs2 m_sew m_unmasked zO (nI a) w_zV) := by rw [bX11_extends1_90_zV, if_neg hc]
    show LX11_extends1_90 m_choices m_vl m_vtype m_vd m_vs1 m_vs2 m_sew m_unmasked zO n (bX11_extends1_90_L2 m_vl (nI a) w_zV, bX11_extends1_90_zV m_choices m_vl m_vtype m_vd m_vs1 m_vs2 m_sew m_unmasked zO (nI a) w_zV) = _
    rw [e0, e1, itX11_extends1_90 m_choices m_vl m_vtype m_vd m_vs1 m_vs2 m_sew m_unmasked zO h9 hb9 n (a + 1) _ (by omega), show a + (n + 1) = a + 1 + n by omega]; rfl
theorem ktX11_extends1_90 (m_choices : Int64) (m_vl : Int32) (m_vtype : Int32) (m_vd : Int32) (m_vs1 : Int32) (m_vs2 : Int32) (m_sew : Int32) (m_unmasked : Int32) (zO : Nat → Int32) {b9 : Nat} (h9 : m_vl = nI b9) (hb9 : b9 < 2147483648) (I : Nat → (Nat → Int32) → Prop) (hI : ∀ (a : Nat) (w_zV : Nat → Int32), I a (w_zV) → a < b9 → oX11_extends1_90 m_choices m_vl m_vtype m_vd m_vs1 m_vs2 m_sew m_unmasked zO (nI a) w_zV ∧ I (a + 1) ((pX11_extends1_175_zV m_choices m_vtype m_vd m_vs1 m_vs2 m_sew m_unmasked zO (nI a) w_zV))) : ∀ (n a : Nat) (w_zV : Nat → Int32), a + n ≤ b9 → I a (w_zV) → KX11_extends1_90 m_choices m_vl m_vtype m_vd m_vs1 m_vs2 m_sew m_unmasked zO n (nI a, w_zV)
  | 0, a, w_zV, _, _ => True.intro
  | n + 1, a, w_zV, h, hi => by
    have hc : ¬ (m_vl ≤ nI a) := by rw [h9]; exact nI_ge (by omega) hb9
    have e0 : bX11_extends1_90_L2 m_vl (nI a) w_zV = nI (a + 1) := by rw [bX11_extends1_90_L2, if_neg hc, nI_1]
    have e1 : bX11_extends1_90_zV m_choices m_vl m_vtype m_vd m_vs1 m_vs2 m_sew m_unmasked zO (nI a) w_zV = (pX11_extends1_175_zV m_choices m_vtype m_vd m_vs1 m_vs2 m_sew m_unmasked zO (nI a) w_zV) := by rw [bX11_extends1_90_zV, if_neg hc]
    obtain ⟨h1, h2⟩ := hI a w_zV hi (by omega)
    show (tX11_extends1_90 m_vl (nI a) w_zV ∧ oX11_extends1_90 m_choices m_vl m_vtype m_vd m_vs1 m_vs2 m_sew m_unmasked zO (nI a) w_zV) ∧ KX11_extends1_90 m_choices m_vl m_vtype m_vd m_vs1 m_vs2 m_sew m_unmasked zO n (bX11_extends1_90_L2 m_vl (nI a) w_zV, bX11_extends1_90_zV m_choices m_vl m_vtype m_vd m_vs1 m_vs2 m_sew m_unmasked zO (nI a) w_zV)
    refine ⟨⟨by rw [tX11_extends1_90, if_neg hc]; exact True.intro, h1⟩, ?_⟩
    rw [e0, e1]; exact ktX11_extends1_90 m_choices m_vl m_vtype m_vd m_vs1 m_vs2 m_sew m_unmasked zO h9 hb9 I hI n (a + 1) _ (by omega) h2
theorem ntX11_extends1_90 (m_choices : Int64) (m_vl : Int32) (m_vtype : Int32) (m_vd : Int32) (m_vs1 : Int32) (m_vs2 : Int32) (m_sew : Int32) (m_unmasked : Int32) (zO : Nat → Int32) {b9 : Nat} (h9 : m_vl = nI b9) (hb9 : b9 < 2147483648) (w_zV : Nat → Int32) : ¬ tX11_extends1_90 m_vl (nI b9) w_zV := by rw [tX11_extends1_90, if_pos (by rw [h9]; exact Int32.le_refl _)]; exact id
noncomputable def fX11_extends1 (m_vd : Int32) (m_vs1 : Int32) (m_vs2 : Int32) (m_sew : Int32) (m_l8 : Int32) (m_unmasked : Int32) : Int32 := (if (pX11_extends1_43_S1 m_vs1) = (0 : Int32) then (0 : Int32) else (if (fX11_mayBe m_vd m_sew m_l8 m_unmasked m_sew m_vs2 (m_sew / (pX11_extends1_43_S1 m_vs1)) (-1 : Int32) m_sew) = (0 : Int32) then (0 : Int32) else (1 : Int32)))
noncomputable def fX11_extends1__zV (m_choices : Int64) (m_vl : Int32) (m_vtype : Int32) (m_vstart : Int32) (m_vd : Int32) (m_vs1 : Int32) (m_vs2 : Int32) (m_sew : Int32) (m_l8 : Int32) (m_unmasked : Int32) (zV : Nat → Int32) (zO : Nat → Int32) : Nat → Int32 := (if (pX11_extends1_43_S1 m_vs1) = (0 : Int32) then zV else (if (fX11_mayBe m_vd m_sew m_l8 m_unmasked m_sew m_vs2 (m_sew / (pX11_extends1_43_S1 m_vs1)) (-1 : Int32) m_sew) = (0 : Int32) then zV else (if (fX11_goes m_vl m_vstart) = (0 : Int32) then zV else (fX11_tail__zV m_choices m_vtype ((LX11_extends1_90 m_choices m_vl m_vtype m_vd m_vs1 m_vs2 m_sew m_unmasked zO (cnt m_vstart m_vl) (m_vstart, zV)).2) m_vd m_sew m_l8 m_vl))))
noncomputable def okX11_extends1 (m_choices : Int64) (m_vl : Int32) (m_vtype : Int32) (m_vstart : Int32) (m_vd : Int32) (m_vs1 : Int32) (m_vs2 : Int32) (m_sew : Int32) (m_l8 : Int32) (m_unmasked : Int32) (zV : Nat → Int32) (zO : Nat → Int32) : Prop := (¬ ((pX11_extends1_43_S1 m_vs1) = (0 : Int32)) → ¬ (pX11_extends1_43_S1 m_vs1) = 0) ∧ (¬ ((pX11_extends1_43_S1 m_vs1) = (0 : Int32)) → okX11_mayBe m_vd m_sew m_l8 m_unmasked m_sew m_vs2 (m_sew / (pX11_extends1_43_S1 m_vs1)) (-1 : Int32) m_sew) ∧ (¬ ((pX11_extends1_43_S1 m_vs1) = (0 : Int32)) → ¬ ((fX11_mayBe m_vd m_sew m_l8 m_unmasked m_sew m_vs2 (m_sew / (pX11_extends1_43_S1 m_vs1)) (-1 : Int32) m_sew) = (0 : Int32)) → ¬ ((fX11_goes m_vl m_vstart) = (0 : Int32)) → KX11_extends1_90 m_choices m_vl m_vtype m_vd m_vs1 m_vs2 m_sew m_unmasked zO (cnt m_vstart m_vl) (m_vstart, zV)) ∧ (¬ ((pX11_extends1_43_S1 m_vs1) = (0 : Int32)) → ¬ ((fX11_mayBe m_vd m_sew m_l8 m_unmasked m_sew m_vs2 (m_sew / (pX11_extends1_43_S1 m_vs1)) (-1 : Int32) m_sew) = (0 : Int32)) → ¬ ((fX11_goes m_vl m_vstart) = (0 : Int32)) → ¬ (tX11_extends1_90 m_vl ((LX11_extends1_90 m_choices m_vl m_vtype m_vd m_vs1 m_vs2 m_sew m_unmasked zO (cnt m_vstart m_vl) (m_vstart, zV)).1) ((LX11_extends1_90 m_choices m_vl m_vtype m_vd m_vs1 m_vs2 m_sew m_unmasked zO (cnt m_vstart m_vl) (m_vstart, zV)).2))) ∧ (¬ ((pX11_extends1_43_S1 m_vs1) = (0 : Int32)) → ¬ ((fX11_mayBe m_vd m_sew m_l8 m_unmasked m_sew m_vs2 (m_sew / (pX11_extends1_43_S1 m_vs1)) (-1 : Int32) m_sew) = (0 : Int32)) → ¬ ((fX11_goes m_vl m_vstart) = (0 : Int32)) → (m_vl ≤ (LX11_extends1_90 m_choices m_vl m_vtype m_vd m_vs1 m_vs2 m_sew m_unmasked zO (cnt m_vstart m_vl) (m_vstart, zV)).1) → okX11_tail m_choices m_vtype ((LX11_extends1_90 m_choices m_vl m_vtype m_vd m_vs1 m_vs2 m_sew m_unmasked zO (cnt m_vstart m_vl) (m_vstart, zV)).2) m_vd m_sew m_l8 m_vl) ∧ (¬ ((pX11_extends1_43_S1 m_vs1) = (0 : Int32)) → ¬ ((fX11_mayBe m_vd m_sew m_l8 m_unmasked m_sew m_vs2 (m_sew / (pX11_extends1_43_S1 m_vs1)) (-1 : Int32) m_sew) = (0 : Int32)) → ¬ ((fX11_goes m_vl m_vstart) = (0 : Int32)) → ¬ (m_vl ≤ (LX11_extends1_90 m_choices m_vl m_vtype m_vd m_vs1 m_vs2 m_sew m_unmasked zO (cnt m_vstart m_vl) (m_vstart, zV)).1) → okX11_isActive m_unmasked ((LX11_extends1_90 m_choices m_vl m_vtype m_vd m_vs1 m_vs2 m_sew m_unmasked zO (cnt m_vstart m_vl) (m_vstart, zV)).1)) ∧ (¬ ((pX11_extends1_43_S1 m_vs1) = (0 : Int32)) → ¬ ((fX11_mayBe m_vd m_sew m_l8 m_unmasked m_sew m_vs2 (m_sew / (pX11_extends1_43_S1 m_vs1)) (-1 : Int32) m_sew) = (0 : Int32)) → ¬ ((fX11_goes m_vl m_vstart) = (0 : Int32)) → ¬ (m_vl ≤ (LX11_extends1_90 m_choices m_vl m_vtype m_vd m_vs1 m_vs2 m_sew m_unmasked zO (cnt m_vstart m_vl) (m_vstart, zV)).1) → ((fX11_isActive m_unmasked zO ((LX11_extends1_90 m_choices m_vl m_vtype m_vd m_vs1 m_vs2 m_sew m_unmasked zO (cnt m_vstart m_vl) (m_vstart, zV)).1)) = (0 : Int32)) → okX11_masked m_choices m_vtype ((LX11_extends1_90 m_choices m_vl m_vtype m_vd m_vs1 m_vs2 m_sew m_unmasked zO (cnt m_vstart m_vl) (m_vstart, zV)).2) m_vd m_sew ((LX11_extends1_90 m_choices m_vl m_vtype m_vd m_vs1 m_vs2 m_sew m_unmasked zO (cnt m_vstart m_vl) (m_vstart, zV)).1)) ∧ (¬ ((pX11_extends1_43_S1 m_vs1) = (0 : Int32)) → ¬ ((fX11_mayBe m_vd m_sew m_l8 m_unmasked m_sew m_vs2 (m_sew / (pX11_extends1_43_S1 m_vs1)) (-1 : Int32) m_sew) = (0 : Int32)) → ¬ ((fX11_goes m_vl m_vstart) = (0 : Int32)) → ¬ (m_vl ≤ (LX11_extends1_90 m_choices m_vl m_vtype m_vd m_vs1 m_vs2 m_sew m_unmasked zO (cnt m_vstart m_vl) (m_vstart, zV)).1) → ¬ ((fX11_isActive m_unmasked zO ((LX11_extends1_90 m_choices m_vl m_vtype m_vd m_vs1 m_vs2 m_sew m_unmasked zO (cnt m_vstart m_vl) (m_vstart, zV)).1)) = (0 : Int32)) → ¬ (pX11_extends1_43_S1 m_vs1) = 0) ∧ (¬ ((pX11_extends1_43_S1 m_vs1) = (0 : Int32)) → ¬ ((fX11_mayBe m_vd m_sew m_l8 m_unmasked m_sew m_vs2 (m_sew / (pX11_extends1_43_S1 m_vs1)) (-1 : Int32) m_sew) = (0 : Int32)) → ¬ ((fX11_goes m_vl m_vstart) = (0 : Int32)) → ¬ (m_vl ≤ (LX11_extends1_90 m_choices m_vl m_vtype m_vd m_vs1 m_vs2 m_sew m_unmasked zO (cnt m_vstart m_vl) (m_vstart, zV)).1) → ¬ ((fX11_isActive m_unmasked zO ((LX11_extends1_90 m_choices m_vl m_vtype m_vd m_vs1 m_vs2 m_sew m_unmasked zO (cnt m_vstart m_vl) (m_vstart, zV)).1)) = (0 : Int32)) → okX11_get zO m_vs2 (m_sew / (pX11_extends1_43_S1 m_vs1)) ((LX11_extends1_90 m_choices m_vl m_vtype m_vd m_vs1 m_vs2 m_sew m_unmasked zO (cnt m_vstart m_vl) (m_vstart, zV)).1)) ∧ (¬ ((pX11_extends1_43_S1 m_vs1) = (0 : Int32)) → ¬ ((fX11_mayBe m_vd m_sew m_l8 m_unmasked m_sew m_vs2 (m_sew / (pX11_extends1_43_S1 m_vs1)) (-1 : Int32) m_sew) = (0 : Int32)) → ¬ ((fX11_goes m_vl m_vstart) = (0 : Int32)) → ¬ (m_vl ≤ (LX11_extends1_90 m_choices m_vl m_vtype m_vd m_vs1 m_vs2 m_sew m_unmasked zO (cnt m_vstart m_vl) (m_vstart, zV)).1) → ¬ ((fX11_isActive m_unmasked zO ((LX11_extends1_90 m_choices m_vl m_vtype m_vd m_vs1 m_vs2 m_sew m_unmasked zO (cnt m_vstart m_vl) (m_vstart, zV)).1)) = (0 : Int32)) → ((m_vs1 &&& (1 : Int32)) = (1 : Int32)) → ¬ (pX11_extends1_43_S1 m_vs1) = 0) ∧ (¬ ((pX11_extends1_43_S1 m_vs1) = (0 : Int32)) → ¬ ((fX11_mayBe m_vd m_sew m_l8 m_unmasked m_sew m_vs2 (m_sew / (pX11_extends1_43_S1 m_vs1)) (-1 : Int32) m_sew) = (0 : Int32)) → ¬ ((fX11_goes m_vl m_vstart) = (0 : Int32)) → ¬ (m_vl ≤ (LX11_extends1_90 m_choices m_vl m_vtype m_vd m_vs1 m_vs2 m_sew m_unmasked zO (cnt m_vstart m_vl) (m_vstart, zV)).1) → ¬ ((fX11_isActive m_unmasked zO ((LX11_extends1_90 m_choices m_vl m_vtype m_vd m_vs1 m_vs2 m_sew m_unmasked zO (cnt m_vstart m_vl) (m_vstart, zV)).1)) = (0 : Int32)) → okX11_put ((LX11_extends1_90 m_choices m_vl m_vtype m_vd m_vs1 m_vs2 m_sew m_unmasked zO (cnt m_vstart m_vl) (m_vstart, zV)).2) m_vd m_sew ((LX11_extends1_90 m_choices m_vl m_vtype m_vd m_vs1 m_vs2 m_sew m_unmasked zO (cnt m_vstart m_vl) (m_vstart, zV)).1) (pX11_extends1_172_S5 m_vs1 m_vs2 m_sew zO ((LX11_extends1_90 m_choices m_vl m_vtype m_vd m_vs1 m_vs2 m_sew m_unmasked zO (cnt m_vstart m_vl) (m_vstart, zV)).1)))
theorem zX11_extends1 (m_vd : Int32) (m_vs1 : Int32) (m_vs2 : Int32) (m_sew : Int32) (m_l8 : Int32) (m_unmasked : Int32) : narrow .boolean (.int (fX11_extends1 m_vd m_vs1 m_vs2 m_sew m_l8 m_unmasked)) = .int (fX11_extends1 m_vd m_vs1 m_vs2 m_sew m_l8 m_unmasked) := by unfold fX11_extends1; exact (kzi rfl (kzi rfl rfl))
set_option maxRecDepth 100000 in
set_option maxHeartbeats 4000000 in
theorem kX11_extends1 (l : Launch) (D : va_G) (kI kZ : ClassId) (b_m : Nat) (b_zX : Nat) (b_zV : Nat) (b_zO : Nat) (m_thrown : Int32) (m_memory : Nat) (m_shut : Nat) (m_choices : Int64) (m_vl : Int32) (m_vtype : Int32) (m_vstart : Int32) (m_vxrm : Int32) (m_vxsat : Int32) (m_done : Int32) (m_illegal : Int32) (m_traps : Int32) (m_trapAddress : Int32) (m_word : Int32) (m_vd : Int32) (m_vs1 : Int32) (m_vs2 : Int32) (m_f3 : Int32) (m_f6 : Int32) (m_sew : Int32) (m_l8 : Int32) (m_unmasked : Int32) (zX : Nat → Int32) (zV : Nat → Int32) (zO : Nat → Int32) (hok : okX11_extends1 m_choices m_vl m_vtype m_vstart m_vd m_vs1 m_vs2 m_sew m_l8 m_unmasked zV zO) : kM l yX11_extends1 cX11_extends1 5 (some .boolean) 4 63 0 0 D [(kI, .int), (kZ, .boolean)] [.ref b_m] [(b_m, .inr (10, [.int m_thrown, .ref b_zX, .ref b_zV, .ref b_zO, .ref m_memory, .ref m_shut, .long m_choices, .int m_vl, .int m_vtype, .int m_vstart, .int m_vxrm, .int m_vxsat, .int m_done, .int m_illegal, .int m_traps, .int m_trapAddress, .int m_word, .int m_vd, .int m_vs1, .int m_vs2, .int m_f3, .int m_f6, .int m_sew, .int m_l8, .int m_unmasked])), (b_zX, .inl (kI, 32, .inl zX)), (b_zV, .inl (kI, 512, .inl zV)), (b_zO, .inl (kI, 512, .inl zO))] (some (.int (fX11_extends1 m_vd m_vs1 m_vs2 m_sew m_l8 m_unmasked))) [(b_m, .inr (10, [.int m_thrown, .ref b_zX, .ref b_zV, .ref b_zO, .ref m_memory, .ref m_shut, .long m_choices, .int m_vl, .int m_vtype, .int m_vstart, .int m_vxrm, .int m_vxsat, .int m_done, .int m_illegal, .int m_traps, .int m_trapAddress, .int m_word, .int m_vd, .int m_vs1, .int m_vs2, .int m_f3, .int m_f6, .int m_sew, .int m_l8, .int m_unmasked])), (b_zX, .inl (kI, 32, .inl zX)), (b_zV, .inl (kI, 512, .inl (fX11_extends1__zV m_choices m_vl m_vtype m_vstart m_vd m_vs1 m_vs2 m_sew m_l8 m_unmasked zV zO))), (b_zO, .inl (kI, 512, .inl zO))] := by
  refine kM.of (by decide) rfl ?_
  intro p e R s m args below meth c A X _ _ hRt hLk
  refine k_sub [0] (lv' := [(0, .ref b_m)]) rfl ?_
  unfold okX11_extends1 at hok
  refine k_aload_n X dX11_extends1_0 rfl 0 rfl rfl ?_
  refine k_get X i_wsX110 0 18 q27_5 rfl rfl rfl rfl rfl dX11_extends1_1 rfl ?_
  refine k_iconst X dX11_extends1_4 kc_i_4 rfl ?_
  refine k_mid2 [(b_m, .inr (10, [.int m_thrown, .ref b_zX, .ref b_zV, .ref b_zO, .ref m_memory, .ref m_shut, .long m_choices, .int m_vl, .int m_vtype, .int m_vstart, .int m_vxrm, .int m_vxsat, .int m_done, .int m_illegal, .int m_traps, .int m_trapAddress, .int m_word, .int m_vd, .int m_vs1, .int m_vs2, .int m_f3, .int m_f6, .int m_sew, .int m_l8, .int m_unmasked])), (b_zX, .inl (kI, 32, .inl zX)), (b_zV, .inl (kI, 512, .inl zV)), (b_zO, .inl (kI, 512, .inl zO))] [(0, .ref b_m)] [.int (pX11_extends1_43_S1 m_vs1)] 43 (fun hJ5 => ?_) ?_
  · skip
    refine k_icmp_eq (tgt := 16) X dX11_extends1_5 (by decide) rfl (fun c1 => ?_) (fun c1 => ?_)
    · skip
      refine k_iconst X dX11_extends1_16 kc_i_4 rfl ?_
      refine k_goto (tgt := 43) X dX11_extends1_17 (by decide) ?_
      have e19 : (pX11_extends1_43_S1 m_vs1) = (4 : Int32) := by rw [pX11_extends1_43_S1, if_pos c1]
      rw [e19] at hJ5
      exact k_sub [0] rfl hJ5
    refine k_aload_n X dX11_extends1_8 rfl 0 rfl rfl ?_
    refine k_get X i_wsX110 0 18 q27_5 rfl rfl rfl rfl rfl dX11_extends1_9 rfl ?_
    refine k_iconst X dX11_extends1_12 kc_i_5 rfl ?_
    refine k_icmp_ne (tgt := 20) X dX11_extends1_13 (by decide) rfl (fun c2 => ?_) (fun c2 => ?_)
    · skip
      refine k_iconst X dX11_extends1_16 kc_i_4 rfl ?_
      refine k_goto (tgt := 43) X dX11_extends1_17 (by decide) ?_
      have e20 : (pX11_extends1_43_S1 m_vs1) = (4 : Int32) := by rw [pX11_extends1_43_S1, if_neg c1, if_pos c2]
      rw [e20] at hJ5
      exact k_sub [0] rfl hJ5
    refine k_aload_n X dX11_extends1_20 rfl 0 rfl rfl ?_
    refine k_get X i_wsX110 0 18 q27_5 rfl rfl rfl rfl rfl dX11_extends1_21 rfl ?_
    refine k_bipush X dX11_extends1_24 kc_b_6 rfl ?_
    refine k_icmp_eq (tgt := 38) X dX11_extends1_26 (by decide) rfl (fun c3 => ?_) (fun c3 => ?_)
    · skip
      refine k_iconst X dX11_extends1_38 kc_i_2 rfl ?_
      refine k_goto (tgt := 43) X dX11_extends1_39 (by decide) ?_
      have e21 : (pX11_extends1_43_S1 m_vs1) = (2 : Int32) := by rw [pX11_extends1_43_S1, if_neg c1, if_neg c2, if_pos c3]
      rw [e21] at hJ5
      exact k_sub [0] rfl hJ5
    refine k_aload_n X dX11_extends1_29 rfl 0 rfl rfl ?_
    refine k_get X i_wsX110 0 18 q27_5 rfl rfl rfl rfl rfl dX11_extends1_30 rfl ?_
    refine k_bipush X dX11_extends1_33 kc_b_7 rfl ?_
    refine k_icmp_ne (tgt := 42) X dX11_extends1_35 (by decide) rfl (fun c4 => ?_) (fun c4 => ?_)
    · skip
      refine k_iconst X dX11_extends1_38 kc_i_2 rfl ?_
      refine k_goto (tgt := 43) X dX11_extends1_39 (by decide) ?_
      have e22 : (pX11_extends1_43_S1 m_vs1) = (2 : Int32) := by rw [pX11_extends1_43_S1, if_neg c1, if_neg c2, if_neg c3, if_pos c4]
      rw [e22] at hJ5
      exact k_sub [0] rfl hJ5
    refine k_iconst X dX11_extends1_42 kc_i_0 rfl ?_
    have e23 : (pX11_extends1_43_S1 m_vs1) = (0 : Int32) := by rw [pX11_extends1_43_S1, if_neg c1, if_neg c2, if_neg c3, if_neg c4]
    rw [e23] at hJ5
    exact k_sub [0] rfl hJ5
  refine k_istore_n (lv' := [(1, .int (pX11_extends1_43_S1 m_vs1)), (0, .ref b_m)]) X dX11_extends1_43 rfl rfl rfl rfl ?_
  refine k_iload_n X dX11_extends1_44 rfl 0 rfl rfl ?_
  refine k_if_eq (tgt := 74) X dX11_extends1_45 (by decide) rfl (fun c6 => ?_) (fun c6 => ?_)
  · skip
    refine k_iconst X dX11_extends1_74 kc_i_0 rfl ?_
    have e24 : (fX11_extends1 m_vd m_vs1 m_vs2 m_sew m_l8 m_unmasked) = (0 : Int32) := by rw [fX11_extends1, if_pos c6]
    have e25 : (fX11_extends1__zV m_choices m_vl m_vtype m_vstart m_vd m_vs1 m_vs2 m_sew m_l8 m_unmasked zV zO) = zV := by rw [fX11_extends1__zV, if_pos c6]
    exact k_zret9 X hRt hLk rfl e24.symm (by rw [e25]) dX11_extends1_75
  refine k_aload_n X dX11_extends1_48 rfl 1 rfl rfl ?_
  refine k_aload_n X dX11_extends1_49 rfl 1 rfl rfl ?_
  refine k_get X i_wsX110 0 22 q27_9 rfl rfl rfl rfl rfl dX11_extends1_50 rfl ?_
  refine k_aload_n X dX11_extends1_53 rfl 1 rfl rfl ?_
  refine k_get X i_wsX110 0 19 q27_6 rfl rfl rfl rfl rfl dX11_extends1_54 rfl ?_
  refine k_aload_n X dX11_extends1_57 rfl 1 rfl rfl ?_
  refine k_get X i_wsX110 0 22 q27_9 rfl rfl rfl rfl rfl dX11_extends1_58 rfl ?_
  refine k_iload_n X dX11_extends1_61 rfl 0 rfl rfl ?_
  refine k_idiv X dX11_extends1_62 (hok.1 c6) rfl ?_
  refine k_iconst X dX11_extends1_63 kc_i_m1 rfl ?_
  refine k_aload_n X dX11_extends1_64 rfl 1 rfl rfl ?_
  refine k_get X i_wsX110 0 22 q27_9 rfl rfl rfl rfl rfl dX11_extends1_65 rfl ?_
  refine k_cV1 (st := []) (ws' := [(b_m, .inr (10, [.int m_thrown, .ref b_zX, .ref b_zV, .ref b_zO, .ref m_memory, .ref m_shut, .long m_choices, .int m_vl, .int m_vtype, .int m_vstart, .int m_vxrm, .int m_vxsat, .int m_done, .int m_illegal, .int m_traps, .int m_trapAddress, .int m_word, .int m_vd, .int m_vs1, .int m_vs2, .int m_f3, .int m_f6, .int m_sew, .int m_l8, .int m_unmasked])), (b_zX, .inl (kI, 32, .inl zX)), (b_zV, .inl (kI, 512, .inl zV)), (b_zO, .inl (kI, 512, .inl zO))]) (wr := [(b_zX, .inl (kI, 32, .inl zX)), (b_zV, .inl (kI, 512, .inl zV)), (b_zO, .inl (kI, 512, .inl zO))]) (ci := 10) (q9 := 0) X [.int m_sew, .int m_vs2, .int (m_sew / (pX11_extends1_43_S1 m_vs1)), .int (-1 : Int32), .int m_sew] 0 [0] [1, 2, 3] [3, 0, 1, 2] (kX11_mayBe l D kI kZ b_m m_thrown b_zX b_zV b_zO m_memory m_shut m_choices m_vl m_vtype m_vstart m_vxrm m_vxsat m_done m_illegal m_traps m_trapAddress m_word m_vd m_vs1 m_vs2 m_f3 m_f6 m_sew m_l8 m_unmasked m_sew m_vs2 (m_sew / (pX11_extends1_43_S1 m_vs1)) (-1 : Int32) m_sew (hok.2.1 c6)) vX11_mayBe q29_21 dX11_extends1_68 rfl rfl rfl rfl rfl rfl rfl rfl rfl rfl rfl rfl rfl rfl rfl ?_
  refine k_if_ne (tgt := 76) X dX11_extends1_71 (by decide) rfl (fun c7 => ?_) (fun c7 => ?_)
  · skip
    refine k_iconst X dX11_extends1_74 kc_i_0 rfl ?_
    have e26 : (fX11_extends1 m_vd m_vs1 m_vs2 m_sew m_l8 m_unmasked) = (0 : Int32) := by rw [fX11_extends1, if_neg c6, if_pos c7]
    have e27 : (fX11_extends1__zV m_choices m_vl m_vtype m_vstart m_vd m_vs1 m_vs2 m_sew m_l8 m_unmasked zV zO) = zV := by rw [fX11_extends1__zV, if_neg c6, if_pos c7]
    exact k_zret9 X hRt hLk rfl e26.symm (by rw [e27]) dX11_extends1_75
  refine k_aload_n X dX11_extends1_76 rfl 1 rfl rfl ?_
  refine k_cV1 (st := []) (ws' := [(b_m, .inr (10, [.int m_thrown, .ref b_zX, .ref b_zV, .ref b_zO, .ref m_memory, .ref m_shut, .long m_choices, .int m_vl, .int m_vtype, .int m_vstart, .int m_vxrm, .int m_vxsat, .int m_done, .int m_illegal, .int m_traps, .int m_trapAddress, .int m_word, .int m_vd, .int m_vs1, .int m_vs2, .int m_f3, .int m_f6, .int m_sew, .int m_l8, .int m_unmasked])), (b_zX, .inl (kI, 32, .inl zX)), (b_zV, .inl (kI, 512, .inl zV)), (b_zO, .inl (kI, 512, .inl zO))]) (wr := [(b_zX, .inl (kI, 32, .inl zX)), (b_zV, .inl (kI, 512, .inl zV)), (b_zO, .inl (kI, 512, .inl zO))]) (ci := 10) (q9 := 0) X [] 0 [0] [1, 2, 3] [3, 0, 1, 2] (kX11_goes l D kI kZ b_m m_thrown b_zX b_zV b_zO m_memory m_shut m_choices m_vl m_vtype m_vstart m_vxrm m_vxsat m_done m_illegal m_traps m_trapAddress m_word m_vd m_vs1 m_vs2 m_f3 m_f6 m_sew m_l8 m_unmasked) vX11_goes q31_2 dX11_extends1_77 rfl rfl rfl rfl rfl rfl rfl rfl rfl rfl rfl rfl rfl rfl rfl ?_
  refine k_if_ne (tgt := 85) X dX11_extends1_80 (by decide) rfl (fun c8 => ?_) (fun c8 => ?_)
  · skip
    refine k_iconst X dX11_extends1_83 kc_i_1 rfl ?_
    have e28 : (fX11_extends1 m_vd m_vs1 m_vs2 m_sew m_l8 m_unmasked) = (1 : Int32) := by rw [fX11_extends1, if_neg c6, if_neg c7]
    have e29 : (fX11_extends1__zV m_choices m_vl m_vtype m_vstart m_vd m_vs1 m_vs2 m_sew m_l8 m_unmasked zV zO) = zV := by rw [fX11_extends1__zV, if_neg c6, if_neg c7, if_pos c8]
    exact k_zret9 X hRt hLk rfl e28.symm (by rw [e29]) dX11_extends1_84
  refine k_aload_n X dX11_extends1_85 rfl 1 rfl rfl ?_
  refine k_get X i_wsX110 0 9 q27_14 rfl rfl rfl rfl rfl dX11_extends1_86 rfl ?_
  refine k_istore_n (lv' := [(2, .int m_vstart), (1, .int (pX11_extends1_43_S1 m_vs1)), (0, .ref b_m)]) X dX11_extends1_89 rfl rfl rfl rfl ?_
  refine k_sub [2, 1, 0] (lv' := [(0, .ref b_m), (1, .int (pX11_extends1_43_S1 m_vs1)), (2, .int m_vstart)]) rfl ?_
  refine k_loop (KX11_extends1_90 m_choices m_vl m_vtype m_vd m_vs1 m_vs2 m_sew m_unmasked zO) (LX11_extends1_90 m_choices m_vl m_vtype m_vd m_vs1 m_vs2 m_sew m_unmasked zO) (fun s9 => (bX11_extends1_90_L2 m_vl s9.1 s9.2, bX11_extends1_90_zV m_choices m_vl m_vtype m_vd m_vs1 m_vs2 m_sew m_unmasked zO s9.1 s9.2)) (fun s9 => tX11_extends1_90 m_vl s9.1 s9.2 ∧ oX11_extends1_90 m_choices m_vl m_vtype m_vd m_vs1 m_vs2 m_sew m_unmasked zO s9.1 s9.2) (fun s9 => [(b_m, .inr (10, [.int m_thrown, .ref b_zX, .ref b_zV, .ref b_zO, .ref m_memory, .ref m_shut, .long m_choices, .int m_vl, .int m_vtype, .int m_vstart, .int m_vxrm, .int m_vxsat, .int m_done, .int m_illegal, .int m_traps, .int m_trapAddress, .int m_word, .int m_vd, .int m_vs1, .int m_vs2, .int m_f3, .int m_f6, .int m_sew, .int m_l8, .int m_unmasked])), (b_zX, .inl (kI, 32, .inl zX)), (b_zV, .inl (kI, 512, .inl s9.2)), (b_zO, .inl (kI, 512, .inl zO))]) (fun s9 => [(0, .ref b_m), (1, .int (pX11_extends1_43_S1 m_vs1)), (2, .int s9.1)]) 90 (fun _ => rfl) (fun _ _ => rfl) (fun _ _ h => h) ?_ (cnt m_vstart m_vl) (m_vstart, zV) (hok.2.2.1 c6 c7 c8) ?_
  · rintro ⟨w_L2, w_zV⟩ ⟨hlat, hob⟩ g0
    try dsimp only at hlat hob g0 ⊢
    unfold oX11_extends1_90 at hob
    refine k_iload_n X dX11_extends1_90 rfl 2 rfl rfl ?_
    refine k_aload_n X dX11_extends1_91 rfl 0 rfl rfl ?_
    refine k_get X i_wsX110 0 7 q28_7 rfl rfl rfl rfl rfl dX11_extends1_92 rfl ?_
    refine k_icmp_ge (tgt := 181) X dX11_extends1_95 (by decide) rfl (fun c9 => ?_) (fun c9 => ?_)
    · skip
      exact absurd hlat (by rw [tX11_extends1_90, if_pos c9]; exact id)
    refine k_aload_n X dX11_extends1_98 rfl 0 rfl rfl ?_
    refine k_iload_n X dX11_extends1_99 rfl 2 rfl rfl ?_
    refine k_cV1 (st := []) (ws' := [(b_m, .inr (10, [.int m_thrown, .ref b_zX, .ref b_zV, .ref b_zO, .ref m_memory, .ref m_shut, .long m_choices, .int m_vl, .int m_vtype, .int m_vstart, .int m_vxrm, .int m_vxsat, .int m_done, .int m_illegal, .int m_traps, .int m_trapAddress, .int m_word, .int m_vd, .int m_vs1, .int m_vs2, .int m_f3, .int m_f6, .int m_sew, .int m_l8, .int m_unmasked])), (b_zX, .inl (kI, 32, .inl zX)), (b_zV, .inl (kI, 512, .inl w_zV)), (b_zO, .inl (kI, 512, .inl zO))]) (wr := [(b_zX, .inl (kI, 32, .inl zX)), (b_zV, .inl (kI, 512, .inl w_zV))]) (ci := 10) (q9 := 0) X [.int w_L2] 0 [0, 3] [1, 2] [2, 0, 1, 3] (kX11_isActive l D kI kZ b_m b_zO m_thrown b_zX b_zV m_memory m_shut m_choices m_vl m_vtype m_vstart m_vxrm m_vxsat m_done m_illegal m_traps m_trapAddress m_word m_vd m_vs1 m_vs2 m_f3 m_f6 m_sew m_l8 m_unmasked zO w_L2 (hob.1 c9)) vX11_isActive q31_6 dX11_extends1_100 rfl rfl rfl rfl rfl rfl rfl rfl rfl rfl rfl rfl rfl rfl rfl ?_
    refine k_mid2 [(b_m, .inr (10, [.int m_thrown, .ref b_zX, .ref b_zV, .ref b_zO, .ref m_memory, .ref m_shut, .long m_choices, .int m_vl, .int m_vtype, .int m_vstart, .int m_vxrm, .int m_vxsat, .int m_done, .int m_illegal, .int m_traps, .int m_trapAddress, .int m_word, .int m_vd, .int m_vs1, .int m_vs2, .int m_f3, .int m_f6, .int m_sew, .int m_l8, .int m_unmasked])), (b_zX, .inl (kI, 32, .inl zX)), (b_zV, .inl (kI, 512, .inl (pX11_extends1_175_zV m_choices m_vtype m_vd m_vs1 m_vs2 m_sew m_unmasked zO w_L2 w_zV))), (b_zO, .inl (kI, 512, .inl zO))] [(0, .ref b_m), (1, .int (pX11_extends1_43_S1 m_vs1)), (2, .int w_L2)] [] 175 (fun hJ13 => ?_) ?_
    · skip
      refine k_if_ne (tgt := 122) X dX11_extends1_103 (by decide) rfl (fun c10 => ?_) (fun c10 => ?_)
      · skip
        refine k_aload_n X dX11_extends1_106 rfl 0 rfl rfl ?_
        refine k_aload_n X dX11_extends1_107 rfl 0 rfl rfl ?_
        refine k_get X i_wsX110 0 17 q27_3 rfl rfl rfl rfl rfl dX11_extends1_108 rfl ?_
        refine k_aload_n X dX11_extends1_111 rfl 0 rfl rfl ?_
        refine k_get X i_wsX110 0 22 q27_9 rfl rfl rfl rfl rfl dX11_extends1_112 rfl ?_
        refine k_iload_n X dX11_extends1_115 rfl 2 rfl rfl ?_
        refine k_cV0 (st := []) (ws' := [(b_m, .inr (10, [.int m_thrown, .ref b_zX, .ref b_zV, .ref b_zO, .ref m_memory, .ref m_shut, .long m_choices, .int m_vl, .int m_vtype, .int m_vstart, .int m_vxrm, .int m_vxsat, .int m_done, .int m_illegal, .int m_traps, .int m_trapAddress, .int m_word, .int m_vd, .int m_vs1, .int m_vs2, .int m_f3, .int m_f6, .int m_sew, .int m_l8, .int m_unmasked])), (b_zX, .inl (kI, 32, .inl zX)), (b_zV, .inl (kI, 512, .inl (fX11_masked__zV m_choices m_vtype w_zV m_vd m_sew w_L2))), (b_zO, .inl (kI, 512, .inl zO))]) (wr := [(b_zX, .inl (kI, 32, .inl zX)), (b_zO, .inl (kI, 512, .inl zO))]) (ci := 10) (q9 := 0) X [.int m_vd, .int m_sew, .int w_L2] 0 [0, 2] [1, 3] [2, 0, 3, 1] (kX11_masked l D kI kZ b_m b_zV m_thrown b_zX b_zO m_memory m_shut m_choices m_vl m_vtype m_vstart m_vxrm m_vxsat m_done m_illegal m_traps m_trapAddress m_word m_vd m_vs1 m_vs2 m_f3 m_f6 m_sew m_l8 m_unmasked w_zV m_vd m_sew w_L2 (hob.2.1 c9 c10)) vX11_masked q31_14 dX11_extends1_116 rfl rfl rfl rfl rfl rfl rfl rfl rfl rfl rfl rfl rfl rfl rfl ?_
        refine k_goto (tgt := 175) X dX11_extends1_119 (by decide) ?_
        have e30 : (pX11_extends1_175_zV m_choices m_vtype m_vd m_vs1 m_vs2 m_sew m_unmasked zO w_L2 w_zV) = (fX11_masked__zV m_choices m_vtype w_zV m_vd m_sew w_L2) := by rw [pX11_extends1_175_zV, if_pos c10]
        rw [e30] at hJ13
        exact k_sub [0, 1, 2] rfl hJ13
      refine k_aload_n X dX11_extends1_122 rfl 0 rfl rfl ?_
      refine k_aload_n X dX11_extends1_123 rfl 0 rfl rfl ?_
      refine k_get X i_wsX110 0 19 q27_6 rfl rfl rfl rfl rfl dX11_extends1_124 rfl ?_
      refine k_aload_n X dX11_extends1_127 rfl 0 rfl rfl ?_
      refine k_get X i_wsX110 0 22 q27_9 rfl rfl rfl rfl rfl dX11_extends1_128 rfl ?_
      refine k_iload_n X dX11_extends1_131 rfl 1 rfl rfl ?_
      refine k_idiv X dX11_extends1_132 (hob.2.2.1 c9 c10) rfl ?_
      refine k_iload_n X dX11_extends1_133 rfl 2 rfl rfl ?_
      refine k_cV1 (st := []) (ws' := [(b_m, .inr (10, [.int m_thrown, .ref b_zX, .ref b_zV, .ref b_zO, .ref m_memory, .ref m_shut, .long m_choices, .int m_vl, .int m_vtype, .int m_vstart, .int m_vxrm, .int m_vxsat, .int m_done, .int m_illegal, .int m_traps, .int m_trapAddress, .int m_word, .int m_vd, .int m_vs1, .int m_vs2, .int m_f3, .int m_f6, .int m_sew, .int m_l8, .int m_unmasked])), (b_zX, .inl (kI, 32, .inl zX)), (b_zV, .inl (kI, 512, .inl w_zV)), (b_zO, .inl (kI, 512, .inl zO))]) (wr := [(b_zX, .inl (kI, 32, .inl zX)), (b_zV, .inl (kI, 512, .inl w_zV))]) (ci := 10) (q9 := 0) X [.int m_vs2, .int (m_sew / (pX11_extends1_43_S1 m_vs1)), .int w_L2] 0 [0, 3] [1, 2] [2, 0, 1, 3] (kX11_get l D kI kZ b_m b_zO m_thrown b_zX b_zV m_memory m_shut m_choices m_vl m_vtype m_vstart m_vxrm m_vxsat m_done m_illegal m_traps m_trapAddress m_word m_vd m_vs1 m_vs2 m_f3 m_f6 m_sew m_l8 m_unmasked zO m_vs2 (m_sew / (pX11_extends1_43_S1 m_vs1)) w_L2 (hob.2.2.2.1 c9 c10)) vX11_get q32_21 dX11_extends1_134 rfl rfl rfl rfl rfl rfl rfl rfl rfl rfl rfl rfl rfl rfl rfl ?_
      refine k_lstore_n (lv' := [(3, .long (fX11_get zO m_vs2 (m_sew / (pX11_extends1_43_S1 m_vs1)) w_L2)), (0, .ref b_m), (1, .int (pX11_extends1_43_S1 m_vs1)), (2, .int w_L2)]) X dX11_extends1_137 rfl rfl rfl rfl ?_
      refine k_aload_n X dX11_extends1_138 rfl 1 rfl rfl ?_
      refine k_aload_n X dX11_extends1_139 rfl 1 rfl rfl ?_
      refine k_get X i_wsX110 0 17 q27_3 rfl rfl rfl rfl rfl dX11_extends1_140 rfl ?_
      refine k_aload_n X dX11_extends1_143 rfl 1 rfl rfl ?_
      refine k_get X i_wsX110 0 22 q27_9 rfl rfl rfl rfl rfl dX11_extends1_144 rfl ?_
      refine k_iload_n X dX11_extends1_147 rfl 3 rfl rfl ?_
      refine k_aload_n X dX11_extends1_148 rfl 1 rfl rfl ?_
      refine k_get X i_wsX110 0 18 q27_5 rfl rfl rfl rfl rfl dX11_extends1_149 rfl ?_
      refine k_iconst X dX11_extends1_152 kc_i_1 rfl ?_
      refine k_iand X dX11_extends1_153 rfl ?_
      refine k_iconst X dX11_extends1_154 kc_i_1 rfl ?_
      refine k_mid2 [(b_m, .inr (10, [.int m_thrown, .ref b_zX, .ref b_zV, .ref b_zO, .ref m_memory, .ref m_shut, .long m_choices, .int m_vl, .int m_vtype, .int m_vstart, .int m_vxrm, .int m_vxsat, .int m_done, .int m_illegal, .int m_traps, .int m_trapAddress, .int m_word, .int m_vd, .int m_vs1, .int m_vs2, .int m_f3, .int m_f6, .int m_sew, .int m_l8, .int m_unmasked])), (b_zX, .inl (kI, 32, .inl zX)), (b_zV, .inl (kI, 512, .inl w_zV)), (b_zO, .inl (kI, 512, .inl zO))] [(0, .ref b_m), (1, .int (pX11_extends1_43_S1 m_vs1)), (2, .int w_L2), (3, .long (fX11_get zO m_vs2 (m_sew / (pX11_extends1_43_S1 m_vs1)) w_L2))] [.long (pX11_extends1_172_S5 m_vs1 m_vs2 m_sew zO w_L2), .int w_L2, .int m_sew, .int m_vd, .ref b_m] 172 (fun hJ12 => ?_) ?_
      · skip
        refine k_icmp_ne (tgt := 171) X dX11_extends1_155 (by decide) rfl (fun c11 => ?_) (fun c11 => ?_)
        · skip
          refine k_lload_n X dX11_extends1_158 rfl 0 rfl rfl ?_
          refine k_aload_n X dX11_extends1_159 rfl 1 rfl rfl ?_
          refine k_get X i_wsX110 0 22 q27_9 rfl rfl rfl rfl rfl dX11_extends1_160 rfl ?_
          refine k_iload_n X dX11_extends1_163 rfl 2 rfl rfl ?_
          refine k_idiv X dX11_extends1_164 (hob.2.2.2.2.1 c9 c10 c11) rfl ?_
          refine k_cS1 (st := [.int w_L2, .int m_sew, .int m_vd, .ref b_m]) (ws' := [(b_m, .inr (10, [.int m_thrown, .ref b_zX, .ref b_zV, .ref b_zO, .ref m_memory, .ref m_shut, .long m_choices, .int m_vl, .int m_vtype, .int m_vstart, .int m_vxrm, .int m_vxsat, .int m_done, .int m_illegal, .int m_traps, .int m_trapAddress, .int m_word, .int m_vd, .int m_vs1, .int m_vs2, .int m_f3, .int m_f6, .int m_sew, .int m_l8, .int m_unmasked])), (b_zX, .inl (kI, 32, .inl zX)), (b_zV, .inl (kI, 512, .inl w_zV)), (b_zO, .inl (kI, 512, .inl zO))]) (wr := [(b_m, .inr (10, [.int m_thrown, .ref b_zX, .ref b_zV, .ref b_zO, .ref m_memory, .ref m_shut, .long m_choices, .int m_vl, .int m_vtype, .int m_vstart, .int m_vxrm, .int m_vxsat, .int m_done, .int m_illegal, .int m_traps, .int m_trapAddress, .int m_word, .int m_vd, .int m_vs1, .int m_vs2, .int m_f3, .int m_f6, .int m_sew, .int m_l8, .int m_unmasked])), (b_zX, .inl (kI, 32, .inl zX)), (b_zV, .inl (kI, 512, .inl w_zV)), (b_zO, .inl (kI, 512, .inl zO))]) X [.long (fX11_get zO m_vs2 (m_sew / (pX11_extends1_43_S1 m_vs1)) w_L2), .int (m_sew / (pX11_extends1_43_S1 m_vs1))] 4 [] [0, 1, 2, 3] [0, 1, 2, 3] (kX11_signed l D kI kZ (fX11_get zO m_vs2 (m_sew / (pX11_extends1_43_S1 m_vs1)) w_L2) (m_sew / (pX11_extends1_43_S1 m_vs1))) vX11_signed q33_20 dX11_extends1_165 rfl rfl rfl rfl rfl rfl rfl rfl rfl rfl rfl rfl rfl ?_
          refine k_goto (tgt := 172) X dX11_extends1_168 (by decide) ?_
          have e31 : (pX11_extends1_172_S5 m_vs1 m_vs2 m_sew zO w_L2) = (fX11_signed (fX11_get zO m_vs2 (m_sew / (pX11_extends1_43_S1 m_vs1)) w_L2) (m_sew / (pX11_extends1_43_S1 m_vs1))) := by rw [pX11_extends1_172_S5, if_pos c11]
          rw [e31] at hJ12
          exact k_sub [1, 2, 3, 0] rfl hJ12
        refine k_lload_n X dX11_extends1_171 rfl 0 rfl rfl ?_
        have e32 : (pX11_extends1_172_S5 m_vs1 m_vs2 m_sew zO w_L2) = (fX11_get zO m_vs2 (m_sew / (pX11_extends1_43_S1 m_vs1)) w_L2) := by rw [pX11_extends1_172_S5, if_neg c11]
        rw [e32] at hJ12
        exact k_sub [1, 2, 3, 0] rfl hJ12
      refine k_cV0 (st := []) (ws' := [(b_m, .inr (10, [.int m_thrown, .ref b_zX, .ref b_zV, .ref b_zO, .ref m_memory, .ref m_shut, .long m_choices, .int m_vl, .int m_vtype, .int m_vstart, .int m_vxrm, .int m_vxsat, .int m_done, .int m_illegal, .int m_traps, .int m_trapAddress, .int m_word, .int m_vd, .int m_vs1, .int m_vs2, .int m_f3, .int m_f6, .int m_sew, .int m_l8, .int m_unmasked])), (b_zX, .inl (kI, 32, .inl zX)), (b_zV, .inl (kI, 512, .inl (fX11_put__zV w_zV m_vd m_sew w_L2 (pX11_extends1_172_S5 m_vs1 m_vs2 m_sew zO w_L2)))), (b_zO, .inl (kI, 512, .inl zO))]) (wr := [(b_zX, .inl (kI, 32, .inl zX)), (b_zO, .inl (kI, 512, .inl zO))]) (ci := 10) (q9 := 0) X [.int m_vd, .int m_sew, .int w_L2, .long (pX11_extends1_172_S5 m_vs1 m_vs2 m_sew zO w_L2)] 0 [0, 2] [1, 3] [2, 0, 3, 1] (kX11_put l D kI kZ b_m b_zV m_thrown b_zX b_zO m_memory m_shut m_choices m_vl m_vtype m_vstart m_vxrm m_vxsat m_done m_illegal m_traps m_trapAddress m_word m_vd m_vs1 m_vs2 m_f3 m_f6 m_sew m_l8 m_unmasked w_zV m_vd m_sew w_L2 (pX11_extends1_172_S5 m_vs1 m_vs2 m_sew zO w_L2) (hob.2.2.2.2.2 c9 c10)) vX11_put q32_13 dX11_extends1_172 rfl rfl rfl rfl rfl rfl rfl rfl rfl rfl rfl rfl rfl rfl rfl ?_
      have e33 : (pX11_extends1_175_zV m_choices m_vtype m_vd m_vs1 m_vs2 m_sew m_unmasked zO w_L2 w_zV) = (fX11_put__zV w_zV m_vd m_sew w_L2 (pX11_extends1_172_S5 m_vs1 m_vs2 m_sew zO w_L2)) := by rw [pX11_extends1_175_zV, if_neg c10]
      rw [e33] at hJ13
      exact k_sub [0, 1, 2] rfl hJ13
    refine k_iinc (lv' := [(2, .int (w_L2 + (1 : Int32))), (0, .ref b_m), (1, .int (pX11_extends1_43_S1 m_vs1))]) X dX11_extends1_175 2 rfl kc_i_1 rfl rfl rfl ?_
    refine k_goto (tgt := 90) X dX11_extends1_178 (by decide) ?_
    have e34 : bX11_extends1_90_L2 m_vl w_L2 w_zV = (w_L2 + (1 : Int32)) := by rw [bX11_extends1_90_L2, if_neg c9]
    rw [e34] at g0
    have e35 : bX11_extends1_90_zV m_choices m_vl m_vtype m_vd m_vs1 m_vs2 m_sew m_unmasked zO w_L2 w_zV = (pX11_extends1_175_zV m_choices m_vtype m_vd m_vs1 m_vs2 m_sew m_unmasked zO w_L2 w_zV) := by rw [bX11_extends1_90_zV, if_neg c9]
    rw [e35] at g0
    exact k_sub [1, 2, 0] rfl g0
  try dsimp only
  refine k_iload_n X dX11_extends1_90 rfl 2 rfl rfl ?_
  refine k_aload_n X dX11_extends1_91 rfl 0 rfl rfl ?_
  refine k_get X i_wsX110 0 7 q28_7 rfl rfl rfl rfl rfl dX11_extends1_92 rfl ?_
  refine k_icmp_ge (tgt := 181) X dX11_extends1_95 (by decide) rfl (fun c14 => ?_) (fun c14 => ?_)
  · skip
    refine k_aload_n X dX11_extends1_181 rfl 0 rfl rfl ?_
    refine k_aload_n X dX11_extends1_182 rfl 0 rfl rfl ?_
    refine k_get X i_wsX110 0 17 q27_3 rfl rfl rfl rfl rfl dX11_extends1_183 rfl ?_
    refine k_aload_n X dX11_extends1_186 rfl 0 rfl rfl ?_
    refine k_get X i_wsX110 0 22 q27_9 rfl rfl rfl rfl rfl dX11_extends1_187 rfl ?_
    refine k_aload_n X dX11_extends1_190 rfl 0 rfl rfl ?_
    refine k_get X i_wsX110 0 23 q27_10 rfl rfl rfl rfl rfl dX11_extends1_191 rfl ?_
    refine k_aload_n X dX11_extends1_194 rfl 0 rfl rfl ?_
    refine k_get X i_wsX110 0 7 q28_7 rfl rfl rfl rfl rfl dX11_extends1_195 rfl ?_
    refine k_cV0 (st := []) (ws' := [(b_m, .inr (10, [.int m_thrown, .ref b_zX, .ref b_zV, .ref b_zO, .ref m_memory, .ref m_shut, .long m_choices, .int m_vl, .int m_vtype, .int m_vstart, .int m_vxrm, .int m_vxsat, .int m_done, .int m_illegal, .int m_traps, .int m_trapAddress, .int m_word, .int m_vd, .int m_vs1, .int m_vs2, .int m_f3, .int m_f6, .int m_sew, .int m_l8, .int m_unmasked])), (b_zX, .inl (kI, 32, .inl zX)), (b_zV, .inl (kI, 512, .inl (fX11_tail__zV m_choices m_vtype ((LX11_extends1_90 m_choices m_vl m_vtype m_vd m_vs1 m_vs2 m_sew m_unmasked zO (cnt m_vstart m_vl) (m_vstart, zV)).2) m_vd m_sew m_l8 m_vl))), (b_zO, .inl (kI, 512, .inl zO))]) (wr := [(b_zX, .inl (kI, 32, .inl zX)), (b_zO, .inl (kI, 512, .inl zO))]) (ci := 10) (q9 := 0) X [.int m_vd, .int m_sew, .int m_l8, .int m_vl] 0 [0, 2] [1, 3] [2, 0, 3, 1] (kX11_tail l D kI kZ b_m b_zV m_thrown b_zX b_zO m_memory m_shut m_choices m_vl m_vtype m_vstart m_vxrm m_vxsat m_done m_illegal m_traps m_trapAddress m_word m_vd m_vs1 m_vs2 m_f3 m_f6 m_sew m_l8 m_unmasked ((LX11_extends1_90 m_choices m_vl m_vtype m_vd m_vs1 m_vs2 m_sew m_unmasked zO (cnt m_vstart m_vl) (m_vstart, zV)).2) m_vd m_sew m_l8 m_vl (hok.2.2.2.2.1 c6 c7 c8 c14)) vX11_tail q34_11 dX11_extends1_198 rfl rfl rfl rfl rfl rfl rfl rfl rfl rfl rfl rfl rfl rfl rfl ?_
    refine k_iconst X dX11_extends1_201 kc_i_1 rfl ?_
    have e36 : (fX11_extends1 m_vd m_vs1 m_vs2 m_sew m_l8 m_unmasked) = (1 : Int32) := by rw [fX11_extends1, if_neg c6, if_neg c7]
    have e37 : (fX11_extends1__zV m_choices m_vl m_vtype m_vstart m_vd m_vs1 m_vs2 m_sew m_l8 m_unmasked zV zO) = (fX11_tail__zV m_choices m_vtype ((LX11_extends1_90 m_choices m_vl m_vtype m_vd m_vs1 m_vs2 m_sew m_unmasked zO (cnt m_vstart m_vl) (m_vstart, zV)).2) m_vd m_sew m_l8 m_vl) := by rw [fX11_extends1__zV, if_neg c6, if_neg c7, if_neg c8]
    exact k_zret9 X hRt hLk rfl e36.symm (by rw [e37]) dX11_extends1_202
  refine k_aload_n X dX11_extends1_98 rfl 0 rfl rfl ?_
  refine k_iload_n X dX11_extends1_99 rfl 2 rfl rfl ?_
  refine k_cV1 (st := []) (ws' := [(b_m, .inr (10, [.int m_thrown, .ref b_zX, .ref b_zV, .ref b_zO, .ref m_memory, .ref m_shut, .long m_choices, .int m_vl, .int m_vtype, .int m_vstart, .int m_vxrm, .int m_vxsat, .int m_done, .int m_illegal, .int m_traps, .int m_trapAddress, .int m_word, .int m_vd, .int m_vs1, .int m_vs2, .int m_f3, .int m_f6, .int m_sew, .int m_l8, .int m_unmasked])), (b_zX, .inl (kI, 32, .inl zX)), (b_zV, .inl (kI, 512, .inl ((LX11_extends1_90 m_choices m_vl m_vtype m_vd m_vs1 m_vs2 m_sew m_unmasked zO (cnt m_vstart m_vl) (m_vstart, zV)).2))), (b_zO, .inl (kI, 512, .inl zO))]) (wr := [(b_zX, .inl (kI, 32, .inl zX)), (b_zV, .inl (kI, 512, .inl ((LX11_extends1_90 m_choices m_vl m_vtype m_vd m_vs1 m_vs2 m_sew m_unmasked zO (cnt m_vstart m_vl) (m_vstart, zV)).2)))]) (ci := 10) (q9 := 0) X [.int ((LX11_extends1_90 m_choices m_vl m_vtype m_vd m_vs1 m_vs2 m_sew m_unmasked zO (cnt m_vstart m_vl) (m_vstart, zV)).1)] 0 [0, 3] [1, 2] [2, 0, 1, 3] (kX11_isActive l D kI kZ b_m b_zO m_thrown b_zX b_zV m_memory m_shut m_choices m_vl m_vtype m_vstart m_vxrm m_vxsat m_done m_illegal m_traps m_trapAddress m_word m_vd m_vs1 m_vs2 m_f3 m_f6 m_sew m_l8 m_unmasked zO ((LX11_extends1_90 m_choices m_vl m_vtype m_vd m_vs1 m_vs2 m_sew m_unmasked zO (cnt m_vstart m_vl) (m_vstart, zV)).1) (hok.2.2.2.2.2.1 c6 c7 c8 c14)) vX11_isActive q31_6 dX11_extends1_100 rfl rfl rfl rfl rfl rfl rfl rfl rfl rfl rfl rfl rfl rfl rfl ?_
  refine k_mid2 [(b_m, .inr (10, [.int m_thrown, .ref b_zX, .ref b_zV, .ref b_zO, .ref m_memory, .ref m_shut, .long m_choices, .int m_vl, .int m_vtype, .int m_vstart, .int m_vxrm, .int m_vxsat, .int m_done, .int m_illegal, .int m_traps, .int m_trapAddress, .int m_word, .int m_vd, .int m_vs1, .int m_vs2, .int m_f3, .int m_f6, .int m_sew, .int m_l8, .int m_unmasked])), (b_zX, .inl (kI, 32, .inl zX)), (b_zV, .inl (kI, 512, .inl (pX11_extends1_175_zV m_choices m_vtype m_vd m_vs1 m_vs2 m_sew m_unmasked zO ((LX11_extends1_90 m_choices m_vl m_vtype m_vd m_vs1 m_vs2 m_sew m_unmasked zO (cnt m_vstart m_vl) (m_vstart, zV)).1) ((LX11_extends1_90 m_choices m_vl m_vtype m_vd m_vs1 m_vs2 m_sew m_unmasked zO (cnt m_vstart m_vl) (m_vstart, zV)).2)))), (b_zO, .inl (kI, 512, .inl zO))] [(0, .ref b_m), (1, .int (pX11_extends1_43_S1 m_vs1)), (2, .int ((LX11_extends1_90 m_choices m_vl m_vtype m_vd m_vs1 m_vs2 m_sew m_unmasked zO (cnt m_vstart m_vl) (m_vstart, zV)).1))] [] 175 (fun hJ18 => ?_) ?_
  · skip
    refine k_if_ne (tgt := 122) X dX11_extends1_103 (by decide) rfl (fun c15 => ?_) (fun c15 => ?_)
    · skip
      refine k_aload_n X dX11_extends1_106 rfl 0 rfl rfl ?_
      refine k_aload_n X dX11_extends1_107 rfl 0 rfl rfl ?_
      refine k_get X i_wsX110 0 17 q27_3 rfl rfl rfl rfl rfl dX11_extends1_108 rfl ?_
      refine k_aload_n X dX11_extends1_111 rfl 0 rfl rfl ?_
      refine k_get X i_wsX110 0 22 q27_9 rfl rfl rfl rfl rfl dX11_extends1_112 rfl ?_
      refine k_iload_n X dX11_extends1_115 rfl 2 rfl rfl ?_
      refine k_cV0 (st := []) (ws' := [(b_m, .inr (10, [.int m_thrown, .ref b_zX, .ref b_zV, .ref b_zO, .ref m_memory, .ref m_shut, .long m_choices, .int m_vl, .int m_vtype, .int m_vstart, .int m_vxrm, .int m_vxsat, .int m_done, .int m_illegal, .int m_traps, .int m_trapAddress, .int m_word, .int m_vd, .int m_vs1, .int m_vs2, .int m_f3, .int m_f6, .int m_sew, .int m_l8, .int m_unmasked])), (b_zX, .inl (kI, 32, .inl zX)), (b_zV, .inl (kI, 512, .inl (fX11_masked__zV m_choices m_vtype ((LX11_extends1_90 m_choices m_vl m_vtype m_vd m_vs1 m_vs2 m_sew m_unmasked zO (cnt m_vstart m_vl) (m_vstart, zV)).2) m_vd m_sew ((LX11_extends1_90 m_choices m_vl m_vtype m_vd m_vs1 m_vs2 m_sew m_unmasked zO (cnt m_vstart m_vl) (m_vstart, zV)).1)))), (b_zO, .inl (kI, 512, .inl zO))]) (wr := [(b_zX, .inl (kI, 32, .inl zX)), (b_zO, .inl (kI, 512, .inl zO))]) (ci := 10) (q9 := 0) X [.int m_vd, .int m_sew, .int ((LX11_extends1_90 m_choices m_vl m_vtype m_vd m_vs1 m_vs2 m_sew m_unmasked zO (cnt m_vstart m_vl) (m_vstart, zV)).1)] 0 [0, 2] [1, 3] [2, 0, 3, 1] (kX11_masked l D kI kZ b_m b_zV m_thrown b_zX b_zO m_memory m_shut m_choices m_vl m_vtype m_vstart m_vxrm m_vxsat m_done m_illegal m_traps m_trapAddress m_word m_vd m_vs1 m_vs2 m_f3 m_f6 m_sew m_l8 m_unmasked ((LX11_extends1_90 m_choices m_vl m_vtype m_vd m_vs1 m_vs2 m_sew m_unmasked zO (cnt m_vstart m_vl) (m_vstart, zV)).2) m_vd m_sew ((LX11_extends1_90 m_choices m_vl m_vtype m_vd m_vs1 m_vs2 m_sew m_unmasked zO (cnt m_vstart m_vl) (m_vstart, zV)).1) (hok.2.2.2.2.2.2.1 c6 c7 c8 c14 c15)) vX11_masked q31_14 dX11_extends1_116 rfl rfl rfl rfl rfl rfl rfl rfl rfl rfl rfl rfl rfl rfl rfl ?_
      refine k_goto (tgt := 175) X dX11_extends1_119 (by decide) ?_
      have e38 : (pX11_extends1_175_zV m_choices m_vtype m_vd m_vs1 m_vs2 m_sew m_unmasked zO ((LX11_extends1_90 m_choices m_vl m_vtype m_vd m_vs1 m_vs2 m_sew m_unmasked zO (cnt m_vstart m_vl) (m_vstart, zV)).1) ((LX11_extends1_90 m_choices m_vl m_vtype m_vd m_vs1 m_vs2 m_sew m_unmasked zO (cnt m_vstart m_vl) (m_vstart, zV)).2)) = (fX11_masked__zV m_choices m_vtype ((LX11_extends1_90 m_choices m_vl m_vtype m_vd m_vs1 m_vs2 m_sew m_unmasked zO (cnt m_vstart m_vl) (m_vstart, zV)).2) m_vd m_sew ((LX11_extends1_90 m_choices m_vl m_vtype m_vd m_vs1 m_vs2 m_sew m_unmasked zO (cnt m_vstart m_vl) (m_vstart, zV)).1)) := by rw [pX11_extends1_175_zV, if_pos c15]
      rw [e38] at hJ18
      exact k_sub [0, 1, 2] rfl hJ18
    refine k_aload_n X dX11_extends1_122 rfl 0 rfl rfl ?_
    refine k_aload_n X dX11_extends1_123 rfl 0 rfl rfl ?_
    refine k_get X i_wsX110 0 19 q27_6 rfl rfl rfl rfl rfl dX11_extends1_124 rfl ?_
    refine k_aload_n X dX11_extends1_127 rfl 0 rfl rfl ?_
    refine k_get X i_wsX110 0 22 q27_9 rfl rfl rfl rfl rfl dX11_extends1_128 rfl ?_
    refine k_iload_n X dX11_extends1_131 rfl 1 rfl rfl ?_
    refine k_idiv X dX11_extends1_132 (hok.2.2.2.2.2.2.2.1 c6 c7 c8 c14 c15) rfl ?_
    refine k_iload_n X dX11_extends1_133 rfl 2 rfl rfl ?_
    refine k_cV1 (st := []) (ws' := [(b_m, .inr (10, [.int m_thrown, .ref b_zX, .ref b_zV, .ref b_zO, .ref m_memory, .ref m_shut, .long m_choices, .int m_vl, .int m_vtype, .int m_vstart, .int m_vxrm, .int m_vxsat, .int m_done, .int m_illegal, .int m_traps, .int m_trapAddress, .int m_word, .int m_vd, .int m_vs1, .int m_vs2, .int m_f3, .int m_f6, .int m_sew, .int m_l8, .int m_unmasked])), (b_zX, .inl (kI, 32, .inl zX)), (b_zV, .inl (kI, 512, .inl ((LX11_extends1_90 m_choices m_vl m_vtype m_vd m_vs1 m_vs2 m_sew m_unmasked zO (cnt m_vstart m_vl) (m_vstart, zV)).2))), (b_zO, .inl (kI, 512, .inl zO))]) (wr := [(b_zX, .inl (kI, 32, .inl zX)), (b_zV, .inl (kI, 512, .inl ((LX11_extends1_90 m_choices m_vl m_vtype m_vd m_vs1 m_vs2 m_sew m_unmasked zO (cnt m_vstart m_vl) (m_vstart, zV)).2)))]) (ci := 10) (q9 := 0) X [.int m_vs2, .int (m_sew / (pX11_extends1_43_S1 m_vs1)), .int ((LX11_extends1_90 m_choices m_vl m_vtype m_vd m_vs1 m_vs2 m_sew m_unmasked zO (cnt m_vstart m_vl) (m_vstart, zV)).1)] 0 [0, 3] [1, 2] [2, 0, 1, 3] (kX11_get l D kI kZ b_m b_zO m_thrown b_zX b_zV m_memory m_shut m_choices m_vl m_vtype m_vstart m_vxrm m_vxsat m_done m_illegal m_traps m_trapAddress m_word m_vd m_vs1 m_vs2 m_f3 m_f6 m_sew m_l8 m_unmasked zO m_vs2 (m_sew / (pX11_extends1_43_S1 m_vs1)) ((LX11_extends1_90 m_choices m_vl m_vtype m_vd m_vs1 m_vs2 m_sew m_unmasked zO (cnt m_vstart m_vl) (m_vstart, zV)).1) (hok.2.2.2.2.2.2.2.2.1 c6 c7 c8 c14 c15)) vX11_get q32_21 dX11_extends1_134 rfl rfl rfl rfl rfl rfl rfl rfl rfl rfl rfl rfl rfl rfl rfl ?_
    refine k_lstore_n (lv' := [(3, .long (fX11_get zO m_vs2 (m_sew / (pX11_extends1_43_S1 m_vs1)) ((LX11_extends1_90 m_choices m_vl m_vtype m_vd m_vs1 m_vs2 m_sew m_unmasked zO (cnt m_vstart m_vl) (m_vstart, zV)).1))), (0, .ref b_m), (1, .int (pX11_extends1_43_S1 m_vs1)), (2, .int ((LX11_extends1_90 m_choices m_vl m_vtype m_vd m_vs1 m_vs2 m_sew m_unmasked zO (cnt m_vstart m_vl) (m_vstart, zV)).1))]) X dX11_extends1_137 rfl rfl rfl rfl ?_
    refine k_aload_n X dX11_extends1_138 rfl 1 rfl rfl ?_
    refine k_aload_n X dX11_extends1_139 rfl 1 rfl rfl ?_
    refine k_get X i_wsX110 0 17 q27_3 rfl rfl rfl rfl rfl dX11_extends1_140 rfl ?_
    refine k_aload_n X dX11_extends1_143 rfl 1 rfl rfl ?_
    refine k_get X i_wsX110 0 22 q27_9 rfl rfl rfl rfl rfl dX11_extends1_144 rfl ?_
    refine k_iload_n X dX11_extends1_147 rfl 3 rfl rfl ?_
    refine k_aload_n X dX11_extends1_148 rfl 1 rfl rfl ?_
    refine k_get X i_wsX110 0 18 q27_5 rfl rfl rfl rfl rfl dX11_extends1_149 rfl ?_
    refine k_iconst X dX11_extends1_152 kc_i_1 rfl ?_
    refine k_iand X dX11_extends1_153 rfl ?_
    refine k_iconst X dX11_extends1_154 kc_i_1 rfl ?_
    refine k_mid2 [(b_m, .inr (10, [.int m_thrown, .ref b_zX, .ref b_zV, .ref b_zO, .ref m_memory, .ref m_shut, .long m_choices, .int m_vl, .int m_vtype, .int m_vstart, .int m_vxrm, .int m_vxsat, .int m_done, .int m_illegal, .int m_traps, .int m_trapAddress, .int m_word, .int m_vd, .int m_vs1, .int m_vs2, .int m_f3, .int m_f6, .int m_sew, .int m_l8, .int m_unmasked])), (b_zX, .inl (kI, 32, .inl zX)), (b_zV, .inl (kI, 512, .inl ((LX11_extends1_90 m_choices m_vl m_vtype m_vd m_vs1 m_vs2 m_sew m_unmasked zO (cnt m_vstart m_vl) (m_vstart, zV)).2))), (b_zO, .inl (kI, 512, .inl zO))] [(0, .ref b_m), (1, .int (pX11_extends1_43_S1 m_vs1)), (2, .int ((LX11_extends1_90 m_choices m_vl m_vtype m_vd m_vs1 m_vs2 m_sew m_unmasked zO (cnt m_vstart m_vl) (m_vstart, zV)).1)), (3, .long (fX11_get zO m_vs2 (m_sew / (pX11_extends1_43_S1 m_vs1)) ((LX11_extends1_90 m_choices m_vl m_vtype m_vd m_vs1 m_vs2 m_sew m_unmasked zO (cnt m_vstart m_vl) (m_vstart, zV)).1)))] [.long (pX11_extends1_172_S5 m_vs1 m_vs2 m_sew zO ((LX11_extends1_90 m_choices m_vl m_vtype m_vd m_vs1 m_vs2 m_sew m_unmasked zO (cnt m_vstart m_vl) (m_vstart, zV)).1)), .int ((LX11_extends1_90 m_choices m_vl m_vtype m_vd m_vs1 m_vs2 m_sew m_unmasked zO (cnt m_vstart m_vl) (m_vstart, zV)).1), .int m_sew, .int m_vd, .ref b_m] 172 (fun hJ17 => ?_) ?_
    · skip
      refine k_icmp_ne (tgt := 171) X dX11_extends1_155 (by decide) rfl (fun c16 => ?_) (fun c16 => ?_)
      · skip
        refine k_lload_n X dX11_extends1_158 rfl 0 rfl rfl ?_
        refine k_aload_n X dX11_extends1_159 rfl 1 rfl rfl ?_
        refine k_get X i_wsX110 0 22 q27_9 rfl rfl rfl rfl rfl dX11_extends1_160 rfl ?_
        refine k_iload_n X dX11_extends1_163 rfl 2 rfl rfl ?_
        refine k_idiv X dX11_extends1_164 (hok.2.2.2.2.2.2.2.2.2.1 c6 c7 c8 c14 c15 c16) rfl ?_
        refine k_cS1 (st := [.int ((LX11_extends1_90 m_choices m_vl m_vtype m_vd m_vs1 m_vs2 m_sew m_unmasked zO (cnt m_vstart m_vl) (m_vstart, zV)).1), .int m_sew, .int m_vd, .ref b_m]) (ws' := [(b_m, .inr (10, [.int m_thrown, .ref b_zX, .ref b_zV, .ref b_zO, .ref m_memory, .ref m_shut, .long m_choices, .int m_vl, .int m_vtype, .int m_vstart, .int m_vxrm, .int m_vxsat, .int m_done, .int m_illegal, .int m_traps, .int m_trapAddress, .int m_word, .int m_vd, .int m_vs1, .int m_vs2, .int m_f3, .int m_f6, .int m_sew, .int m_l8, .int m_unmasked])), (b_zX, .inl (kI, 32, .inl zX)), (b_zV, .inl (kI, 512, .inl ((LX11_extends1_90 m_choices m_vl m_vtype m_vd m_vs1 m_vs2 m_sew m_unmasked zO (cnt m_vstart m_vl) (m_vstart, zV)).2))), (b_zO, .inl (kI, 512, .inl zO))]) (wr := [(b_m, .inr (10, [.int m_thrown, .ref b_zX, .ref b_zV, .ref b_zO, .ref m_memory, .ref m_shut, .long m_choices, .int m_vl, .int m_vtype, .int m_vstart, .int m_vxrm, .int m_vxsat, .int m_done, .int m_illegal, .int m_traps, .int m_trapAddress, .int m_word, .int m_vd, .int m_vs1, .int m_vs2, .int m_f3, .int m_f6, .int m_sew, .int m_l8, .int m_unmasked])), (b_zX, .inl (kI, 32, .inl zX)), (b_zV, .inl (kI, 512, .inl ((LX11_extends1_90 m_choices m_vl m_vtype m_vd m_vs1 m_vs2 m_sew m_unmasked zO (cnt m_vstart m_vl) (m_vstart, zV)).2))), (b_zO, .inl (kI, 512, .inl zO))]) X [.long (fX11_get zO m_vs2 (m_sew / (pX11_extends1_43_S1 m_vs1)) ((LX11_extends1_90 m_choices m_vl m_vtype m_vd m_vs1 m_vs2 m_sew m_unmasked zO (cnt m_vstart m_vl) (m_vstart, zV)).1)), .int (m_sew / (pX11_extends1_43_S1 m_vs1))] 4 [] [0, 1, 2, 3] [0, 1, 2, 3] (kX11_signed l D kI kZ (fX11_get zO m_vs2 (m_sew / (pX11_extends1_43_S1 m_vs1)) ((LX11_extends1_90 m_choices m_vl m_vtype m_vd m_vs1 m_vs2 m_sew m_unmasked zO (cnt m_vstart m_vl) (m_vstart, zV)).1)) (m_sew / (pX11_extends1_43_S1 m_vs1))) vX11_signed q33_20 dX11_extends1_165 rfl rfl rfl rfl rfl rfl rfl rfl rfl rfl rfl rfl rfl ?_
        refine k_goto (tgt := 172) X dX11_extends1_168 (by decide) ?_
        have e39 : (pX11_extends1_172_S5 m_vs1 m_vs2 m_sew zO ((LX11_extends1_90 m_choices m_vl m_vtype m_vd m_vs1 m_vs2 m_sew m_unmasked zO (cnt m_vstart m_vl) (m_vstart, zV)).1)) = (fX11_signed (fX11_get zO m_vs2 (m_sew / (pX11_extends1_43_S1 m_vs1)) ((LX11_extends1_90 m_choices m_vl m_vtype m_vd m_vs1 m_vs2 m_sew m_unmasked zO (cnt m_vstart m_vl) (m_vstart, zV)).1)) (m_sew / (pX11_extends1_43_S1 m_vs1))) := by rw [pX11_extends1_172_S5, if_pos c16]
        rw [e39] at hJ17
        exact k_sub [1, 2, 3, 0] rfl hJ17
      refine k_lload_n X dX11_extends1_171 rfl 0 rfl rfl ?_
      have e40 : (pX11_extends1_172_S5 m_vs1 m_vs2 m_sew zO ((LX11_extends1_90 m_choices m_vl m_vtype m_vd m_vs1 m_vs2 m_sew m_unmasked zO (cnt m_vstart m_vl) (m_vstart, zV)).1)) = (fX11_get zO m_vs2 (m_sew / (pX11_extends1_43_S1 m_vs1)) ((LX11_extends1_90 m_choices m_vl m_vtype m_vd m_vs1 m_vs2 m_sew m_unmasked zO (cnt m_vstart m_vl) (m_vstart, zV)).1)) := by rw [pX11_extends1_172_S5, if_neg c16]
      rw [e40] at hJ17
      exact k_sub [1, 2, 3, 0] rfl hJ17
    refine k_cV0 (st := []) (ws' := [(b_m, .inr (10, [.int m_thrown, .ref b_zX, .ref b_zV, .ref b_zO, .ref m_memory, .ref m_shut, .long m_choices, .int m_vl, .int m_vtype, .int m_vstart, .int m_vxrm, .int m_vxsat, .int m_done, .int m_illegal, .int m_traps, .int m_trapAddress, .int m_word, .int m_vd, .int m_vs1, .int m_vs2, .int m_f3, .int m_f6, .int m_sew, .int m_l8, .int m_unmasked])), (b_zX, .inl (kI, 32, .inl zX)), (b_zV, .inl (kI, 512, .inl (fX11_put__zV ((LX11_extends1_90 m_choices m_vl m_vtype m_vd m_vs1 m_vs2 m_sew m_unmasked zO (cnt m_vstart m_vl) (m_vstart, zV)).2) m_vd m_sew ((LX11_extends1_90 m_choices m_vl m_vtype m_vd m_vs1 m_vs2 m_sew m_unmasked zO (cnt m_vstart m_vl) (m_vstart, zV)).1) (pX11_extends1_172_S5 m_vs1 m_vs2 m_sew zO ((LX11_extends1_90 m_choices m_vl m_vtype m_vd m_vs1 m_vs2 m_sew m_unmasked zO (cnt m_vstart m_vl) (m_vstart, zV)).1))))), (b_zO, .inl (kI, 512, .inl zO))]) (wr := [(b_zX, .inl (kI, 32, .inl zX)), (b_zO, .inl (kI, 512, .inl zO))]) (ci := 10) (q9 := 0) X [.int m_vd, .int m_sew, .int ((LX11_extends1_90 m_choices m_vl m_vtype m_vd m_vs1 m_vs2 m_sew m_unmasked zO (cnt m_vstart m_vl) (m_vstart, zV)).1), .long (pX11_extends1_172_S5 m_vs1 m_vs2 m_sew zO ((LX11_extends1_90 m_choices m_vl m_vtype m_vd m_vs1 m_vs2 m_sew m_unmasked zO (cnt m_vstart m_vl) (m_vstart, zV)).1))] 0 [0, 2] [1, 3] [2, 0, 3, 1] (kX11_put l D kI kZ b_m b_zV m_thrown b_zX b_zO m_memory m_shut m_choices m_vl m_vtype m_vstart m_vxrm m_vxsat m_done m_illegal m_traps m_trapAddress m_word m_vd m_vs1 m_vs2 m_f3 m_f6 m_sew m_l8 m_unmasked ((LX11_extends1_90 m_choices m_vl m_vtype m_vd m_vs1 m_vs2 m_sew m_unmasked zO (cnt m_vstart m_vl) (m_vstart, zV)).2) m_vd m_sew ((LX11_extends1_90 m_choices m_vl m_vtype m_vd m_vs1 m_vs2 m_sew m_unmasked zO (cnt m_vstart m_vl) (m_vstart, zV)).1) (pX11_extends1_172_S5 m_vs1 m_vs2 m_sew zO ((LX11_extends1_90 m_choices m_vl m_vtype m_vd m_vs1 m_vs2 m_sew m_unmasked zO (cnt m_vstart m_vl) (m_vstart, zV)).1)) (hok.2.2.2.2.2.2.2.2.2.2 c6 c7 c8 c14 c15)) vX11_put q32_13 dX11_extends1_172 rfl rfl rfl rfl rfl rfl rfl rfl rfl rfl rfl rfl rfl rfl rfl ?_
    have e41 : (pX11_extends1_175_zV m_choices m_vtype m_vd m_vs1 m_vs2 m_sew m_unmasked zO ((LX11_extends1_90 m_choices m_vl m_vtype m_vd m_vs1 m_vs2 m_sew m_unmasked zO (cnt m_vstart m_vl) (m_vstart, zV)).1) ((LX11_extends1_90 m_choices m_vl m_vtype m_vd m_vs1 m_vs2 m_sew m_unmasked zO (cnt m_vstart m_vl) (m_vstart, zV)).2)) = (fX11_put__zV ((LX11_extends1_90 m_choices m_vl m_vtype m_vd m_vs1 m_vs2 m_sew m_unmasked zO (cnt m_vstart m_vl) (m_vstart, zV)).2) m_vd m_sew ((LX11_extends1_90 m_choices m_vl m_vtype m_vd m_vs1 m_vs2 m_sew m_unmasked zO (cnt m_vstart m_vl) (m_vstart, zV)).1) (pX11_extends1_172_S5 m_vs1 m_vs2 m_sew zO ((LX11_extends1_90 m_choices m_vl m_vtype m_vd m_vs1 m_vs2 m_sew m_unmasked zO (cnt m_vstart m_vl) (m_vstart, zV)).1))) := by rw [pX11_extends1_175_zV, if_neg c15]
    rw [e41] at hJ18
    exact k_sub [0, 1, 2] rfl hJ18
  refine k_iinc (lv' := [(2, .int ((LX11_extends1_90 m_choices m_vl m_vtype m_vd m_vs1 m_vs2 m_sew m_unmasked zO (cnt m_vstart m_vl) (m_vstart, zV)).1 + (1 : Int32))), (0, .ref b_m), (1, .int (pX11_extends1_43_S1 m_vs1))]) X dX11_extends1_175 2 rfl kc_i_1 rfl rfl rfl ?_
  refine k_goto (tgt := 90) X dX11_extends1_178 (by decide) ?_
  exact absurd (show tX11_extends1_90 m_vl ((LX11_extends1_90 m_choices m_vl m_vtype m_vd m_vs1 m_vs2 m_sew m_unmasked zO (cnt m_vstart m_vl) (m_vstart, zV)).1) ((LX11_extends1_90 m_choices m_vl m_vtype m_vd m_vs1 m_vs2 m_sew m_unmasked zO (cnt m_vstart m_vl) (m_vstart, zV)).2) from by rw [tX11_extends1_90, if_neg c14]; exact True.intro) (hok.2.2.2.1 c6 c7 c8)
theorem vX11_extends1 : kVi yX11_extends1 cX11_extends1 5 (some .boolean) 0 := ⟨q38_2, q1_5, q38_0, q38_1, by decide, by decide +kernel⟩
noncomputable def pX11_logic_221_S1 (m_vs1 : Int32) (m_vs2 : Int32) (zO : Nat → Int32) (u1 : Int32) (w_L2 : Int32) : Int32 := (if u1 = (24 : Int32) then (if (fX11_bit zO m_vs2 w_L2) = (0 : Int32) then (0 : Int32) else (if (fX11_bit zO m_vs1 w_L2) = (0 : Int32) then (1 : Int32) else (0 : Int32))) else (if u1 = (25 : Int32) then (if (fX11_bit zO m_vs2 w_L2) = (0 : Int32) then (0 : Int32) else (if (fX11_bit zO m_vs1 w_L2) = (0 : Int32) then (0 : Int32) else (1 : Int32))) else (if u1 = (26 : Int32) then (if (fX11_bit zO m_vs2 w_L2) = (0 : Int32) then (if (fX11_bit zO m_vs1 w_L2) = (0 : Int32) then (0 : Int32) else (1 : Int32)) else (1 : Int32)) else (if u1 = (27 : Int32) then (if (fX11_bit zO m_vs2 w_L2) = (fX11_bit zO m_vs1 w_L2) then (0 : Int32) else (1 : Int32)) else (if u1 = (28 : Int32) then (if (fX11_bit zO m_vs2 w_L2) = (0 : Int32) then (if (fX11_bit zO m_vs1 w_L2) = (0 : Int32) then (1 : Int32) else (0 : Int32)) else (1 : Int32)) else (if u1 = (29 : Int32) then (if (fX11_bit zO m_vs2 w_L2) = (0 : Int32) then (1 : Int32) else (if (fX11_bit zO m_vs1 w_L2) = (0 : Int32) then (1 : Int32) else (0 : Int32))) else (if u1 = (30 : Int32) then (if (fX11_bit zO m_vs2 w_L2) = (0 : Int32) then (if (fX11_bit zO m_vs1 w_L2) = (0 : Int32) then (1 : Int32) else (0 : Int32)) else (0 : Int32)) else (if (fX11_bit zO m_vs2 w_L2) = (fX11_bit zO m_vs1 w_L2) then (1 : Int32) else (0 : Int32)))))))))
theorem zpX11_logic_221_S1 (m_vs1 : Int32) (m_vs2 : Int32) (zO : Nat → Int32) (u1 : Int32) (w_L2 : Int32) : narrow .boolean (.int (pX11_logic_221_S1 m_vs1 m_vs2 zO u1 w_L2)) = .int (pX11_logic_221_S1 m_vs1 m_vs2 zO u1 w_L2) := by unfold pX11_logic_221_S1; exact (kzi (kzi rfl (kzi rfl rfl)) (kzi (kzi rfl (kzi rfl rfl)) (kzi (kzi (kzi rfl rfl) rfl) (kzi (kzi rfl rfl) (kzi (kzi (kzi rfl rfl) rfl) (kzi (kzi rfl (kzi rfl rfl)) (kzi (kzi (kzi rfl rfl) rfl) (kzi rfl rfl))))))))
noncomputable def tX11_logic_23 (m_vl : Int32) (w_L2 : Int32) (w_zV : Nat → Int32) : Prop := (if m_vl ≤ w_L2 then False else True)
noncomputable def bX11_logic_23_L2 (m_vl : Int32) (w_L2 : Int32) (w_zV : Nat → Int32) : Int32 := (if m_vl ≤ w_L2 then w_L2 else (w_L2 + (1 : Int32)))
noncomputable def bX11_logic_23_zV (m_vl : Int32) (m_vd : Int32) (m_vs1 : Int32) (m_vs2 : Int32) (zO : Nat → Int32) (u1 : Int32) (w_L2 : Int32) (w_zV : Nat → Int32) : Nat → Int32 := (if m_vl ≤ w_L2 then w_zV else (fX11_putBit__zV w_zV m_vd w_L2 (pX11_logic_221_S1 m_vs1 m_vs2 zO u1 w_L2)))
noncomputable def LX11_logic_23 (m_vl : Int32) (m_vd : Int32) (m_vs1 : Int32) (m_vs2 : Int32) (zO : Nat → Int32) (u1 : Int32) : Nat → Int32 × (Nat → Int32) → Int32 × (Nat → Int32)
  | 0, s => s
  | n + 1, s => LX11_logic_23 m_vl m_vd m_vs1 m_vs2 zO u1 n ((bX11_logic_23_L2 m_vl s.1 s.2), (bX11_logic_23_zV m_vl m_vd m_vs1 m_vs2 zO u1 s.1 s.2))
noncomputable def oX11_logic_23 (m_vl : Int32) (m_vd : Int32) (m_vs1 : Int32) (m_vs2 : Int32) (w_L2 : Int32) (w_zV : Nat → Int32) : Prop := (¬ (m_vl ≤ w_L2) → okX11_bit m_vs2 w_L2) ∧ (¬ (m_vl ≤ w_L2) → okX11_bit m_vs1 w_L2) ∧ (¬ (m_vl ≤ w_L2) → okX11_putBit m_vd w_L2)
noncomputable def KX11_logic_23 (m_vl : Int32) (m_vd : Int32) (m_vs1 : Int32) (m_vs2 : Int32) (zO : Nat → Int32) (u1 : Int32) : Nat → Int32 × (Nat → Int32) → Prop
  | 0, _ => True
  | n + 1, s => (tX11_logic_23 m_vl s.1 s.2 ∧ oX11_logic_23 m_vl m_vd m_vs1 m_vs2 s.1 s.2) ∧ KX11_logic_23 m_vl m_vd m_vs1 m_vs2 zO u1 n ((bX11_logic_23_L2 m_vl s.1 s.2), (bX11_logic_23_zV m_vl m_vd m_vs1 m_vs2 zO u1 s.1 s.2))
theorem itX11_logic_23 (m_vl : Int32) (m_vd : Int32) (m_vs1 : Int32) (m_vs2 : Int32) (zO : Nat → Int32) (u1 : Int32) {b9 : Nat} (h9 : m_vl = nI b9) (hb9 : b9 < 2147483648) : ∀ (n a : Nat) (w_zV : Nat → Int32), a + n ≤ b9 → LX11_logic_23 m_vl m_vd m_vs1 m_vs2 zO u1 n (nI a, w_zV) = (nI (a + n), itr (fun k s => ((fX11_putBit__zV s m_vd (nI k) (pX11_logic_221_S1 m_vs1 m_vs2 zO u1 (nI k))))) n a (w_zV))
  | 0, a, w_zV, _ => rfl
  | n + 1, a, w_zV, h => by
    have hc : ¬ (m_vl ≤ nI a) := by rw [h9]; exact nI_ge (by omega) hb9
    have e0 : bX11_logic_23_L2 m_vl (nI a) w_zV = nI (a + 1) := by rw [bX11_logic_23_L2, if_neg hc, nI_1]
    have e1 : bX11_logic_23_zV m_vl m_vd m_vs1 m_vs2 zO u1 (nI a) w_zV = (fX11_putBit__zV w_zV m_vd (nI a) (pX11_logic_221_S1 m_vs1 m_vs2 zO u1 (nI a))) := by rw [bX11_logic_23_zV, if_neg hc]
    show LX11_logic_23 m_vl m_vd m_vs1 m_vs2 zO u1 n (bX11_logic_23_L2 m_vl (nI a) w_zV, bX11_logic_23_zV m_vl m_vd m_vs1 m_vs2 zO u1 (nI a) w_zV) = _
    rw [e0, e1, itX11_logic_23 m_vl m_vd m_vs1 m_vs2 zO u1 h9 hb9 n (a + 1) _ (by omega), show a + (n + 1) = a + 1 + n by omega]; rfl
theorem ktX11_logic_23 (m_vl : Int32) (m_vd : Int32) (m_vs1 : Int32) (m_vs2 : Int32) (zO : Nat → Int32) (u1 : Int32) {b9 : Nat} (h9 : m_vl = nI b9) (hb9 : b9 < 2147483648) (I : Nat → (Nat → Int32) → Prop) (hI : ∀ (a : Nat) (w_zV : Nat → Int32), I a (w_zV) → a < b9 → oX11_logic_23 m_vl m_vd m_vs1 m_vs2 (nI a) w_zV ∧ I (a + 1) ((fX11_putBit__zV w_zV m_vd (nI a) (pX11_logic_221_S1 m_vs1 m_vs2 zO u1 (nI a))))) : ∀ (n a : Nat) (w_zV : Nat → Int32), a + n ≤ b9 → I a (w_zV) → KX11_logic_23 m_vl m_vd m_vs1 m_vs2 zO u1 n (nI a, w_zV)
  | 0, a, w_zV, _, _ => True.intro
  | n + 1, a, w_zV, h, hi => by
    have hc : ¬ (m_vl ≤ nI a) := by rw [h9]; exact nI_ge (by omega) hb9
    have e0 : bX11_logic_23_L2 m_vl (nI a) w_zV = nI (a + 1) := by rw [bX11_logic_23_L2, if_neg hc, nI_1]
    have e1 : bX11_logic_23_zV m_vl m_vd m_vs1 m_vs2 zO u1 (nI a) w_zV = (fX11_putBit__zV w_zV m_vd (nI a) (pX11_logic_221_S1 m_vs1 m_vs2 zO u1 (nI a))) := by rw [bX11_logic_23_zV, if_neg hc]
    obtain ⟨h1, h2⟩ := hI a w_zV hi (by omega)
    show (tX11_logic_23 m_vl (nI a) w_zV ∧ oX11_logic_23 m_vl m_vd m_vs1 m_vs2 (nI a) w_zV) ∧ KX11_logic_23 m_vl m_vd m_vs1 m_vs2 zO u1 n (bX11_logic_23_L2 m_vl (nI a) w_zV, bX11_logic_23_zV m_vl m_vd m_vs1 m_vs2 zO u1 (nI a) w_zV)
    refine ⟨⟨by rw [tX11_logic_23, if_neg hc]; exact True.intro, h1⟩, ?_⟩
    rw [e0, e1]; exact ktX11_logic_23 m_vl m_vd m_vs1 m_vs2 zO u1 h9 hb9 I hI n (a + 1) _ (by omega) h2
theorem ntX11_logic_23 (m_vl : Int32) (m_vd : Int32) (m_vs1 : Int32) (m_vs2 : Int32) (zO : Nat → Int32) (u1 : Int32) {b9 : Nat} (h9 : m_vl = nI b9) (hb9 : b9 < 2147483648) (w_zV : Nat → Int32) : ¬ tX11_logic_23 m_vl (nI b9) w_zV := by rw [tX11_logic_23, if_pos (by rw [h9]; exact Int32.le_refl _)]; exact id
noncomputable def fX11_logic (m_unmasked : Int32) : Int32 := (if m_unmasked = (0 : Int32) then (0 : Int32) else (1 : Int32))
noncomputable def fX11_logic__zV (m_choices : Int64) (m_vl : Int32) (m_vstart : Int32) (m_vd : Int32) (m_vs1 : Int32) (m_vs2 : Int32) (m_unmasked : Int32) (zV : Nat → Int32) (zO : Nat → Int32) (u1 : Int32) : Nat → Int32 := (if m_unmasked = (0 : Int32) then zV else (if (fX11_goes m_vl m_vstart) = (0 : Int32) then zV else (fX11_maskTail__zV m_choices m_vl ((LX11_logic_23 m_vl m_vd m_vs1 m_vs2 zO u1 (cnt m_vstart m_vl) (m_vstart, zV)).2) m_vd)))
noncomputable def okX11_logic (m_choices : Int64) (m_vl : Int32) (m_vstart : Int32) (m_vd : Int32) (m_vs1 : Int32) (m_vs2 : Int32) (m_unmasked : Int32) (zV : Nat → Int32) (zO : Nat → Int32) (u1 : Int32) : Prop := (¬ (m_unmasked = (0 : Int32)) → ¬ ((fX11_goes m_vl m_vstart) = (0 : Int32)) → KX11_logic_23 m_vl m_vd m_vs1 m_vs2 zO u1 (cnt m_vstart m_vl) (m_vstart, zV)) ∧ (¬ (m_unmasked = (0 : Int32)) → ¬ ((fX11_goes m_vl m_vstart) = (0 : Int32)) → ¬ (tX11_logic_23 m_vl ((LX11_logic_23 m_vl m_vd m_vs1 m_vs2 zO u1 (cnt m_vstart m_vl) (m_vstart, zV)).1) ((LX11_logic_23 m_vl m_vd m_vs1 m_vs2 zO u1 (cnt m_vstart m_vl) (m_vstart, zV)).2))) ∧ (¬ (m_unmasked = (0 : Int32)) → ¬ ((fX11_goes m_vl m_vstart) = (0 : Int32)) → (m_vl ≤ (LX11_logic_23 m_vl m_vd m_vs1 m_vs2 zO u1 (cnt m_vstart m_vl) (m_vstart, zV)).1) → okX11_maskTail m_choices m_vl ((LX11_logic_23 m_vl m_vd m_vs1 m_vs2 zO u1 (cnt m_vstart m_vl) (m_vstart, zV)).2) m_vd) ∧ (¬ (m_unmasked = (0 : Int32)) → ¬ ((fX11_goes m_vl m_vstart) = (0 : Int32)) → ¬ (m_vl ≤ (LX11_logic_23 m_vl m_vd m_vs1 m_vs2 zO u1 (cnt m_vstart m_vl) (m_vstart, zV)).1) → okX11_bit m_vs2 ((LX11_logic_23 m_vl m_vd m_vs1 m_vs2 zO u1 (cnt m_vstart m_vl) (m_vstart, zV)).1)) ∧ (¬ (m_unmasked = (0 : Int32)) → ¬ ((fX11_goes m_vl m_vstart) = (0 : Int32)) → ¬ (m_vl ≤ (LX11_logic_23 m_vl m_vd m_vs1 m_vs2 zO u1 (cnt m_vstart m_vl) (m_vstart, zV)).1) → okX11_bit m_vs1 ((LX11_logic_23 m_vl m_vd m_vs1 m_vs2 zO u1 (cnt m_vstart m_vl) (m_vstart, zV)).1)) ∧ (¬ (m_unmasked = (0 : Int32)) → ¬ ((fX11_goes m_vl m_vstart) = (0 : Int32)) → ¬ (m_vl ≤ (LX11_logic_23 m_vl m_vd m_vs1 m_vs2 zO u1 (cnt m_vstart m_vl) (m_vstart, zV)).1) → okX11_putBit m_vd ((LX11_logic_23 m_vl m_vd m_vs1 m_vs2 zO u1 (cnt m_vstart m_vl) (m_vstart, zV)).1))
theorem zX11_logic (m_unmasked : Int32) : narrow .boolean (.int (fX11_logic m_unmasked)) = .int (fX11_logic m_unmasked) := by unfold fX11_logic; exact (kzi rfl rfl)
set_option maxRecDepth 100000 in
set_option maxHeartbeats 4000000 in
theorem kX11_logic (l : Launch) (D : va_G) (kI kZ : ClassId) (b_m : Nat) (b_zX : Nat) (b_zV : Nat) (b_zO : Nat) (m_thrown : Int32) (m_memory : Nat) (m_shut : Nat) (m_choices : Int64) (m_vl : Int32) (m_vtype : Int32) (m_vstart : Int32) (m_vxrm : Int32) (m_vxsat : Int32) (m_done : Int32) (m_illegal : Int32) (m_traps : Int32) (m_trapAddress : Int32) (m_word : Int32) (m_vd : Int32) (m_vs1 : Int32) (m_vs2 : Int32) (m_f3 : Int32) (m_f6 : Int32) (m_sew : Int32) (m_l8 : Int32) (m_unmasked : Int32) (zX : Nat → Int32) (zV : Nat → Int32) (zO : Nat → Int32) (u1 : Int32) (hok : okX11_logic m_choices m_vl m_vstart m_vd m_vs1 m_vs2 m_unmasked zV zO u1) : kM l yX11_logic cX11_logic 6 (some .boolean) 3 44 0 0 D [(kI, .int), (kZ, .boolean)] [.ref b_m, .int u1] [(b_m, .inr (10, [.int m_thrown, .ref b_zX, .ref b_zV, .ref b_zO, .ref m_memory, .ref m_shut, .long m_choices, .int m_vl, .int m_vtype, .int m_vstart, .int m_vxrm, .int m_vxsat, .int m_done, .int m_illegal, .int m_traps, .int m_trapAddress, .int m_word, .int m_vd, .int m_vs1, .int m_vs2, .int m_f3, .int m_f6, .int m_sew, .int m_l8, .int m_unmasked])), (b_zX, .inl (kI, 32, .inl zX)), (b_zV, .inl (kI, 512, .inl zV)), (b_zO, .inl (kI, 512, .inl zO))] (some (.int (fX11_logic m_unmasked))) [(b_m, .inr (10, [.int m_thrown, .ref b_zX, .ref b_zV, .ref b_zO, .ref m_memory, .ref m_shut, .long m_choices, .int m_vl, .int m_vtype, .int m_vstart, .int m_vxrm, .int m_vxsat, .int m_done, .int m_illegal, .int m_traps, .int m_trapAddress, .int m_word, .int m_vd, .int m_vs1, .int m_vs2, .int m_f3, .int m_f6, .int m_sew, .int m_l8, .int m_unmasked])), (b_zX, .inl (kI, 32, .inl zX)), (b_zV, .inl (kI, 512, .inl (fX11_logic__zV m_choices m_vl m_vstart m_vd m_vs1 m_vs2 m_unmasked zV zO u1))), (b_zO, .inl (kI, 512, .inl zO))] := by
  refine kM.of (by decide) rfl ?_
  intro p e R s m args below meth c A X _ _ hRt hLk
  refine k_sub [0, 1] (lv' := [(0, .ref b_m), (1, .int u1)]) rfl ?_
  unfold okX11_logic at hok
  refine k_aload_n X dX11_logic_0 rfl 0 rfl rfl ?_
  refine k_get X i_wsX110 0 24 q27_7 rfl rfl rfl rfl rfl dX11_logic_1 rfl ?_
  refine k_if_ne (tgt := 9) X dX11_logic_4 (by decide) rfl (fun c1 => ?_) (fun c1 => ?_)
  · skip
    refine k_iconst X dX11_logic_7 kc_i_0 rfl ?_
    have e49 : (fX11_logic m_unmasked) = (0 : Int32) := by rw [fX11_logic, if_pos c1]
    have e50 : (fX11_logic__zV m_choices m_vl m_vstart m_vd m_vs1 m_vs2 m_unmasked zV zO u1) = zV := by rw [fX11_logic__zV, if_pos c1]
    exact k_zret9 X hRt hLk rfl e49.symm (by rw [e50]) dX11_logic_8
  refine k_aload_n X dX11_logic_9 rfl 0 rfl rfl ?_
  refine k_cV1 (st := []) (ws' := [(b_m, .inr (10, [.int m_thrown, .ref b_zX, .ref b_zV, .ref b_zO, .ref m_memory, .ref m_shut, .long m_choices, .int m_vl, .int m_vtype, .int m_vstart, .int m_vxrm, .int m_vxsat, .int m_done, .int m_illegal, .int m_traps, .int m_trapAddress, .int m_word, .int m_vd, .int m_vs1, .int m_vs2, .int m_f3, .int m_f6, .int m_sew, .int m_l8, .int m_unmasked])), (b_zX, .inl (kI, 32, .inl zX)), (b_zV, .inl (kI, 512, .inl zV)), (b_zO, .inl (kI, 512, .inl zO))]) (wr := [(b_zX, .inl (kI, 32, .inl zX)), (b_zV, .inl (kI, 512, .inl zV)), (b_zO, .inl (kI, 512, .inl zO))]) (ci := 10) (q9 := 0) X [] 0 [0] [1, 2, 3] [3, 0, 1, 2] (kX11_goes l D kI kZ b_m m_thrown b_zX b_zV b_zO m_memory m_shut m_choices m_vl m_vtype m_vstart m_vxrm m_vxsat m_done m_illegal m_traps m_trapAddress m_word m_vd m_vs1 m_vs2 m_f3 m_f6 m_sew m_l8 m_unmasked) vX11_goes q31_2 dX11_logic_10 rfl rfl rfl rfl rfl rfl rfl rfl rfl rfl rfl rfl rfl rfl rfl ?_
  refine k_if_ne (tgt := 18) X dX11_logic_13 (by decide) rfl (fun c2 => ?_) (fun c2 => ?_)
  · skip
    refine k_iconst X dX11_logic_16 kc_i_1 rfl ?_
    have e51 : (fX11_logic m_unmasked) = (1 : Int32) := by rw [fX11_logic, if_neg c1]
    have e52 : (fX11_logic__zV m_choices m_vl m_vstart m_vd m_vs1 m_vs2 m_unmasked zV zO u1) = zV := by rw [fX11_logic__zV, if_neg c1, if_pos c2]
    exact k_zret9 X hRt hLk rfl e51.symm (by rw [e52]) dX11_logic_17
  refine k_aload_n X dX11_logic_18 rfl 0 rfl rfl ?_
  refine k_get X i_wsX110 0 9 q27_14 rfl rfl rfl rfl rfl dX11_logic_19 rfl ?_
  refine k_istore_n (lv' := [(2, .int m_vstart), (0, .ref b_m), (1, .int u1)]) X dX11_logic_22 rfl rfl rfl rfl ?_
  refine k_sub [1, 2, 0] (lv' := [(0, .ref b_m), (1, .int u1), (2, .int m_vstart)]) rfl ?_
  refine k_loop (KX11_logic_23 m_vl m_vd m_vs1 m_vs2 zO u1) (LX11_logic_23 m_vl m_vd m_vs1 m_vs2 zO u1) (fun s9 => (bX11_logic_23_L2 m_vl s9.1 s9.2, bX11_logic_23_zV m_vl m_vd m_vs1 m_vs2 zO u1 s9.1 s9.2)) (fun s9 => tX11_logic_23 m_vl s9.1 s9.2 ∧ oX11_logic_23 m_vl m_vd m_vs1 m_vs2 s9.1 s9.2) (fun s9 => [(b_m, .inr (10, [.int m_thrown, .ref b_zX, .ref b_zV, .ref b_zO, .ref m_memory, .ref m_shut, .long m_choices, .int m_vl, .int m_vtype, .int m_vstart, .int m_vxrm, .int m_vxsat, .int m_done, .int m_illegal, .int m_traps, .int m_trapAddress, .int m_word, .int m_vd, .int m_vs1, .int m_vs2, .int m_f3, .int m_f6, .int m_sew, .int m_l8, .int m_unmasked])), (b_zX, .inl (kI, 32, .inl zX)), (b_zV, .inl (kI, 512, .inl s9.2)), (b_zO, .inl (kI, 512, .inl zO))]) (fun s9 => [(0, .ref b_m), (1, .int u1), (2, .int s9.1)]) 23 (fun _ => rfl) (fun _ _ => rfl) (fun _ _ h => h) ?_ (cnt m_vstart m_vl) (m_vstart, zV) (hok.1 c1 c2) ?_
  · rintro ⟨w_L2, w_zV⟩ ⟨hlat, hob⟩ g0
    try dsimp only at hlat hob g0 ⊢
    unfold oX11_logic_23 at hob
    refine k_iload_n X dX11_logic_23 rfl 2 rfl rfl ?_
    refine k_aload_n X dX11_logic_24 rfl 0 rfl rfl ?_
    refine k_get X i_wsX110 0 7 q28_7 rfl rfl rfl rfl rfl dX11_logic_25 rfl ?_
    refine k_icmp_ge (tgt := 240) X dX11_logic_28 (by decide) rfl (fun c3 => ?_) (fun c3 => ?_)
    · skip
      exact absurd hlat (by rw [tX11_logic_23, if_pos c3]; exact id)
    refine k_aload_n X dX11_logic_31 rfl 0 rfl rfl ?_
    refine k_aload_n X dX11_logic_32 rfl 0 rfl rfl ?_
    refine k_get X i_wsX110 0 19 q27_6 rfl rfl rfl rfl rfl dX11_logic_33 rfl ?_
    refine k_iload_n X dX11_logic_36 rfl 2 rfl rfl ?_
    refine k_cV1 (st := []) (ws' := [(b_m, .inr (10, [.int m_thrown, .ref b_zX, .ref b_zV, .ref b_zO, .ref m_memory, .ref m_shut, .long m_choices, .int m_vl, .int m_vtype, .int m_vstart, .int m_vxrm, .int m_vxsat, .int m_done, .int m_illegal, .int m_traps, .int m_trapAddress, .int m_word, .int m_vd, .int m_vs1, .int m_vs2, .int m_f3, .int m_f6, .int m_sew, .int m_l8, .int m_unmasked])), (b_zX, .inl (kI, 32, .inl zX)), (b_zV, .inl (kI, 512, .inl w_zV)), (b_zO, .inl (kI, 512, .inl zO))]) (wr := [(b_zX, .inl (kI, 32, .inl zX)), (b_zV, .inl (kI, 512, .inl w_zV))]) (ci := 10) (q9 := 0) X [.int m_vs2, .int w_L2] 0 [0, 3] [1, 2] [2, 0, 1, 3] (kX11_bit l D kI kZ b_m b_zO m_thrown b_zX b_zV m_memory m_shut m_choices m_vl m_vtype m_vstart m_vxrm m_vxsat m_done m_illegal m_traps m_trapAddress m_word m_vd m_vs1 m_vs2 m_f3 m_f6 m_sew m_l8 m_unmasked zO m_vs2 w_L2 (hob.1 c3)) vX11_bit q31_10 dX11_logic_37 rfl rfl rfl rfl rfl rfl rfl rfl rfl rfl rfl rfl rfl rfl rfl ?_
    refine k_istore_n (lv' := [(3, .int (fX11_bit zO m_vs2 w_L2)), (0, .ref b_m), (1, .int u1), (2, .int w_L2)]) X dX11_logic_40 rfl rfl rfl rfl ?_
    refine k_aload_n X dX11_logic_41 rfl 1 rfl rfl ?_
    refine k_aload_n X dX11_logic_42 rfl 1 rfl rfl ?_
    refine k_get X i_wsX110 0 18 q27_5 rfl rfl rfl rfl rfl dX11_logic_43 rfl ?_
    refine k_iload_n X dX11_logic_46 rfl 3 rfl rfl ?_
    refine k_cV1 (st := []) (ws' := [(b_m, .inr (10, [.int m_thrown, .ref b_zX, .ref b_zV, .ref b_zO, .ref m_memory, .ref m_shut, .long m_choices, .int m_vl, .int m_vtype, .int m_vstart, .int m_vxrm, .int m_vxsat, .int m_done, .int m_illegal, .int m_traps, .int m_trapAddress, .int m_word, .int m_vd, .int m_vs1, .int m_vs2, .int m_f3, .int m_f6, .int m_sew, .int m_l8, .int m_unmasked])), (b_zX, .inl (kI, 32, .inl zX)), (b_zV, .inl (kI, 512, .inl w_zV)), (b_zO, .inl (kI, 512, .inl zO))]) (wr := [(b_zX, .inl (kI, 32, .inl zX)), (b_zV, .inl (kI, 512, .inl w_zV))]) (ci := 10) (q9 := 0) X [.int m_vs1, .int w_L2] 0 [0, 3] [1, 2] [2, 0, 1, 3] (kX11_bit l D kI kZ b_m b_zO m_thrown b_zX b_zV m_memory m_shut m_choices m_vl m_vtype m_vstart m_vxrm m_vxsat m_done m_illegal m_traps m_trapAddress m_word m_vd m_vs1 m_vs2 m_f3 m_f6 m_sew m_l8 m_unmasked zO m_vs1 w_L2 (hob.2.1 c3)) vX11_bit q31_10 dX11_logic_47 rfl rfl rfl rfl rfl rfl rfl rfl rfl rfl rfl rfl rfl rfl rfl ?_
    refine k_istore (lv' := [(4, .int (fX11_bit zO m_vs1 w_L2)), (3, .int (fX11_bit zO m_vs2 w_L2)), (0, .ref b_m), (1, .int u1), (2, .int w_L2)]) X dX11_logic_50 rfl rfl rfl ?_
    refine k_iload_n X dX11_logic_52 rfl 3 rfl rfl ?_
    refine k_bipush X dX11_logic_53 kc_b_24 rfl ?_
    refine k_mid2 [(b_m, .inr (10, [.int m_thrown, .ref b_zX, .ref b_zV, .ref b_zO, .ref m_memory, .ref m_shut, .long m_choices, .int m_vl, .int m_vtype, .int m_vstart, .int m_vxrm, .int m_vxsat, .int m_done, .int m_illegal, .int m_traps, .int m_trapAddress, .int m_word, .int m_vd, .int m_vs1, .int m_vs2, .int m_f3, .int m_f6, .int m_sew, .int m_l8, .int m_unmasked])), (b_zX, .inl (kI, 32, .inl zX)), (b_zV, .inl (kI, 512, .inl w_zV)), (b_zO, .inl (kI, 512, .inl zO))] [(0, .ref b_m), (1, .int u1), (2, .int w_L2), (3, .int (fX11_bit zO m_vs2 w_L2)), (4, .int (fX11_bit zO m_vs1 w_L2))] [.int (pX11_logic_221_S1 m_vs1 m_vs2 zO u1 w_L2)] 221 (fun hJ25 => ?_) ?_
    · skip
      refine k_icmp_ne (tgt := 75) X dX11_logic_55 (by decide) rfl (fun c4 => ?_) (fun c4 => ?_)
      · skip
        refine k_iload_n X dX11_logic_58 rfl 1 rfl rfl ?_
        refine k_if_eq (tgt := 71) X dX11_logic_59 (by decide) rfl (fun c5 => ?_) (fun c5 => ?_)
        · skip
          refine k_iconst X dX11_logic_71 kc_i_0 rfl ?_
          refine k_goto (tgt := 221) X dX11_logic_72 (by decide) ?_
          have e53 : (pX11_logic_221_S1 m_vs1 m_vs2 zO u1 w_L2) = (0 : Int32) := by rw [pX11_logic_221_S1, if_pos c4, if_pos c5]
          rw [e53] at hJ25
          exact k_sub [2, 3, 4, 1, 0] rfl hJ25
        refine k_iload X dX11_logic_62 0 rfl rfl ?_
        refine k_if_ne (tgt := 71) X dX11_logic_64 (by decide) rfl (fun c6 => ?_) (fun c6 => ?_)
        · skip
          refine k_iconst X dX11_logic_67 kc_i_1 rfl ?_
          refine k_goto (tgt := 221) X dX11_logic_68 (by decide) ?_
          have e54 : (pX11_logic_221_S1 m_vs1 m_vs2 zO u1 w_L2) = (1 : Int32) := by rw [pX11_logic_221_S1, if_pos c4, if_neg c5, if_pos c6]
          rw [e54] at hJ25
          exact k_sub [2, 3, 4, 1, 0] rfl hJ25
        refine k_iconst X dX11_logic_71 kc_i_0 rfl ?_
        refine k_goto (tgt := 221) X dX11_logic_72 (by decide) ?_
        have e55 : (pX11_logic_221_S1 m_vs1 m_vs2 zO u1 w_L2) = (0 : Int32) := by rw [pX11_logic_221_S1, if_pos c4, if_neg c5, if_neg c6]
        rw [e55] at hJ25
        exact k_sub [2, 3, 4, 1, 0] rfl hJ25
      refine k_iload_n X dX11_logic_75 rfl 3 rfl rfl ?_
      refine k_bipush X dX11_logic_76 kc_b_25 rfl ?_
      refine k_icmp_ne (tgt := 98) X dX11_logic_78 (by decide) rfl (fun c7 => ?_) (fun c7 => ?_)
      · skip
        refine k_iload_n X dX11_logic_81 rfl 1 rfl rfl ?_
        refine k_if_eq (tgt := 94) X dX11_logic_82 (by decide) rfl (fun c8 => ?_) (fun c8 => ?_)
        · skip
          refine k_iconst X dX11_logic_94 kc_i_0 rfl ?_
          refine k_goto (tgt := 221) X dX11_logic_95 (by decide) ?_
          have e56 : (pX11_logic_221_S1 m_vs1 m_vs2 zO u1 w_L2) = (0 : Int32) := by rw [pX11_logic_221_S1, if_neg c4, if_pos c7, if_pos c8]
          rw [e56] at hJ25
          exact k_sub [2, 3, 4, 1, 0] rfl hJ25
        refine k_iload X dX11_logic_85 0 rfl rfl ?_
        refine k_if_eq (tgt := 94) X dX11_logic_87 (by decide) rfl (fun c9 => ?_) (fun c9 => ?_)
        · skip
          refine k_iconst X dX11_logic_94 kc_i_0 rfl ?_
          refine k_goto (tgt := 221) X dX11_logic_95 (by decide) ?_
          have e57 : (pX11_logic_221_S1 m_vs1 m_vs2 zO u1 w_L2) = (0 : Int32) := by rw [pX11_logic_221_S1, if_neg c4, if_pos c7, if_neg c8, if_pos c9]
          rw [e57] at hJ25
          exact k_sub [2, 3, 4, 1, 0] rfl hJ25
        refine k_iconst X dX11_logic_90 kc_i_1 rfl ?_
        refine k_goto (tgt := 221) X dX11_logic_91 (by decide) ?_
        have e58 : (pX11_logic_221_S1 m_vs1 m_vs2 zO u1 w_L2) = (1 : Int32) := by rw [pX11_logic_221_S1, if_neg c4, if_pos c7, if_neg c8, if_neg c9]
        rw [e58] at hJ25
        exact k_sub [2, 3, 4, 1, 0] rfl hJ25
      refine k_iload_n X dX11_logic_98 rfl 3 rfl rfl ?_
      refine k_bipush X dX11_logic_99 kc_b_26 rfl ?_
      refine k_icmp_ne (tgt := 121) X dX11_logic_101 (by decide) rfl (fun c10 => ?_) (fun c10 => ?_)
      · skip
        refine k_iload_n X dX11_logic_104 rfl 1 rfl rfl ?_
        refine k_if_ne (tgt := 113) X dX11_logic_105 (by decide) rfl (fun c11 => ?_) (fun c11 => ?_)
        · skip
          refine k_iload X dX11_logic_108 0 rfl rfl ?_
          refine k_if_eq (tgt := 117) X dX11_logic_110 (by decide) rfl (fun c12 => ?_) (fun c12 => ?_)
          · skip
            refine k_iconst X dX11_logic_117 kc_i_0 rfl ?_
            refine k_goto (tgt := 221) X dX11_logic_118 (by decide) ?_
            have e59 : (pX11_logic_221_S1 m_vs1 m_vs2 zO u1 w_L2) = (0 : Int32) := by rw [pX11_logic_221_S1, if_neg c4, if_neg c7, if_pos c10, if_pos c11, if_pos c12]
            rw [e59] at hJ25
            exact k_sub [2, 3, 4, 1, 0] rfl hJ25
          refine k_iconst X dX11_logic_113 kc_i_1 rfl ?_
          refine k_goto (tgt := 221) X dX11_logic_114 (by decide) ?_
          have e60 : (pX11_logic_221_S1 m_vs1 m_vs2 zO u1 w_L2) = (1 : Int32) := by rw [pX11_logic_221_S1, if_neg c4, if_neg c7, if_pos c10, if_pos c11, if_neg c12]
          rw [e60] at hJ25
          exact k_sub [2, 3, 4, 1, 0] rfl hJ25
        refine k_iconst X dX11_logic_113 kc_i_1 rfl ?_
        refine k_goto (tgt := 221) X dX11_logic_114 (by decide) ?_
        have e61 : (pX11_logic_221_S1 m_vs1 m_vs2 zO u1 w_L2) = (1 : Int32) := by rw [pX11_logic_221_S1, if_neg c4, if_neg c7, if_pos c10, if_neg c11]
        rw [e61] at hJ25
        exact k_sub [2, 3, 4, 1, 0] rfl hJ25
      refine k_iload_n X dX11_logic_121 rfl 3 rfl rfl ?_
      refine k_bipush X dX11_logic_122 kc_b_27 rfl ?_
      refine k_icmp_ne (tgt := 141) X dX11_logic_124 (by decide) rfl (fun c13 => ?_) (fun c13 => ?_)
      · skip
        refine k_iload_n X dX11_logic_127 rfl 1 rfl rfl ?_
        refine k_iload X dX11_logic_128 0 rfl rfl ?_
        refine k_icmp_eq (tgt := 137) X dX11_logic_130 (by decide) rfl (fun c14 => ?_) (fun c14 => ?_)
        · skip
          refine k_iconst X dX11_logic_137 kc_i_0 rfl ?_
          refine k_goto (tgt := 221) X dX11_logic_138 (by decide) ?_
          have e62 : (pX11_logic_221_S1 m_vs1 m_vs2 zO u1 w_L2) = (0 : Int32) := by rw [pX11_logic_221_S1, if_neg c4, if_neg c7, if_neg c10, if_pos c13, if_pos c14]
          rw [e62] at hJ25
          exact k_sub [2, 3, 4, 1, 0] rfl hJ25
        refine k_iconst X dX11_logic_133 kc_i_1 rfl ?_
        refine k_goto (tgt := 221) X dX11_logic_134 (by decide) ?_
        have e63 : (pX11_logic_221_S1 m_vs1 m_vs2 zO u1 w_L2) = (1 : Int32) := by rw [pX11_logic_221_S1, if_neg c4, if_neg c7, if_neg c10, if_pos c13, if_neg c14]
        rw [e63] at hJ25
        exact k_sub [2, 3, 4, 1, 0] rfl hJ25
      refine k_iload_n X dX11_logic_141 rfl 3 rfl rfl ?_
      refine k_bipush X dX11_logic_142 kc_b_28 rfl ?_
      refine k_icmp_ne (tgt := 164) X dX11_logic_144 (by decide) rfl (fun c15 => ?_) (fun c15 => ?_)
      · skip
        refine k_iload_n X dX11_logic_147 rfl 1 rfl rfl ?_
        refine k_if_ne (tgt := 156) X dX11_logic_148 (by decide) rfl (fun c16 => ?_) (fun c16 => ?_)
        · skip
          refine k_iload X dX11_logic_151 0 rfl rfl ?_
          refine k_if_ne (tgt := 160) X dX11_logic_153 (by decide) rfl (fun c17 => ?_) (fun c17 => ?_)
          · skip
            refine k_iconst X dX11_logic_156 kc_i_1 rfl ?_
            refine k_goto (tgt := 221) X dX11_logic_157 (by decide) ?_
            have e64 : (pX11_logic_221_S1 m_vs1 m_vs2 zO u1 w_L2) = (1 : Int32) := by rw [pX11_logic_221_S1, if_neg c4, if_neg c7, if_neg c10, if_neg c13, if_pos c15, if_pos c16, if_pos c17]
            rw [e64] at hJ25
            exact k_sub [2, 3, 4, 1, 0] rfl hJ25
          refine k_iconst X dX11_logic_160 kc_i_0 rfl ?_
          refine k_goto (tgt := 221) X dX11_logic_161 (by decide) ?_
          have e65 : (pX11_logic_221_S1 m_vs1 m_vs2 zO u1 w_L2) = (0 : Int32) := by rw [pX11_logic_221_S1, if_neg c4, if_neg c7, if_neg c10, if_neg c13, if_pos c15, if_pos c16, if_neg c17]
          rw [e65] at hJ25
          exact k_sub [2, 3, 4, 1, 0] rfl hJ25
        refine k_iconst X dX11_logic_156 kc_i_1 rfl ?_
        refine k_goto (tgt := 221) X dX11_logic_157 (by decide) ?_
        have e66 : (pX11_logic_221_S1 m_vs1 m_vs2 zO u1 w_L2) = (1 : Int32) := by rw [pX11_logic_221_S1, if_neg c4, if_neg c7, if_neg c10, if_neg c13, if_pos c15, if_neg c16]
        rw [e66] at hJ25
        exact k_sub [2, 3, 4, 1, 0] rfl hJ25
      refine k_iload_n X dX11_logic_164 rfl 3 rfl rfl ?_
      refine k_bipush X dX11_logic_165 kc_b_29 rfl ?_
      refine k_icmp_ne (tgt := 187) X dX11_logic_167 (by decide) rfl (fun c18 => ?_) (fun c18 => ?_)
      · skip
        refine k_iload_n X dX11_logic_170 rfl 1 rfl rfl ?_
        refine k_if_eq (tgt := 179) X dX11_logic_171 (by decide) rfl (fun c19 => ?_) (fun c19 => ?_)
        · skip
          refine k_iconst X dX11_logic_179 kc_i_1 rfl ?_
          refine k_goto (tgt := 221) X dX11_logic_180 (by decide) ?_
          have e67 : (pX11_logic_221_S1 m_vs1 m_vs2 zO u1 w_L2) = (1 : Int32) := by rw [pX11_logic_221_S1, if_neg c4, if_neg c7, if_neg c10, if_neg c13, if_neg c15, if_pos c18, if_pos c19]
          rw [e67] at hJ25
          exact k_sub [2, 3, 4, 1, 0] rfl hJ25
        refine k_iload X dX11_logic_174 0 rfl rfl ?_
        refine k_if_ne (tgt := 183) X dX11_logic_176 (by decide) rfl (fun c20 => ?_) (fun c20 => ?_)
        · skip
          refine k_iconst X dX11_logic_179 kc_i_1 rfl ?_
          refine k_goto (tgt := 221) X dX11_logic_180 (by decide) ?_
          have e68 : (pX11_logic_221_S1 m_vs1 m_vs2 zO u1 w_L2) = (1 : Int32) := by rw [pX11_logic_221_S1, if_neg c4, if_neg c7, if_neg c10, if_neg c13, if_neg c15, if_pos c18, if_neg c19, if_pos c20]
          rw [e68] at hJ25
          exact k_sub [2, 3, 4, 1, 0] rfl hJ25
        refine k_iconst X dX11_logic_183 kc_i_0 rfl ?_
        refine k_goto (tgt := 221) X dX11_logic_184 (by decide) ?_
        have e69 : (pX11_logic_221_S1 m_vs1 m_vs2 zO u1 w_L2) = (0 : Int32) := by rw [pX11_logic_221_S1, if_neg c4, if_neg c7, if_neg c10, if_neg c13, if_neg c15, if_pos c18, if_neg c19, if_neg c20]
        rw [e69] at hJ25
        exact k_sub [2, 3, 4, 1, 0] rfl hJ25
      refine k_iload_n X dX11_logic_187 rfl 3 rfl rfl ?_
      refine k_bipush X dX11_logic_188 kc_b_30 rfl ?_
      refine k_icmp_ne (tgt := 210) X dX11_logic_190 (by decide) rfl (fun c21 => ?_) (fun c21 => ?_)
      · skip
        refine k_iload_n X dX11_logic_193 rfl 1 rfl rfl ?_
        refine k_if_ne (tgt := 206) X dX11_logic_194 (by decide) rfl (fun c22 => ?_) (fun c22 => ?_)
        · skip
          refine k_iload X dX11_logic_197 0 rfl rfl ?_
          refine k_if_ne (tgt := 206) X dX11_logic_199 (by decide) rfl (fun c23 => ?_) (fun c23 => ?_)
          · skip
            refine k_iconst X dX11_logic_202 kc_i_1 rfl ?_
            refine k_goto (tgt := 221) X dX11_logic_203 (by decide) ?_
            have e70 : (pX11_logic_221_S1 m_vs1 m_vs2 zO u1 w_L2) = (1 : Int32) := by rw [pX11_logic_221_S1, if_neg c4, if_neg c7, if_neg c10, if_neg c13, if_neg c15, if_neg c18, if_pos c21, if_pos c22, if_pos c23]
            rw [e70] at hJ25
            exact k_sub [2, 3, 4, 1, 0] rfl hJ25
          refine k_iconst X dX11_logic_206 kc_i_0 rfl ?_
          refine k_goto (tgt := 221) X dX11_logic_207 (by decide) ?_
          have e71 : (pX11_logic_221_S1 m_vs1 m_vs2 zO u1 w_L2) = (0 : Int32) := by rw [pX11_logic_221_S1, if_neg c4, if_neg c7, if_neg c10, if_neg c13, if_neg c15, if_neg c18, if_pos c21, if_pos c22, if_neg c23]
          rw [e71] at hJ25
          exact k_sub [2, 3, 4, 1, 0] rfl hJ25
        refine k_iconst X dX11_logic_206 kc_i_0 rfl ?_
        refine k_goto (tgt := 221) X dX11_logic_207 (by decide) ?_
        have e72 : (pX11_logic_221_S1 m_vs1 m_vs2 zO u1 w_L2) = (0 : Int32) := by rw [pX11_logic_221_S1, if_neg c4, if_neg c7, if_neg c10, if_neg c13, if_neg c15, if_neg c18, if_pos c21, if_neg c22]
        rw [e72] at hJ25
        exact k_sub [2, 3, 4, 1, 0] rfl hJ25
      refine k_iload_n X dX11_logic_210 rfl 1 rfl rfl ?_
      refine k_iload X dX11_logic_211 0 rfl rfl ?_
      refine k_icmp_ne (tgt := 220) X dX11_logic_213 (by decide) rfl (fun c24 => ?_) (fun c24 => ?_)
      · skip
        refine k_iconst X dX11_logic_216 kc_i_1 rfl ?_
        refine k_goto (tgt := 221) X dX11_logic_217 (by decide) ?_
        have e73 : (pX11_logic_221_S1 m_vs1 m_vs2 zO u1 w_L2) = (1 : Int32) := by rw [pX11_logic_221_S1, if_neg c4, if_neg c7, if_neg c10, if_neg c13, if_neg c15, if_neg c18, if_neg c21, if_pos c24]
        rw [e73] at hJ25
        exact k_sub [2, 3, 4, 1, 0] rfl hJ25
      refine k_iconst X dX11_logic_220 kc_i_0 rfl ?_
      have e74 : (pX11_logic_221_S1 m_vs1 m_vs2 zO u1 w_L2) = (0 : Int32) := by rw [pX11_logic_221_S1, if_neg c4, if_neg c7, if_neg c10, if_neg c13, if_neg c15, if_neg c18, if_neg c21, if_neg c24]
      rw [e74] at hJ25
      exact k_sub [2, 3, 4, 1, 0] rfl hJ25
    refine k_istore (lv' := [(5, .int (pX11_logic_221_S1 m_vs1 m_vs2 zO u1 w_L2)), (0, .ref b_m), (1, .int u1), (2, .int w_L2), (3, .int (fX11_bit zO m_vs2 w_L2)), (4, .int (fX11_bit zO m_vs1 w_L2))]) X dX11_logic_221 rfl rfl rfl ?_
    refine k_aload_n X dX11_logic_223 rfl 1 rfl rfl ?_
    refine k_aload_n X dX11_logic_224 rfl 1 rfl rfl ?_
    refine k_get X i_wsX110 0 17 q27_3 rfl rfl rfl rfl rfl dX11_logic_225 rfl ?_
    refine k_iload_n X dX11_logic_228 rfl 3 rfl rfl ?_
    refine k_iload X dX11_logic_229 0 rfl rfl ?_
    refine k_cV0 (st := []) (ws' := [(b_m, .inr (10, [.int m_thrown, .ref b_zX, .ref b_zV, .ref b_zO, .ref m_memory, .ref m_shut, .long m_choices, .int m_vl, .int m_vtype, .int m_vstart, .int m_vxrm, .int m_vxsat, .int m_done, .int m_illegal, .int m_traps, .int m_trapAddress, .int m_word, .int m_vd, .int m_vs1, .int m_vs2, .int m_f3, .int m_f6, .int m_sew, .int m_l8, .int m_unmasked])), (b_zX, .inl (kI, 32, .inl zX)), (b_zV, .inl (kI, 512, .inl (fX11_putBit__zV w_zV m_vd w_L2 (pX11_logic_221_S1 m_vs1 m_vs2 zO u1 w_L2)))), (b_zO, .inl (kI, 512, .inl zO))]) (wr := [(b_zX, .inl (kI, 32, .inl zX)), (b_zO, .inl (kI, 512, .inl zO))]) (ci := 10) (q9 := 0) X [.int m_vd, .int w_L2, .int (pX11_logic_221_S1 m_vs1 m_vs2 zO u1 w_L2)] 0 [0, 2] [1, 3] [2, 0, 3, 1] (kX11_putBit l D kI kZ b_m b_zV m_thrown b_zX b_zO m_memory m_shut m_choices m_vl m_vtype m_vstart m_vxrm m_vxsat m_done m_illegal m_traps m_trapAddress m_word m_vd m_vs1 m_vs2 m_f3 m_f6 m_sew m_l8 m_unmasked w_zV m_vd w_L2 (pX11_logic_221_S1 m_vs1 m_vs2 zO u1 w_L2) (hob.2.2 c3)) vX11_putBit q35_23 dX11_logic_231 rfl rfl rfl rfl rfl rfl rfl rfl rfl rfl rfl rfl rfl rfl rfl ?_
    refine k_iinc (lv' := [(2, .int (w_L2 + (1 : Int32))), (5, .int (pX11_logic_221_S1 m_vs1 m_vs2 zO u1 w_L2)), (0, .ref b_m), (1, .int u1), (3, .int (fX11_bit zO m_vs2 w_L2)), (4, .int (fX11_bit zO m_vs1 w_L2))]) X dX11_logic_234 3 rfl kc_i_1 rfl rfl rfl ?_
    refine k_goto (tgt := 23) X dX11_logic_237 (by decide) ?_
    have e75 : bX11_logic_23_L2 m_vl w_L2 w_zV = (w_L2 + (1 : Int32)) := by rw [bX11_logic_23_L2, if_neg c3]
    rw [e75] at g0
    have e76 : bX11_logic_23_zV m_vl m_vd m_vs1 m_vs2 zO u1 w_L2 w_zV = (fX11_putBit__zV w_zV m_vd w_L2 (pX11_logic_221_S1 m_vs1 m_vs2 zO u1 w_L2)) := by rw [bX11_logic_23_zV, if_neg c3]
    rw [e76] at g0
    exact k_sub [2, 3, 0] rfl g0
  try dsimp only
  refine k_iload_n X dX11_logic_23 rfl 2 rfl rfl ?_
  refine k_aload_n X dX11_logic_24 rfl 0 rfl rfl ?_
  refine k_get X i_wsX110 0 7 q28_7 rfl rfl rfl rfl rfl dX11_logic_25 rfl ?_
  refine k_icmp_ge (tgt := 240) X dX11_logic_28 (by decide) rfl (fun c26 => ?_) (fun c26 => ?_)
  · skip
    refine k_aload_n X dX11_logic_240 rfl 0 rfl rfl ?_
    refine k_aload_n X dX11_logic_241 rfl 0 rfl rfl ?_
    refine k_get X i_wsX110 0 17 q27_3 rfl rfl rfl rfl rfl dX11_logic_242 rfl ?_
    refine k_cV0 (st := []) (ws' := [(b_m, .inr (10, [.int m_thrown, .ref b_zX, .ref b_zV, .ref b_zO, .ref m_memory, .ref m_shut, .long m_choices, .int m_vl, .int m_vtype, .int m_vstart, .int m_vxrm, .int m_vxsat, .int m_done, .int m_illegal, .int m_traps, .int m_trapAddress, .int m_word, .int m_vd, .int m_vs1, .int m_vs2, .int m_f3, .int m_f6, .int m_sew, .int m_l8, .int m_unmasked])), (b_zX, .inl (kI, 32, .inl zX)), (b_zV, .inl (kI, 512, .inl (fX11_maskTail__zV m_choices m_vl ((LX11_logic_23 m_vl m_vd m_vs1 m_vs2 zO u1 (cnt m_vstart m_vl) (m_vstart, zV)).2) m_vd))), (b_zO, .inl (kI, 512, .inl zO))]) (wr := [(b_zX, .inl (kI, 32, .inl zX)), (b_zO, .inl (kI, 512, .inl zO))]) (ci := 10) (q9 := 0) X [.int m_vd] 0 [0, 2] [1, 3] [2, 0, 3, 1] (kX11_maskTail l D kI kZ b_m b_zV m_thrown b_zX b_zO m_memory m_shut m_choices m_vl m_vtype m_vstart m_vxrm m_vxsat m_done m_illegal m_traps m_trapAddress m_word m_vd m_vs1 m_vs2 m_f3 m_f6 m_sew m_l8 m_unmasked ((LX11_logic_23 m_vl m_vd m_vs1 m_vs2 zO u1 (cnt m_vstart m_vl) (m_vstart, zV)).2) m_vd (hok.2.2.1 c1 c2 c26)) vX11_maskTail q36_3 dX11_logic_245 rfl rfl rfl rfl rfl rfl rfl rfl rfl rfl rfl rfl rfl rfl rfl ?_
    refine k_iconst X dX11_logic_248 kc_i_1 rfl ?_
    have e77 : (fX11_logic m_unmasked) = (1 : Int32) := by rw [fX11_logic, if_neg c1]
    have e78 : (fX11_logic__zV m_choices m_vl m_vstart m_vd m_vs1 m_vs2 m_unmasked zV zO u1) = (fX11_maskTail__zV m_choices m_vl ((LX11_logic_23 m_vl m_vd m_vs1 m_vs2 zO u1 (cnt m_vstart m_vl) (m_vstart, zV)).2) m_vd) := by rw [fX11_logic__zV, if_neg c1, if_neg c2]
    exact k_zret9 X hRt hLk rfl e77.symm (by rw [e78]) dX11_logic_249
  refine k_aload_n X dX11_logic_31 rfl 0 rfl rfl ?_
  refine k_aload_n X dX11_logic_32 rfl 0 rfl rfl ?_
  refine k_get X i_wsX110 0 19 q27_6 rfl rfl rfl rfl rfl dX11_logic_33 rfl ?_
  refine k_iload_n X dX11_logic_36 rfl 2 rfl rfl ?_
  refine k_cV1 (st := []) (ws' := [(b_m, .inr (10, [.int m_thrown, .ref b_zX, .ref b_zV, .ref b_zO, .ref m_memory, .ref m_shut, .long m_choices, .int m_vl, .int m_vtype, .int m_vstart, .int m_vxrm, .int m_vxsat, .int m_done, .int m_illegal, .int m_traps, .int m_trapAddress, .int m_word, .int m_vd, .int m_vs1, .int m_vs2, .int m_f3, .int m_f6, .int m_sew, .int m_l8, .int m_unmasked])), (b_zX, .inl (kI, 32, .inl zX)), (b_zV, .inl (kI, 512, .inl ((LX11_logic_23 m_vl m_vd m_vs1 m_vs2 zO u1 (cnt m_vstart m_vl) (m_vstart, zV)).2))), (b_zO, .inl (kI, 512, .inl zO))]) (wr := [(b_zX, .inl (kI, 32, .inl zX)), (b_zV, .inl (kI, 512, .inl ((LX11_logic_23 m_vl m_vd m_vs1 m_vs2 zO u1 (cnt m_vstart m_vl) (m_vstart, zV)).2)))]) (ci := 10) (q9 := 0) X [.int m_vs2, .int ((LX11_logic_23 m_vl m_vd m_vs1 m_vs2 zO u1 (cnt m_vstart m_vl) (m_vstart, zV)).1)] 0 [0, 3] [1, 2] [2, 0, 1, 3] (kX11_bit l D kI kZ b_m b_zO m_thrown b_zX b_zV m_memory m_shut m_choices m_vl m_vtype m_vstart m_vxrm m_vxsat m_done m_illegal m_traps m_trapAddress m_word m_vd m_vs1 m_vs2 m_f3 m_f6 m_sew m_l8 m_unmasked zO m_vs2 ((LX11_logic_23 m_vl m_vd m_vs1 m_vs2 zO u1 (cnt m_vstart m_vl) (m_vstart, zV)).1) (hok.2.2.2.1 c1 c2 c26)) vX11_bit q31_10 dX11_logic_37 rfl rfl rfl rfl rfl rfl rfl rfl rfl rfl rfl rfl rfl rfl rfl ?_
  refine k_istore_n (lv' := [(3, .int (fX11_bit zO m_vs2 ((LX11_logic_23 m_vl m_vd m_vs1 m_vs2 zO u1 (cnt m_vstart m_vl) (m_vstart, zV)).1))), (0, .ref b_m), (1, .int u1), (2, .int ((LX11_logic_23 m_vl m_vd m_vs1 m_vs2 zO u1 (cnt m_vstart m_vl) (m_vstart, zV)).1))]) X dX11_logic_40 rfl rfl rfl rfl ?_
  refine k_aload_n X dX11_logic_41 rfl 1 rfl rfl ?_
  refine k_aload_n X dX11_logic_42 rfl 1 rfl rfl ?_
  refine k_get X i_wsX110 0 18 q27_5 rfl rfl rfl rfl rfl dX11_logic_43 rfl ?_
  refine k_iload_n X dX11_logic_46 rfl 3 rfl rfl ?_
  refine k_cV1 (st := []) (ws' := [(b_m, .inr (10, [.int m_thrown, .ref b_zX, .ref b_zV, .ref b_zO, .ref m_memory, .ref m_shut, .long m_choices, .int m_vl, .int m_vtype, .int m_vstart, .int m_vxrm, .int m_vxsat, .int m_done, .int m_illegal, .int m_traps, .int m_trapAddress, .int m_word, .int m_vd, .int m_vs1, .int m_vs2, .int m_f3, .int m_f6, .int m_sew, .int m_l8, .int m_unmasked])), (b_zX, .inl (kI, 32, .inl zX)), (b_zV, .inl (kI, 512, .inl ((LX11_logic_23 m_vl m_vd m_vs1 m_vs2 zO u1 (cnt m_vstart m_vl) (m_vstart, zV)).2))), (b_zO, .inl (kI, 512, .inl zO))]) (wr := [(b_zX, .inl (kI, 32, .inl zX)), (b_zV, .inl (kI, 512, .inl ((LX11_logic_23 m_vl m_vd m_vs1 m_vs2 zO u1 (cnt m_vstart m_vl) (m_vstart, zV)).2)))]) (ci := 10) (q9 := 0) X [.int m_vs1, .int ((LX11_logic_23 m_vl m_vd m_vs1 m_vs2 zO u1 (cnt m_vstart m_vl) (m_vstart, zV)).1)] 0 [0, 3] [1, 2] [2, 0, 1, 3] (kX11_bit l D kI kZ b_m b_zO m_thrown b_zX b_zV m_memory m_shut m_choices m_vl m_vtype m_vstart m_vxrm m_vxsat m_done m_illegal m_traps m_trapAddress m_word m_vd m_vs1 m_vs2 m_f3 m_f6 m_sew m_l8 m_unmasked zO m_vs1 ((LX11_logic_23 m_vl m_vd m_vs1 m_vs2 zO u1 (cnt m_vstart m_vl) (m_vstart, zV)).1) (hok.2.2.2.2.1 c1 c2 c26)) vX11_bit q31_10 dX11_logic_47 rfl rfl rfl rfl rfl rfl rfl rfl rfl rfl rfl rfl rfl rfl rfl ?_
  refine k_istore (lv' := [(4, .int (fX11_bit zO m_vs1 ((LX11_logic_23 m_vl m_vd m_vs1 m_vs2 zO u1 (cnt m_vstart m_vl) (m_vstart, zV)).1))), (3, .int (fX11_bit zO m_vs2 ((LX11_logic_23 m_vl m_vd m_vs1 m_vs2 zO u1 (cnt m_vstart m_vl) (m_vstart, zV)).1))), (0, .ref b_m), (1, .int u1), (2, .int ((LX11_logic_23 m_vl m_vd m_vs1 m_vs2 zO u1 (cnt m_vstart m_vl) (m_vstart, zV)).1))]) X dX11_logic_50 rfl rfl rfl ?_
  refine k_iload_n X dX11_logic_52 rfl 3 rfl rfl ?_
  refine k_bipush X dX11_logic_53 kc_b_24 rfl ?_
  refine k_mid2 [(b_m, .inr (10, [.int m_thrown, .ref b_zX, .ref b_zV, .ref b_zO, .ref m_memory, .ref m_shut, .long m_choices, .int m_vl, .int m_vtype, .int m_vstart, .int m_vxrm, .int m_vxsat, .int m_done, .int m_illegal, .int m_traps, .int m_trapAddress, .int m_word, .int m_vd, .int m_vs1, .int m_vs2, .int m_f3, .int m_f6, .int m_sew, .int m_l8, .int m_unmasked])), (b_zX, .inl (kI, 32, .inl zX)), (b_zV, .inl (kI, 512, .inl ((LX11_logic_23 m_vl m_vd m_vs1 m_vs2 zO u1 (cnt m_vstart m_vl) (m_vstart, zV)).2))), (b_zO, .inl (kI, 512, .inl zO))] [(0, .ref b_m), (1, .int u1), (2, .int ((LX11_logic_23 m_vl m_vd m_vs1 m_vs2 zO u1 (cnt m_vstart m_vl) (m_vstart, zV)).1)), (3, .int (fX11_bit zO m_vs2 ((LX11_logic_23 m_vl m_vd m_vs1 m_vs2 zO u1 (cnt m_vstart m_vl) (m_vstart, zV)).1))), (4, .int (fX11_bit zO m_vs1 ((LX11_logic_23 m_vl m_vd m_vs1 m_vs2 zO u1 (cnt m_vstart m_vl) (m_vstart, zV)).1)))] [.int (pX11_logic_221_S1 m_vs1 m_vs2 zO u1 ((LX11_logic_23 m_vl m_vd m_vs1 m_vs2 zO u1 (cnt m_vstart m_vl) (m_vstart, zV)).1))] 221 (fun hJ48 => ?_) ?_
  · skip
    refine k_icmp_ne (tgt := 75) X dX11_logic_55 (by decide) rfl (fun c27 => ?_) (fun c27 => ?_)
    · skip
      refine k_iload_n X dX11_logic_58 rfl 1 rfl rfl ?_
      refine k_if_eq (tgt := 71) X dX11_logic_59 (by decide) rfl (fun c28 => ?_) (fun c28 => ?_)
      · skip
        refine k_iconst X dX11_logic_71 kc_i_0 rfl ?_
        refine k_goto (tgt := 221) X dX11_logic_72 (by decide) ?_
        have e79 : (pX11_logic_221_S1 m_vs1 m_vs2 zO u1 ((LX11_logic_23 m_vl m_vd m_vs1 m_vs2 zO u1 (cnt m_vstart m_vl) (m_vstart, zV)).1)) = (0 : Int32) := by rw [pX11_logic_221_S1, if_pos c27, if_pos c28]
        rw [e79] at hJ48
        exact k_sub [2, 3, 4, 1, 0] rfl hJ48
      refine k_iload X dX11_logic_62 0 rfl rfl ?_
      refine k_if_ne (tgt := 71) X dX11_logic_64 (by decide) rfl (fun c29 => ?_) (fun c29 => ?_)
      · skip
        refine k_iconst X dX11_logic_67 kc_i_1 rfl ?_
        refine k_goto (tgt := 221) X dX11_logic_68 (by decide) ?_
        have e80 : (pX11_logic_221_S1 m_vs1 m_vs2 zO u1 ((LX11_logic_23 m_vl m_vd m_vs1 m_vs2 zO u1 (cnt m_vstart m_vl) (m_vstart, zV)).1)) = (1 : Int32) := by rw [pX11_logic_221_S1, if_pos c27, if_neg c28, if_pos c29]
        rw [e80] at hJ48
        exact k_sub [2, 3, 4, 1, 0] rfl hJ48
      refine k_iconst X dX11_logic_71 kc_i_0 rfl ?_
      refine k_goto (tgt := 221) X dX11_logic_72 (by decide) ?_
      have e81 : (pX11_logic_221_S1 m_vs1 m_vs2 zO u1 ((LX11_logic_23 m_vl m_vd m_vs1 m_vs2 zO u1 (cnt m_vstart m_vl) (m_vstart, zV)).1)) = (0 : Int32) := by rw [pX11_logic_221_S1, if_pos c27, if_neg c28, if_neg c29]
      rw [e81] at hJ48
      exact k_sub [2, 3, 4, 1, 0] rfl hJ48
    refine k_iload_n X dX11_logic_75 rfl 3 rfl rfl ?_
    refine k_bipush X dX11_logic_76 kc_b_25 rfl ?_
    refine k_icmp_ne (tgt := 98) X dX11_logic_78 (by decide) rfl (fun c30 => ?_) (fun c30 => ?_)
    · skip
      refine k_iload_n X dX11_logic_81 rfl 1 rfl rfl ?_
      refine k_if_eq (tgt := 94) X dX11_logic_82 (by decide) rfl (fun c31 => ?_) (fun c31 => ?_)
      · skip
        refine k_iconst X dX11_logic_94 kc_i_0 rfl ?_
        refine k_goto (tgt := 221) X dX11_logic_95 (by decide) ?_
        have e82 : (pX11_logic_221_S1 m_vs1 m_vs2 zO u1 ((LX11_logic_23 m_vl m_vd m_vs1 m_vs2 zO u1 (cnt m_vstart m_vl) (m_vstart, zV)).1)) = (0 : Int32) := by rw [pX11_logic_221_S1, if_neg c27, if_pos c30, if_pos c31]
        rw [e82] at hJ48
        exact k_sub [2, 3, 4, 1, 0] rfl hJ48
      refine k_iload X dX11_logic_85 0 rfl rfl ?_
      refine k_if_eq (tgt := 94) X dX11_logic_87 (by decide) rfl (fun c32 => ?_) (fun c32 => ?_)
      · skip
        refine k_iconst X dX11_logic_94 kc_i_0 rfl ?_
        refine k_goto (tgt := 221) X dX11_logic_95 (by decide) ?_
        have e83 : (pX11_logic_221_S1 m_vs1 m_vs2 zO u1 ((LX11_logic_23 m_vl m_vd m_vs1 m_vs2 zO u1 (cnt m_vstart m_vl) (m_vstart, zV)).1)) = (0 : Int32) := by rw [pX11_logic_221_S1, if_neg c27, if_pos c30, if_neg c31, if_pos c32]
        rw [e83] at hJ48
        exact k_sub [2, 3, 4, 1, 0] rfl hJ48
      refine k_iconst X dX11_logic_90 kc_i_1 rfl ?_
      refine k_goto (tgt := 221) X dX11_logic_91 (by decide) ?_
      have e84 : (pX11_logic_221_S1 m_vs1 m_vs2 zO u1 ((LX11_logic_23 m_vl m_vd m_vs1 m_vs2 zO u1 (cnt m_vstart m_vl) (m_vstart, zV)).1)) = (1 : Int32) := by rw [pX11_logic_221_S1, if_neg c27, if_pos c30, if_neg c31, if_neg c32]
      rw [e84] at hJ48
      exact k_sub [2, 3, 4, 1, 0] rfl hJ48
    refine k_iload_n X dX11_logic_98 rfl 3 rfl rfl ?_
    refine k_bipush X dX11_logic_99 kc_b_26 rfl ?_
    refine k_icmp_ne (tgt := 121) X dX11_logic_101 (by decide) rfl (fun c33 => ?_) (fun c33 => ?_)
    · skip
      refine k_iload_n X dX11_logic_104 rfl 1 rfl rfl ?_
      refine k_if_ne (tgt := 113) X dX11_logic_105 (by decide) rfl (fun c34 => ?_) (fun c34 => ?_)
      · skip
        refine k_iload X dX11_logic_108 0 rfl rfl ?_
        refine k_if_eq (tgt := 117) X dX11_logic_110 (by decide) rfl (fun c35 => ?_) (fun c35 => ?_)
        · skip
          refine k_iconst X dX11_logic_117 kc_i_0 rfl ?_
          refine k_goto (tgt := 221) X dX11_logic_118 (by decide) ?_
          have e85 : (pX11_logic_221_S1 m_vs1 m_vs2 zO u1 ((LX11_logic_23 m_vl m_vd m_vs1 m_vs2 zO u1 (cnt m_vstart m_vl) (m_vstart, zV)).1)) = (0 : Int32) := by rw [pX11_logic_221_S1, if_neg c27, if_neg c30, if_pos c33, if_pos c34, if_pos c35]
          rw [e85] at hJ48
          exact k_sub [2, 3, 4, 1, 0] rfl hJ48
        refine k_iconst X dX11_logic_113 kc_i_1 rfl ?_
        refine k_goto (tgt := 221) X dX11_logic_114 (by decide) ?_
        have e86 : (pX11_logic_221_S1 m_vs1 m_vs2 zO u1 ((LX11_logic_23 m_vl m_vd m_vs1 m_vs2 zO u1 (cnt m_vstart m_vl) (m_vstart, zV)).1)) = (1 : Int32) := by rw [pX11_logic_221_S1, if_neg c27, if_neg c30, if_pos c33, if_pos c34, if_neg c35]
        rw [e86] at hJ48
        exact k_sub [2, 3, 4, 1, 0] rfl hJ48
      refine k_iconst X dX11_logic_113 kc_i_1 rfl ?_
      refine k_goto (tgt := 221) X dX11_logic_114 (by decide) ?_
      have e87 : (pX11_logic_221_S1 m_vs1 m_vs2 zO u1 ((LX11_logic_23 m_vl m_vd m_vs1 m_vs2 zO u1 (cnt m_vstart m_vl) (m_vstart, zV)).1)) = (1 : Int32) := by rw [pX11_logic_221_S1, if_neg c27, if_neg c30, if_pos c33, if_neg c34]
      rw [e87] at hJ48
      exact k_sub [2, 3, 4, 1, 0] rfl hJ48
    refine k_iload_n X dX11_logic_121 rfl 3 rfl rfl ?_
    refine k_bipush X dX11_logic_122 kc_b_27 rfl ?_
    refine k_icmp_ne (tgt := 141) X dX11_logic_124 (by decide) rfl (fun c36 => ?_) (fun c36 => ?_)
    · skip
      refine k_iload_n X dX11_logic_127 rfl 1 rfl rfl ?_
      refine k_iload X dX11_logic_128 0 rfl rfl ?_
      refine k_icmp_eq (tgt := 137) X dX11_logic_130 (by decide) rfl (fun c37 => ?_) (fun c37 => ?_)
      · skip
        refine k_iconst X dX11_logic_137 kc_i_0 rfl ?_
        refine k_goto (tgt := 221) X dX11_logic_138 (by decide) ?_
        have e88 : (pX11_logic_221_S1 m_vs1 m_vs2 zO u1 ((LX11_logic_23 m_vl m_vd m_vs1 m_vs2 zO u1 (cnt m_vstart m_vl) (m_vstart, zV)).1)) = (0 : Int32) := by rw [pX11_logic_221_S1, if_neg c27, if_neg c30, if_neg c33, if_pos c36, if_pos c37]
        rw [e88] at hJ48
        exact k_sub [2, 3, 4, 1, 0] rfl hJ48
      refine k_iconst X dX11_logic_133 kc_i_1 rfl ?_
      refine k_goto (tgt := 221) X dX11_logic_134 (by decide) ?_
      have e89 : (pX11_logic_221_S1 m_vs1 m_vs2 zO u1 ((LX11_logic_23 m_vl m_vd m_vs1 m_vs2 zO u1 (cnt m_vstart m_vl) (m_vstart, zV)).1)) = (1 : Int32) := by rw [pX11_logic_221_S1, if_neg c27, if_neg c30, if_neg c33, if_pos c36, if_neg c37]
      rw [e89] at hJ48
      exact k_sub [2, 3, 4, 1, 0] rfl hJ48
    refine k_iload_n X dX11_logic_141 rfl 3 rfl rfl ?_
    refine k_bipush X dX11_logic_142 kc_b_28 rfl ?_
    refine k_icmp_ne (tgt := 164) X dX11_logic_144 (by decide) rfl (fun c38 => ?_) (fun c38 => ?_)
    · skip
      refine k_iload_n X dX11_logic_147 rfl 1 rfl rfl ?_
      refine k_if_ne (tgt := 156) X dX11_logic_148 (by decide) rfl (fun c39 => ?_) (fun c39 => ?_)
      · skip
        refine k_iload X dX11_logic_151 0 rfl rfl ?_
        refine k_if_ne (tgt := 160) X dX11_logic_153 (by decide) rfl (fun c40 => ?_) (fun c40 => ?_)
        · skip
          refine k_iconst X dX11_logic_156 kc_i_1 rfl ?_
          refine k_goto (tgt := 221) X dX11_logic_157 (by decide) ?_
          have e90 : (pX11_logic_221_S1 m_vs1 m_vs2 zO u1 ((LX11_logic_23 m_vl m_vd m_vs1 m_vs2 zO u1 (cnt m_vstart m_vl) (m_vstart, zV)).1)) = (1 : Int32) := by rw [pX11_logic_221_S1, if_neg c27, if_neg c30, if_neg c33, if_neg c36, if_pos c38, if_pos c39, if_pos c40]
          rw [e90] at hJ48
          exact k_sub [2, 3, 4, 1, 0] rfl hJ48
        refine k_iconst X dX11_logic_160 kc_i_0 rfl ?_
        refine k_goto (tgt := 221) X dX11_logic_161 (by decide) ?_
        have e91 : (pX11_logic_221_S1 m_vs1 m_vs2 zO u1 ((LX11_logic_23 m_vl m_vd m_vs1 m_vs2 zO u1 (cnt m_vstart m_vl) (m_vstart, zV)).1)) = (0 : Int32) := by rw [pX11_logic_221_S1, if_neg c27, if_neg c30, if_neg c33, if_neg c36, if_pos c38, if_pos c39, if_neg c40]
        rw [e91] at hJ48
        exact k_sub [2, 3, 4, 1, 0] rfl hJ48
      refine k_iconst X dX11_logic_156 kc_i_1 rfl ?_
      refine k_goto (tgt := 221) X dX11_logic_157 (by decide) ?_
      have e92 : (pX11_logic_221_S1 m_vs1 m_vs2 zO u1 ((LX11_logic_23 m_vl m_vd m_vs1 m_vs2 zO u1 (cnt m_vstart m_vl) (m_vstart, zV)).1)) = (1 : Int32) := by rw [pX11_logic_221_S1, if_neg c27, if_neg c30, if_neg c33, if_neg c36, if_pos c38, if_neg c39]
      rw [e92] at hJ48
      exact k_sub [2, 3, 4, 1, 0] rfl hJ48
    refine k_iload_n X dX11_logic_164 rfl 3 rfl rfl ?_
    refine k_bipush X dX11_logic_165 kc_b_29 rfl ?_
    refine k_icmp_ne (tgt := 187) X dX11_logic_167 (by decide) rfl (fun c41 => ?_) (fun c41 => ?_)
    · skip
      refine k_iload_n X dX11_logic_170 rfl 1 rfl rfl ?_
      refine k_if_eq (tgt := 179) X dX11_logic_171 (by decide) rfl (fun c42 => ?_) (fun c42 => ?_)
      · skip
        refine k_iconst X dX11_logic_179 kc_i_1 rfl ?_
        refine k_goto (tgt := 221) X dX11_logic_180 (by decide) ?_
        have e93 : (pX11_logic_221_S1 m_vs1 m_vs2 zO u1 ((LX11_logic_23 m_vl m_vd m_vs1 m_vs2 zO u1 (cnt m_vstart m_vl) (m_vstart, zV)).1)) = (1 : Int32) := by rw [pX11_logic_221_S1, if_neg c27, if_neg c30, if_neg c33, if_neg c36, if_neg c38, if_pos c41, if_pos c42]
        rw [e93] at hJ48
        exact k_sub [2, 3, 4, 1, 0] rfl hJ48
      refine k_iload X dX11_logic_174 0 rfl rfl ?_
      refine k_if_ne (tgt := 183) X dX11_logic_176 (by decide) rfl (fun c43 => ?_) (fun c43 => ?_)
      · skip
        refine k_iconst X dX11_logic_179 kc_i_1 rfl ?_
        refine k_goto (tgt := 221) X dX11_logic_180 (by decide) ?_
        have e94 : (pX11_logic_221_S1 m_vs1 m_vs2 zO u1 ((LX11_logic_23 m_vl m_vd m_vs1 m_vs2 zO u1 (cnt m_vstart m_vl) (m_vstart, zV)).1)) = (1 : Int32) := by rw [pX11_logic_221_S1, if_neg c27, if_neg c30, if_neg c33, if_neg c36, if_neg c38, if_pos c41, if_neg c42, if_pos c43]
        rw [e94] at hJ48
        exact k_sub [2, 3, 4, 1, 0] rfl hJ48
      refine k_iconst X dX11_logic_183 kc_i_0 rfl ?_
      refine k_goto (tgt := 221) X dX11_logic_184 (by decide) ?_
      have e95 : (pX11_logic_221_S1 m_vs1 m_vs2 zO u1 ((LX11_logic_23 m_vl m_vd m_vs1 m_vs2 zO u1 (cnt m_vstart m_vl) (m_vstart, zV)).1)) = (0 : Int32) := by rw [pX11_logic_221_S1, if_neg c27, if_neg c30, if_neg c33, if_neg c36, if_neg c38, if_pos c41, if_neg c42, if_neg c43]
      rw [e95] at hJ48
      exact k_sub [2, 3, 4, 1, 0] rfl hJ48
    refine k_iload_n X dX11_logic_187 rfl 3 rfl rfl ?_
    refine k_bipush X dX11_logic_188 kc_b_30 rfl ?_
    refine k_icmp_ne (tgt := 210) X dX11_logic_190 (by decide) rfl (fun c44 => ?_) (fun c44 => ?_)
    · skip
      refine k_iload_n X dX11_logic_193 rfl 1 rfl rfl ?_
      refine k_if_ne (tgt := 206) X dX11_logic_194 (by decide) rfl (fun c45 => ?_) (fun c45 => ?_)
      · skip
        refine k_iload X dX11_logic_197 0 rfl rfl ?_
        refine k_if_ne (tgt := 206) X dX11_logic_199 (by decide) rfl (fun c46 => ?_) (fun c46 => ?_)
        · skip
          refine k_iconst X dX11_logic_202 kc_i_1 rfl ?_
          refine k_goto (tgt := 221) X dX11_logic_203 (by decide) ?_
          have e96 : (pX11_logic_221_S1 m_vs1 m_vs2 zO u1 ((LX11_logic_23 m_vl m_vd m_vs1 m_vs2 zO u1 (cnt m_vstart m_vl) (m_vstart, zV)).1)) = (1 : Int32) := by rw [pX11_logic_221_S1, if_neg c27, if_neg c30, if_neg c33, if_neg c36, if_neg c38, if_neg c41, if_pos c44, if_pos c45, if_pos c46]
          rw [e96] at hJ48
          exact k_sub [2, 3, 4, 1, 0] rfl hJ48
        refine k_iconst X dX11_logic_206 kc_i_0 rfl ?_
        refine k_goto (tgt := 221) X dX11_logic_207 (by decide) ?_
        have e97 : (pX11_logic_221_S1 m_vs1 m_vs2 zO u1 ((LX11_logic_23 m_vl m_vd m_vs1 m_vs2 zO u1 (cnt m_vstart m_vl) (m_vstart, zV)).1)) = (0 : Int32) := by rw [pX11_logic_221_S1, if_neg c27, if_neg c30, if_neg c33, if_neg c36, if_neg c38, if_neg c41, if_pos c44, if_pos c45, if_neg c46]
        rw [e97] at hJ48
        exact k_sub [2, 3, 4, 1, 0] rfl hJ48
      refine k_iconst X dX11_logic_206 kc_i_0 rfl ?_
      refine k_goto (tgt := 221) X dX11_logic_207 (by decide) ?_
      have e98 : (pX11_logic_221_S1 m_vs1 m_vs2 zO u1 ((LX11_logic_23 m_vl m_vd m_vs1 m_vs2 zO u1 (cnt m_vstart m_vl) (m_vstart, zV)).1)) = (0 : Int32) := by rw [pX11_logic_221_S1, if_neg c27, if_neg c30, if_neg c33, if_neg c36, if_neg c38, if_neg c41, if_pos c44, if_neg c45]
      rw [e98] at hJ48
      exact k_sub [2, 3, 4, 1, 0] rfl hJ48
    refine k_iload_n X dX11_logic_210 rfl 1 rfl rfl ?_
    refine k_iload X dX11_logic_211 0 rfl rfl ?_
    refine k_icmp_ne (tgt := 220) X dX11_logic_213 (by decide) rfl (fun c47 => ?_) (fun c47 => ?_)
    · skip
      refine k_iconst X dX11_logic_216 kc_i_1 rfl ?_
      refine k_goto (tgt := 221) X dX11_logic_217 (by decide) ?_
      have e99 : (pX11_logic_221_S1 m_vs1 m_vs2 zO u1 ((LX11_logic_23 m_vl m_vd m_vs1 m_vs2 zO u1 (cnt m_vstart m_vl) (m_vstart, zV)).1)) = (1 : Int32) := by rw [pX11_logic_221_S1, if_neg c27, if_neg c30, if_neg c33, if_neg c36, if_neg c38, if_neg c41, if_neg c44, if_pos c47]
      rw [e99] at hJ48
      exact k_sub [2, 3, 4, 1, 0] rfl hJ48
    refine k_iconst X dX11_logic_220 kc_i_0 rfl ?_
    have e100 : (pX11_logic_221_S1 m_vs1 m_vs2 zO u1 ((LX11_logic_23 m_vl m_vd m_vs1 m_vs2 zO u1 (cnt m_vstart m_vl) (m_vstart, zV)).1)) = (0 : Int32) := by rw [pX11_logic_221_S1, if_neg c27, if_neg c30, if_neg c33, if_neg c36, if_neg c38, if_neg c41, if_neg c44, if_neg c47]
    rw [e100] at hJ48
    exact k_sub [2, 3, 4, 1, 0] rfl hJ48
  refine k_istore (lv' := [(5, .int (pX11_logic_221_S1 m_vs1 m_vs2 zO u1 ((LX11_logic_23 m_vl m_vd m_vs1 m_vs2 zO u1 (cnt m_vstart m_vl) (m_vstart, zV)).1))), (0, .ref b_m), (1, .int u1), (2, .int ((LX11_logic_23 m_vl m_vd m_vs1 m_vs2 zO u1 (cnt m_vstart m_vl) (m_vstart, zV)).1)), (3, .int (fX11_bit zO m_vs2 ((LX11_logic_23 m_vl m_vd m_vs1 m_vs2 zO u1 (cnt m_vstart m_vl) (m_vstart, zV)).1))), (4, .int (fX11_bit zO m_vs1 ((LX11_logic_23 m_vl m_vd m_vs1 m_vs2 zO u1 (cnt m_vstart m_vl) (m_vstart, zV)).1)))]) X dX11_logic_221 rfl rfl rfl ?_
  refine k_aload_n X dX11_logic_223 rfl 1 rfl rfl ?_
  refine k_aload_n X dX11_logic_224 rfl 1 rfl rfl ?_
  refine k_get X i_wsX110 0 17 q27_3 rfl rfl rfl rfl rfl dX11_logic_225 rfl ?_
  refine k_iload_n X dX11_logic_228 rfl 3 rfl rfl ?_
  refine k_iload X dX11_logic_229 0 rfl rfl ?_
  refine k_cV0 (st := []) (ws' := [(b_m, .inr (10, [.int m_thrown, .ref b_zX, .ref b_zV, .ref b_zO, .ref m_memory, .ref m_shut, .long m_choices, .int m_vl, .int m_vtype, .int m_vstart, .int m_vxrm, .int m_vxsat, .int m_done, .int m_illegal, .int m_traps, .int m_trapAddress, .int m_word, .int m_vd, .int m_vs1, .int m_vs2, .int m_f3, .int m_f6, .int m_sew, .int m_l8, .int m_unmasked])), (b_zX, .inl (kI, 32, .inl zX)), (b_zV, .inl (kI, 512, .inl (fX11_putBit__zV ((LX11_logic_23 m_vl m_vd m_vs1 m_vs2 zO u1 (cnt m_vstart m_vl) (m_vstart, zV)).2) m_vd ((LX11_logic_23 m_vl m_vd m_vs1 m_vs2 zO u1 (cnt m_vstart m_vl) (m_vstart, zV)).1) (pX11_logic_221_S1 m_vs1 m_vs2 zO u1 ((LX11_logic_23 m_vl m_vd m_vs1 m_vs2 zO u1 (cnt m_vstart m_vl) (m_vstart, zV)).1))))), (b_zO, .inl (kI, 512, .inl zO))]) (wr := [(b_zX, .inl (kI, 32, .inl zX)), (b_zO, .inl (kI, 512, .inl zO))]) (ci := 10) (q9 := 0) X [.int m_vd, .int ((LX11_logic_23 m_vl m_vd m_vs1 m_vs2 zO u1 (cnt m_vstart m_vl) (m_vstart, zV)).1), .int (pX11_logic_221_S1 m_vs1 m_vs2 zO u1 ((LX11_logic_23 m_vl m_vd m_vs1 m_vs2 zO u1 (cnt m_vstart m_vl) (m_vstart, zV)).1))] 0 [0, 2] [1, 3] [2, 0, 3, 1] (kX11_putBit l D kI kZ b_m b_zV m_thrown b_zX b_zO m_memory m_shut m_choices m_vl m_vtype m_vstart m_vxrm m_vxsat m_done m_illegal m_traps m_trapAddress m_word m_vd m_vs1 m_vs2 m_f3 m_f6 m_sew m_l8 m_unmasked ((LX11_logic_23 m_vl m_vd m_vs1 m_vs2 zO u1 (cnt m_vstart m_vl) (m_vstart, zV)).2) m_vd ((LX11_logic_23 m_vl m_vd m_vs1 m_vs2 zO u1 (cnt m_vstart m_vl) (m_vstart, zV)).1) (pX11_logic_221_S1 m_vs1 m_vs2 zO u1 ((LX11_logic_23 m_vl m_vd m_vs1 m_vs2 zO u1 (cnt m_vstart m_vl) (m_vstart, zV)).1)) (hok.2.2.2.2.2 c1 c2 c26)) vX11_putBit q35_23 dX11_logic_231 rfl rfl rfl rfl rfl rfl rfl rfl rfl rfl rfl rfl rfl rfl rfl ?_
  refine k_iinc (lv' := [(2, .int ((LX11_logic_23 m_vl m_vd m_vs1 m_vs2 zO u1 (cnt m_vstart m_vl) (m_vstart, zV)).1 + (1 : Int32))), (5, .int (pX11_logic_221_S1 m_vs1 m_vs2 zO u1 ((LX11_logic_23 m_vl m_vd m_vs1 m_vs2 zO u1 (cnt m_vstart m_vl) (m_vstart, zV)).1))), (0, .ref b_m), (1, .int u1), (3, .int (fX11_bit zO m_vs2 ((LX11_logic_23 m_vl m_vd m_vs1 m_vs2 zO u1 (cnt m_vstart m_vl) (m_vstart, zV)).1))), (4, .int (fX11_bit zO m_vs1 ((LX11_logic_23 m_vl m_vd m_vs1 m_vs2 zO u1 (cnt m_vstart m_vl) (m_vstart, zV)).1)))]) X dX11_logic_234 3 rfl kc_i_1 rfl rfl rfl ?_
  refine k_goto (tgt := 23) X dX11_logic_237 (by decide) ?_
  exact absurd (show tX11_logic_23 m_vl ((LX11_logic_23 m_vl m_vd m_vs1 m_vs2 zO u1 (cnt m_vstart m_vl) (m_vstart, zV)).1) ((LX11_logic_23 m_vl m_vd m_vs1 m_vs2 zO u1 (cnt m_vstart m_vl) (m_vstart, zV)).2) from by rw [tX11_logic_23, if_neg c26]; exact True.intro) (hok.2.1 c1 c2)
theorem vX11_logic : kVi yX11_logic cX11_logic 6 (some .boolean) 1 := ⟨q38_22, q1_5, q38_20, q38_21, by decide, by decide +kernel⟩
noncomputable def pX11_firsts_152_S4 (m_vs1 : Int32) (m_vs2 : Int32) (zO : Nat → Int32) (w_L2 : Int32) (w_L1 : Int32) : Int32 := (if m_vs1 = (1 : Int32) then (if w_L1 = (0 : Int32) then (if (fX11_bit zO m_vs2 w_L2) = (0 : Int32) then (1 : Int32) else (0 : Int32)) else (0 : Int32)) else (if m_vs1 = (3 : Int32) then (if w_L1 = (0 : Int32) then (1 : Int32) else (0 : Int32)) else (if w_L1 = (0 : Int32) then (if (fX11_bit zO m_vs2 w_L2) = (0 : Int32) then (0 : Int32) else (1 : Int32)) else (0 : Int32))))
theorem zpX11_firsts_152_S4 (m_vs1 : Int32) (m_vs2 : Int32) (zO : Nat → Int32) (w_L2 : Int32) (w_L1 : Int32) : narrow .boolean (.int (pX11_firsts_152_S4 m_vs1 m_vs2 zO w_L2 w_L1)) = .int (pX11_firsts_152_S4 m_vs1 m_vs2 zO w_L2 w_L1) := by unfold pX11_firsts_152_S4; exact (kzi (kzi (kzi rfl rfl) rfl) (kzi (kzi rfl rfl) (kzi (kzi rfl rfl) rfl)))
noncomputable def pX11_firsts_168_S1 (m_vs2 : Int32) (zO : Nat → Int32) (w_L2 : Int32) (w_L1 : Int32) : Int32 := (if w_L1 = (0 : Int32) then (if (fX11_bit zO m_vs2 w_L2) = (0 : Int32) then (0 : Int32) else (1 : Int32)) else (1 : Int32))
theorem zpX11_firsts_168_S1 (m_vs2 : Int32) (zO : Nat → Int32) (w_L2 : Int32) (w_L1 : Int32) : narrow .boolean (.int (pX11_firsts_168_S1 m_vs2 zO w_L2 w_L1)) = .int (pX11_firsts_168_S1 m_vs2 zO w_L2 w_L1) := by unfold pX11_firsts_168_S1; exact (kzi (kzi rfl rfl) rfl)
noncomputable def pX11_firsts_169_L1 (m_vs2 : Int32) (m_unmasked : Int32) (zO : Nat → Int32) (w_L2 : Int32) (w_L1 : Int32) : Int32 := (if (fX11_isActive m_unmasked zO w_L2) = (0 : Int32) then w_L1 else (pX11_firsts_168_S1 m_vs2 zO w_L2 w_L1))
noncomputable def pX11_firsts_169_zV (m_choices : Int64) (m_vtype : Int32) (m_vd : Int32) (m_vs1 : Int32) (m_vs2 : Int32) (m_unmasked : Int32) (zO : Nat → Int32) (w_L2 : Int32) (w_L1 : Int32) (w_zV : Nat → Int32) : Nat → Int32 := (if (fX11_isActive m_unmasked zO w_L2) = (0 : Int32) then (if (fX11_isMaskOpen m_vtype) = (0 : Int32) then w_zV else (fX11_openBit__zV m_choices w_zV m_vd w_L2)) else (fX11_putBit__zV w_zV m_vd w_L2 (pX11_firsts_152_S4 m_vs1 m_vs2 zO w_L2 w_L1)))
noncomputable def tX11_firsts_44 (m_vl : Int32) (w_L2 : Int32) (w_L1 : Int32) (w_zV : Nat → Int32) : Prop := (if m_vl ≤ w_L2 then False else True)
noncomputable def bX11_firsts_44_L2 (m_vl : Int32) (w_L2 : Int32) (w_L1 : Int32) (w_zV : Nat → Int32) : Int32 := (if m_vl ≤ w_L2 then w_L2 else (w_L2 + (1 : Int32)))
noncomputable def bX11_firsts_44_L1 (m_vl : Int32) (m_vs2 : Int32) (m_unmasked : Int32) (zO : Nat → Int32) (w_L2 : Int32) (w_L1 : Int32) (w_zV : Nat → Int32) : Int32 := (if m_vl ≤ w_L2 then w_L1 else (pX11_firsts_169_L1 m_vs2 m_unmasked zO w_L2 w_L1))
noncomputable def bX11_firsts_44_zV (m_choices : Int64) (m_vl : Int32) (m_vtype : Int32) (m_vd : Int32) (m_vs1 : Int32) (m_vs2 : Int32) (m_unmasked : Int32) (zO : Nat → Int32) (w_L2 : Int32) (w_L1 : Int32) (w_zV : Nat → Int32) : Nat → Int32 := (if m_vl ≤ w_L2 then w_zV else (pX11_firsts_169_zV m_choices m_vtype m_vd m_vs1 m_vs2 m_unmasked zO w_L2 w_L1 w_zV))
noncomputable def LX11_firsts_44 (m_choices : Int64) (m_vl : Int32) (m_vtype : Int32) (m_vd : Int32) (m_vs1 : Int32) (m_vs2 : Int32) (m_unmasked : Int32) (zO : Nat → Int32) : Nat → Int32 × Int32 × (Nat → Int32) → Int32 × Int32 × (Nat → Int32)
  | 0, s => s
  | n + 1, s => LX11_firsts_44 m_choices m_vl m_vtype m_vd m_vs1 m_vs2 m_unmasked zO n ((bX11_firsts_44_L2 m_vl s.1 s.2.1 s.2.2), (bX11_firsts_44_L1 m_vl m_vs2 m_unmasked zO s.1 s.2.1 s.2.2), (bX11_firsts_44_zV m_choices m_vl m_vtype m_vd m_vs1 m_vs2 m_unmasked zO s.1 s.2.1 s.2.2))
noncomputable def oX11_firsts_44 (m_choices : Int64) (m_vl : Int32) (m_vtype : Int32) (m_vd : Int32) (m_vs2 : Int32) (m_unmasked : Int32) (zO : Nat → Int32) (w_L2 : Int32) (w_L1 : Int32) (w_zV : Nat → Int32) : Prop := (¬ (m_vl ≤ w_L2) → okX11_isActive m_unmasked w_L2) ∧ (¬ (m_vl ≤ w_L2) → ((fX11_isActive m_unmasked zO w_L2) = (0 : Int32)) → ¬ ((fX11_isMaskOpen m_vtype) = (0 : Int32)) → okX11_openBit m_choices m_vd w_L2) ∧ (¬ (m_vl ≤ w_L2) → ¬ ((fX11_isActive m_unmasked zO w_L2) = (0 : Int32)) → okX11_bit m_vs2 w_L2) ∧ (¬ (m_vl ≤ w_L2) → ¬ ((fX11_isActive m_unmasked zO w_L2) = (0 : Int32)) → okX11_putBit m_vd w_L2)
noncomputable def KX11_firsts_44 (m_choices : Int64) (m_vl : Int32) (m_vtype : Int32) (m_vd : Int32) (m_vs1 : Int32) (m_vs2 : Int32) (m_unmasked : Int32) (zO : Nat → Int32) : Nat → Int32 × Int32 × (Nat → Int32) → Prop
  | 0, _ => True
  | n + 1, s => (tX11_firsts_44 m_vl s.1 s.2.1 s.2.2 ∧ oX11_firsts_44 m_choices m_vl m_vtype m_vd m_vs2 m_unmasked zO s.1 s.2.1 s.2.2) ∧ KX11_firsts_44 m_choices m_vl m_vtype m_vd m_vs1 m_vs2 m_unmasked zO n ((bX11_firsts_44_L2 m_vl s.1 s.2.1 s.2.2), (bX11_firsts_44_L1 m_vl m_vs2 m_unmasked zO s.1 s.2.1 s.2.2), (bX11_firsts_44_zV m_choices m_vl m_vtype m_vd m_vs1 m_vs2 m_unmasked zO s.1 s.2.1 s.2.2))
theorem itX11_firsts_44 (m_choices : Int64) (m_vl : Int32) (m_vtype : Int32) (m_vd : Int32) (m_vs1 : Int32) (m_vs2 : Int32) (m_unmasked : Int32) (zO : Nat → Int32) {b9 : Nat} (h9 : m_vl = nI b9) (hb9 : b9 < 2147483648) : ∀ (n a : Nat) (w_L1 : Int32) (w_zV : Nat → Int32), a + n ≤ b9 → LX11_firsts_44 m_choices m_vl m_vtype m_vd m_vs1 m_vs2 m_unmasked zO n (nI a, w_L1, w_zV) = (nI (a + n), itr (fun k s => ((pX11_firsts_169_L1 m_vs2 m_unmasked zO (nI k) s.1), (pX11_firsts_169_zV m_choices m_vtype m_vd m_vs1 m_vs2 m_unmasked zO (nI k) s.1 s.2))) n a (w_L1, w_zV))
  | 0, a, w_L1, w_zV, _ => rfl
  | n + 1, a, w_L1, w_zV, h => by
    have hc : ¬ (m_vl ≤ nI a) := by rw [h9]; exact nI_ge (by omega) hb9
    have e0 : bX11_firsts_44_L2 m_vl (nI a) w_L1 w_zV = nI (a + 1) := by rw [bX11_firsts_44_L2, if_neg hc, nI_1]
    have e1 : bX11_firsts_44_L1 m_vl m_vs2 m_unmasked zO (nI a) w_L1 w_zV = (pX11_firsts_169_L1 m_vs2 m_unmasked zO (nI a) w_L1) := by rw [bX11_firsts_44_L1, if_neg hc]
    have e2 : bX11_firsts_44_zV m_choices m_vl m_vtype m_vd m_vs1 m_vs2 m_unmasked zO (nI a) w_L1 w_zV = (pX11_firsts_169_zV m_choices m_vtype m_vd m_vs1 m_vs2 m_unmasked zO (nI a) w_L1 w_zV) := by rw [bX11_firsts_44_zV, if_neg hc]
    show LX11_firsts_44 m_choices m_vl m_vtype m_vd m_vs1 m_vs2 m_unmasked zO n (bX11_firsts_44_L2 m_vl (nI a) w_L1 w_zV, bX11_firsts_44_L1 m_vl m_vs2 m_unmasked zO (nI a) w_L1 w_zV, bX11_firsts_44_zV m_choices m_vl m_vtype m_vd m_vs1 m_vs2 m_unmasked zO (nI a) w_L1 w_zV) = _
    rw [e0, e1, e2, itX11_firsts_44 m_choices m_vl m_vtype m_vd m_vs1 m_vs2 m_unmasked zO h9 hb9 n (a + 1) _ _ (by omega), show a + (n + 1) = a + 1 + n by omega]; rfl
theorem ktX11_firsts_44 (m_choices : Int64) (m_vl : Int32) (m_vtype : Int32) (m_vd : Int32) (m_vs1 : Int32) (m_vs2 : Int32) (m_unmasked : Int32) (zO : Nat → Int32) {b9 : Nat} (h9 : m_vl = nI b9) (hb9 : b9 < 2147483648) (I : Nat → Int32 × (Nat → Int32) → Prop) (hI : ∀ (a : Nat) (w_L1 : Int32) (w_zV : Nat → Int32), I a (w_L1, w_zV) → a < b9 → oX11_firsts_44 m_choices m_vl m_vtype m_vd m_vs2 m_unmasked zO (nI a) w_L1 w_zV ∧ I (a + 1) ((pX11_firsts_169_L1 m_vs2 m_unmasked zO (nI a) w_L1), (pX11_firsts_169_zV m_choices m_vtype m_vd m_vs1 m_vs2 m_unmasked zO (nI a) w_L1 w_zV))) : ∀ (n a : Nat) (w_L1 : Int32) (w_zV : Nat → Int32), a + n ≤ b9 → I a (w_L1, w_zV) → KX11_firsts_44 m_choices m_vl m_vtype m_vd m_vs1 m_vs2 m_unmasked zO n (nI a, w_L1, w_zV)
  | 0, a, w_L1, w_zV, _, _ => True.intro
  | n + 1, a, w_L1, w_zV, h, hi => by
    have hc : ¬ (m_vl ≤ nI a) := by rw [h9]; exact nI_ge (by omega) hb9
    have e0 : bX11_firsts_44_L2 m_vl (nI a) w_L1 w_zV = nI (a + 1) := by rw [bX11_firsts_44_L2, if_neg hc, nI_1]
    have e1 : bX11_firsts_44_L1 m_vl m_vs2 m_unmasked zO (nI a) w_L1 w_zV = (pX11_firsts_169_L1 m_vs2 m_unmasked zO (nI a) w_L1) := by rw [bX11_firsts_44_L1, if_neg hc]
    have e2 : bX11_firsts_44_zV m_choices m_vl m_vtype m_vd m_vs1 m_vs2 m_unmasked zO (nI a) w_L1 w_zV = (pX11_firsts_169_zV m_choices m_vtype m_vd m_vs1 m_vs2 m_unmasked zO (nI a) w_L1 w_zV) := by rw [bX11_firsts_44_zV, if_neg hc]
    obtain ⟨h1, h2⟩ := hI a w_L1 w_zV hi (by omega)
    show (tX11_firsts_44 m_vl (nI a) w_L1 w_zV ∧ oX11_firsts_44 m_choices m_vl m_vtype m_vd m_vs2 m_unmasked zO (nI a) w_L1 w_zV) ∧ KX11_firsts_44 m_choices m_vl m_vtype m_vd m_vs1 m_vs2 m_unmasked zO n (bX11_firsts_44_L2 m_vl (nI a) w_L1 w_zV, bX11_firsts_44_L1 m_vl m_vs2 m_unmasked zO (nI a) w_L1 w_zV, bX11_firsts_44_zV m_choices m_vl m_vtype m_vd m_vs1 m_vs2 m_unmasked zO (nI a) w_L1 w_zV)
    refine ⟨⟨by rw [tX11_firsts_44, if_neg hc]; exact True.intro, h1⟩, ?_⟩
    rw [e0, e1, e2]; exact ktX11_firsts_44 m_choices m_vl m_vtype m_vd m_vs1 m_vs2 m_unmasked zO h9 hb9 I hI n (a + 1) _ _ (by omega) h2
theorem ntX11_firsts_44 (m_choices : Int64) (m_vl : Int32) (m_vtype : Int32) (m_vd : Int32) (m_vs1 : Int32) (m_vs2 : Int32) (m_unmasked : Int32) (zO : Nat → Int32) {b9 : Nat} (h9 : m_vl = nI b9) (hb9 : b9 < 2147483648) (w_L1 : Int32) (w_zV : Nat → Int32) : ¬ tX11_firsts_44 m_vl (nI b9) w_L1 w_zV := by rw [tX11_firsts_44, if_pos (by rw [h9]; exact Int32.le_refl _)]; exact id
noncomputable def fX11_firsts (m_vstart : Int32) (m_vd : Int32) (m_vs2 : Int32) (m_unmasked : Int32) : Int32 := (if m_vstart = (0 : Int32) then (if m_vd = m_vs2 then (0 : Int32) else (if (fX11_mayMask m_unmasked m_vd) = (0 : Int32) then (0 : Int32) else (1 : Int32))) else (0 : Int32))
noncomputable def fX11_firsts__zV (m_choices : Int64) (m_vl : Int32) (m_vtype : Int32) (m_vstart : Int32) (m_vd : Int32) (m_vs1 : Int32) (m_vs2 : Int32) (m_unmasked : Int32) (zV : Nat → Int32) (zO : Nat → Int32) : Nat → Int32 := (if m_vstart = (0 : Int32) then (if m_vd = m_vs2 then zV else (if (fX11_mayMask m_unmasked m_vd) = (0 : Int32) then zV else (if (fX11_goes m_vl m_vstart) = (0 : Int32) then zV else (fX11_maskTail__zV m_choices m_vl ((LX11_firsts_44 m_choices m_vl m_vtype m_vd m_vs1 m_vs2 m_unmasked zO (cnt (0 : Int32) m_vl) ((0 : Int32), (0 : Int32), zV)).2.2) m_vd)))) else zV)
noncomputable def okX11_firsts (m_choices : Int64) (m_vl : Int32) (m_vtype : Int32) (m_vstart : Int32) (m_vd : Int32) (m_vs1 : Int32) (m_vs2 : Int32) (m_unmasked : Int32) (zV : Nat → Int32) (zO : Nat → Int32) : Prop := ((m_vstart = (0 : Int32)) → ¬ (m_vd = m_vs2) → ¬ ((fX11_mayMask m_unmasked m_vd) = (0 : Int32)) → ¬ ((fX11_goes m_vl m_vstart) = (0 : Int32)) → KX11_firsts_44 m_choices m_vl m_vtype m_vd m_vs1 m_vs2 m_unmasked zO (cnt (0 : Int32) m_vl) ((0 : Int32), (0 : Int32), zV)) ∧ ((m_vstart = (0 : Int32)) → ¬ (m_vd = m_vs2) → ¬ ((fX11_mayMask m_unmasked m_vd) = (0 : Int32)) → ¬ ((fX11_goes m_vl m_vstart) = (0 : Int32)) → ¬ (tX11_firsts_44 m_vl ((LX11_firsts_44 m_choices m_vl m_vtype m_vd m_vs1 m_vs2 m_unmasked zO (cnt (0 : Int32) m_vl) ((0 : Int32), (0 : Int32), zV)).1) ((LX11_firsts_44 m_choices m_vl m_vtype m_vd m_vs1 m_vs2 m_unmasked zO (cnt (0 : Int32) m_vl) ((0 : Int32), (0 : Int32), zV)).2.1) ((LX11_firsts_44 m_choices m_vl m_vtype m_vd m_vs1 m_vs2 m_unmasked zO (cnt (0 : Int32) m_vl) ((0 : Int32), (0 : Int32), zV)).2.2))) ∧ ((m_vstart = (0 : Int32)) → ¬ (m_vd = m_vs2) → ¬ ((fX11_mayMask m_unmasked m_vd) = (0 : Int32)) → ¬ ((fX11_goes m_vl m_vstart) = (0 : Int32)) → (m_vl ≤ (LX11_firsts_44 m_choices m_vl m_vtype m_vd m_vs1 m_vs2 m_unmasked zO (cnt (0 : Int32) m_vl) ((0 : Int32), (0 : Int32), zV)).1) → okX11_maskTail m_choices m_vl ((LX11_firsts_44 m_choices m_vl m_vtype m_vd m_vs1 m_vs2 m_unmasked zO (cnt (0 : Int32) m_vl) ((0 : Int32), (0 : Int32), zV)).2.2) m_vd) ∧ ((m_vstart = (0 : Int32)) → ¬ (m_vd = m_vs2) → ¬ ((fX11_mayMask m_unmasked m_vd) = (0 : Int32)) → ¬ ((fX11_goes m_vl m_vstart) = (0 : Int32)) → ¬ (m_vl ≤ (LX11_firsts_44 m_choices m_vl m_vtype m_vd m_vs1 m_vs2 m_unmasked zO (cnt (0 : Int32) m_vl) ((0 : Int32), (0 : Int32), zV)).1) → okX11_isActive m_unmasked ((LX11_firsts_44 m_choices m_vl m_vtype m_vd m_vs1 m_vs2 m_unmasked zO (cnt (0 : Int32) m_vl) ((0 : Int32), (0 : Int32), zV)).1)) ∧ ((m_vstart = (0 : Int32)) → ¬ (m_vd = m_vs2) → ¬ ((fX11_mayMask m_unmasked m_vd) = (0 : Int32)) → ¬ ((fX11_goes m_vl m_vstart) = (0 : Int32)) → ¬ (m_vl ≤ (LX11_firsts_44 m_choices m_vl m_vtype m_vd m_vs1 m_vs2 m_unmasked zO (cnt (0 : Int32) m_vl) ((0 : Int32), (0 : Int32), zV)).1) → ((fX11_isActive m_unmasked zO ((LX11_firsts_44 m_choices m_vl m_vtype m_vd m_vs1 m_vs2 m_unmasked zO (cnt (0 : Int32) m_vl) ((0 : Int32), (0 : Int32), zV)).1)) = (0 : Int32)) → ¬ ((fX11_isMaskOpen m_vtype) = (0 : Int32)) → okX11_openBit m_choices m_vd ((LX11_firsts_44 m_choices m_vl m_vtype m_vd m_vs1 m_vs2 m_unmasked zO (cnt (0 : Int32) m_vl) ((0 : Int32), (0 : Int32), zV)).1)) ∧ ((m_vstart = (0 : Int32)) → ¬ (m_vd = m_vs2) → ¬ ((fX11_mayMask m_unmasked m_vd) = (0 : Int32)) → ¬ ((fX11_goes m_vl m_vstart) = (0 : Int32)) → ¬ (m_vl ≤ (LX11_firsts_44 m_choices m_vl m_vtype m_vd m_vs1 m_vs2 m_unmasked zO (cnt (0 : Int32) m_vl) ((0 : Int32), (0 : Int32), zV)).1) → ¬ ((fX11_isActive m_unmasked zO ((LX11_firsts_44 m_choices m_vl m_vtype m_vd m_vs1 m_vs2 m_unmasked zO (cnt (0 : Int32) m_vl) ((0 : Int32), (0 : Int32), zV)).1)) = (0 : Int32)) → okX11_bit m_vs2 ((LX11_firsts_44 m_choices m_vl m_vtype m_vd m_vs1 m_vs2 m_unmasked zO (cnt (0 : Int32) m_vl) ((0 : Int32), (0 : Int32), zV)).1)) ∧ ((m_vstart = (0 : Int32)) → ¬ (m_vd = m_vs2) → ¬ ((fX11_mayMask m_unmasked m_vd) = (0 : Int32)) → ¬ ((fX11_goes m_vl m_vstart) = (0 : Int32)) → ¬ (m_vl ≤ (LX11_firsts_44 m_choices m_vl m_vtype m_vd m_vs1 m_vs2 m_unmasked zO (cnt (0 : Int32) m_vl) ((0 : Int32), (0 : Int32), zV)).1) → ¬ ((fX11_isActive m_unmasked zO ((LX11_firsts_44 m_choices m_vl m_vtype m_vd m_vs1 m_vs2 m_unmasked zO (cnt (0 : Int32) m_vl) ((0 : Int32), (0 : Int32), zV)).1)) = (0 : Int32)) → okX11_putBit m_vd ((LX11_firsts_44 m_choices m_vl m_vtype m_vd m_vs1 m_vs2 m_unmasked zO (cnt (0 : Int32) m_vl) ((0 : Int32), (0 : Int32), zV)).1))
theorem zX11_firsts (m_vstart : Int32) (m_vd : Int32) (m_vs2 : Int32) (m_unmasked : Int32) : narrow .boolean (.int (fX11_firsts m_vstart m_vd m_vs2 m_unmasked)) = .int (fX11_firsts m_vstart m_vd m_vs2 m_unmasked) := by unfold fX11_firsts; exact (kzi (kzi rfl (kzi rfl rfl)) rfl)
set_option maxRecDepth 100000 in
set_option maxHeartbeats 4000000 in
theorem kX11_firsts (l : Launch) (D : va_G) (kI kZ : ClassId) (b_m : Nat) (b_zX : Nat) (b_zV : Nat) (b_zO : Nat) (m_thrown : Int32) (m_memory : Nat) (m_shut : Nat) (m_choices : Int64) (m_vl : Int32) (m_vtype : Int32) (m_vstart : Int32) (m_vxrm : Int32) (m_vxsat : Int32) (m_done : Int32) (m_illegal : Int32) (m_traps : Int32) (m_trapAddress : Int32) (m_word : Int32) (m_vd : Int32) (m_vs1 : Int32) (m_vs2 : Int32) (m_f3 : Int32) (m_f6 : Int32) (m_sew : Int32) (m_l8 : Int32) (m_unmasked : Int32) (zX : Nat → Int32) (zV : Nat → Int32) (zO : Nat → Int32) (hok : okX11_firsts m_choices m_vl m_vtype m_vstart m_vd m_vs1 m_vs2 m_unmasked zV zO) : kM l yX11_firsts cX11_firsts 4 (some .boolean) 3 44 0 0 D [(kI, .int), (kZ, .boolean)] [.ref b_m] [(b_m, .inr (10, [.int m_thrown, .ref b_zX, .ref b_zV, .ref b_zO, .ref m_memory, .ref m_shut, .long m_choices, .int m_vl, .int m_vtype, .int m_vstart, .int m_vxrm, .int m_vxsat, .int m_done, .int m_illegal, .int m_traps, .int m_trapAddress, .int m_word, .int m_vd, .int m_vs1, .int m_vs2, .int m_f3, .int m_f6, .int m_sew, .int m_l8, .int m_unmasked])), (b_zX, .inl (kI, 32, .inl zX)), (b_zV, .inl (kI, 512, .inl zV)), (b_zO, .inl (kI, 512, .inl zO))] (some (.int (fX11_firsts m_vstart m_vd m_vs2 m_unmasked))) [(b_m, .inr (10, [.int m_thrown, .ref b_zX, .ref b_zV, .ref b_zO, .ref m_memory, .ref m_shut, .long m_choices, .int m_vl, .int m_vtype, .int m_vstart, .int m_vxrm, .int m_vxsat, .int m_done, .int m_illegal, .int m_traps, .int m_trapAddress, .int m_word, .int m_vd, .int m_vs1, .int m_vs2, .int m_f3, .int m_f6, .int m_sew, .int m_l8, .int m_unmasked])), (b_zX, .inl (kI, 32, .inl zX)), (b_zV, .inl (kI, 512, .inl (fX11_firsts__zV m_choices m_vl m_vtype m_vstart m_vd m_vs1 m_vs2 m_unmasked zV zO))), (b_zO, .inl (kI, 512, .inl zO))] := by
  refine kM.of (by decide) rfl ?_
  intro p e R s m args below meth c A X _ _ hRt hLk
  refine k_sub [0] (lv' := [(0, .ref b_m)]) rfl ?_
  unfold okX11_firsts at hok
  refine k_aload_n X dX11_firsts_0 rfl 0 rfl rfl ?_
  refine k_get X i_wsX110 0 9 q27_14 rfl rfl rfl rfl rfl dX11_firsts_1 rfl ?_
  refine k_if_ne (tgt := 29) X dX11_firsts_4 (by decide) rfl (fun c1 => ?_) (fun c1 => ?_)
  · skip
    refine k_aload_n X dX11_firsts_7 rfl 0 rfl rfl ?_
    refine k_get X i_wsX110 0 17 q27_3 rfl rfl rfl rfl rfl dX11_firsts_8 rfl ?_
    refine k_aload_n X dX11_firsts_11 rfl 0 rfl rfl ?_
    refine k_get X i_wsX110 0 19 q27_6 rfl rfl rfl rfl rfl dX11_firsts_12 rfl ?_
    refine k_icmp_eq (tgt := 29) X dX11_firsts_15 (by decide) rfl (fun c2 => ?_) (fun c2 => ?_)
    · skip
      refine k_iconst X dX11_firsts_29 kc_i_0 rfl ?_
      have e35 : (fX11_firsts m_vstart m_vd m_vs2 m_unmasked) = (0 : Int32) := by rw [fX11_firsts, if_pos c1, if_pos c2]
      have e36 : (fX11_firsts__zV m_choices m_vl m_vtype m_vstart m_vd m_vs1 m_vs2 m_unmasked zV zO) = zV := by rw [fX11_firsts__zV, if_pos c1, if_pos c2]
      exact k_zret9 X hRt hLk rfl e35.symm (by rw [e36]) dX11_firsts_30
    refine k_aload_n X dX11_firsts_18 rfl 0 rfl rfl ?_
    refine k_aload_n X dX11_firsts_19 rfl 0 rfl rfl ?_
    refine k_get X i_wsX110 0 17 q27_3 rfl rfl rfl rfl rfl dX11_firsts_20 rfl ?_
    refine k_cV1 (st := []) (ws' := [(b_m, .inr (10, [.int m_thrown, .ref b_zX, .ref b_zV, .ref b_zO, .ref m_memory, .ref m_shut, .long m_choices, .int m_vl, .int m_vtype, .int m_vstart, .int m_vxrm, .int m_vxsat, .int m_done, .int m_illegal, .int m_traps, .int m_trapAddress, .int m_word, .int m_vd, .int m_vs1, .int m_vs2, .int m_f3, .int m_f6, .int m_sew, .int m_l8, .int m_unmasked])), (b_zX, .inl (kI, 32, .inl zX)), (b_zV, .inl (kI, 512, .inl zV)), (b_zO, .inl (kI, 512, .inl zO))]) (wr := [(b_zX, .inl (kI, 32, .inl zX)), (b_zV, .inl (kI, 512, .inl zV)), (b_zO, .inl (kI, 512, .inl zO))]) (ci := 10) (q9 := 0) X [.int m_vd] 0 [0] [1, 2, 3] [3, 0, 1, 2] (kX11_mayMask l D kI kZ b_m m_thrown b_zX b_zV b_zO m_memory m_shut m_choices m_vl m_vtype m_vstart m_vxrm m_vxsat m_done m_illegal m_traps m_trapAddress m_word m_vd m_vs1 m_vs2 m_f3 m_f6 m_sew m_l8 m_unmasked m_vd) vX11_mayMask q30_16 dX11_firsts_23 rfl rfl rfl rfl rfl rfl rfl rfl rfl rfl rfl rfl rfl rfl rfl ?_
    refine k_if_ne (tgt := 31) X dX11_firsts_26 (by decide) rfl (fun c3 => ?_) (fun c3 => ?_)
    · skip
      refine k_iconst X dX11_firsts_29 kc_i_0 rfl ?_
      have e37 : (fX11_firsts m_vstart m_vd m_vs2 m_unmasked) = (0 : Int32) := by rw [fX11_firsts, if_pos c1, if_neg c2, if_pos c3]
      have e38 : (fX11_firsts__zV m_choices m_vl m_vtype m_vstart m_vd m_vs1 m_vs2 m_unmasked zV zO) = zV := by rw [fX11_firsts__zV, if_pos c1, if_neg c2, if_pos c3]
      exact k_zret9 X hRt hLk rfl e37.symm (by rw [e38]) dX11_firsts_30
    refine k_aload_n X dX11_firsts_31 rfl 0 rfl rfl ?_
    refine k_cV1 (st := []) (ws' := [(b_m, .inr (10, [.int m_thrown, .ref b_zX, .ref b_zV, .ref b_zO, .ref m_memory, .ref m_shut, .long m_choices, .int m_vl, .int m_vtype, .int m_vstart, .int m_vxrm, .int m_vxsat, .int m_done, .int m_illegal, .int m_traps, .int m_trapAddress, .int m_word, .int m_vd, .int m_vs1, .int m_vs2, .int m_f3, .int m_f6, .int m_sew, .int m_l8, .int m_unmasked])), (b_zX, .inl (kI, 32, .inl zX)), (b_zV, .inl (kI, 512, .inl zV)), (b_zO, .inl (kI, 512, .inl zO))]) (wr := [(b_zX, .inl (kI, 32, .inl zX)), (b_zV, .inl (kI, 512, .inl zV)), (b_zO, .inl (kI, 512, .inl zO))]) (ci := 10) (q9 := 0) X [] 0 [0] [1, 2, 3] [3, 0, 1, 2] (kX11_goes l D kI kZ b_m m_thrown b_zX b_zV b_zO m_memory m_shut m_choices m_vl m_vtype m_vstart m_vxrm m_vxsat m_done m_illegal m_traps m_trapAddress m_word m_vd m_vs1 m_vs2 m_f3 m_f6 m_sew m_l8 m_unmasked) vX11_goes q31_2 dX11_firsts_32 rfl rfl rfl rfl rfl rfl rfl rfl rfl rfl rfl rfl rfl rfl rfl ?_
    refine k_if_ne (tgt := 40) X dX11_firsts_35 (by decide) rfl (fun c4 => ?_) (fun c4 => ?_)
    · skip
      refine k_iconst X dX11_firsts_38 kc_i_1 rfl ?_
      have e39 : (fX11_firsts m_vstart m_vd m_vs2 m_unmasked) = (1 : Int32) := by rw [fX11_firsts, if_pos c1, if_neg c2, if_neg c3]
      have e40 : (fX11_firsts__zV m_choices m_vl m_vtype m_vstart m_vd m_vs1 m_vs2 m_unmasked zV zO) = zV := by rw [fX11_firsts__zV, if_pos c1, if_neg c2, if_neg c3, if_pos c4]
      exact k_zret9 X hRt hLk rfl e39.symm (by rw [e40]) dX11_firsts_39
    refine k_iconst X dX11_firsts_40 kc_i_0 rfl ?_
    refine k_istore_n (lv' := [(1, .int (0 : Int32)), (0, .ref b_m)]) X dX11_firsts_41 rfl rfl rfl rfl ?_
    refine k_iconst X dX11_firsts_42 kc_i_0 rfl ?_
    refine k_istore_n (lv' := [(2, .int (0 : Int32)), (1, .int (0 : Int32)), (0, .ref b_m)]) X dX11_firsts_43 rfl rfl rfl rfl ?_
    refine k_sub [2, 1, 0] (lv' := [(0, .ref b_m), (1, .int (0 : Int32)), (2, .int (0 : Int32))]) rfl ?_
    refine k_loop (KX11_firsts_44 m_choices m_vl m_vtype m_vd m_vs1 m_vs2 m_unmasked zO) (LX11_firsts_44 m_choices m_vl m_vtype m_vd m_vs1 m_vs2 m_unmasked zO) (fun s9 => (bX11_firsts_44_L2 m_vl s9.1 s9.2.1 s9.2.2, bX11_firsts_44_L1 m_vl m_vs2 m_unmasked zO s9.1 s9.2.1 s9.2.2, bX11_firsts_44_zV m_choices m_vl m_vtype m_vd m_vs1 m_vs2 m_unmasked zO s9.1 s9.2.1 s9.2.2)) (fun s9 => tX11_firsts_44 m_vl s9.1 s9.2.1 s9.2.2 ∧ oX11_firsts_44 m_choices m_vl m_vtype m_vd m_vs2 m_unmasked zO s9.1 s9.2.1 s9.2.2) (fun s9 => [(b_m, .inr (10, [.int m_thrown, .ref b_zX, .ref b_zV, .ref b_zO, .ref m_memory, .ref m_shut, .long m_choices, .int m_vl, .int m_vtype, .int m_vstart, .int m_vxrm, .int m_vxsat, .int m_done, .int m_illegal, .int m_traps, .int m_trapAddress, .int m_word, .int m_vd, .int m_vs1, .int m_vs2, .int m_f3, .int m_f6, .int m_sew, .int m_l8, .int m_unmasked])), (b_zX, .inl (kI, 32, .inl zX)), (b_zV, .inl (kI, 512, .inl s9.2.2)), (b_zO, .inl (kI, 512, .inl zO))]) (fun s9 => [(0, .ref b_m), (1, .int s9.2.1), (2, .int s9.1)]) 44 (fun _ => rfl) (fun _ _ => rfl) (fun _ _ h => h) ?_ (cnt (0 : Int32) m_vl) ((0 : Int32), (0 : Int32), zV) (hok.1 c1 c2 c3 c4) ?_
    · rintro ⟨w_L2, w_L1, w_zV⟩ ⟨hlat, hob⟩ g0
      try dsimp only at hlat hob g0 ⊢
      unfold oX11_firsts_44 at hob
      refine k_iload_n X dX11_firsts_44 rfl 2 rfl rfl ?_
      refine k_aload_n X dX11_firsts_45 rfl 0 rfl rfl ?_
      refine k_get X i_wsX110 0 7 q28_7 rfl rfl rfl rfl rfl dX11_firsts_46 rfl ?_
      refine k_icmp_ge (tgt := 175) X dX11_firsts_49 (by decide) rfl (fun c5 => ?_) (fun c5 => ?_)
      · skip
        exact absurd hlat (by rw [tX11_firsts_44, if_pos c5]; exact id)
      refine k_aload_n X dX11_firsts_52 rfl 0 rfl rfl ?_
      refine k_iload_n X dX11_firsts_53 rfl 2 rfl rfl ?_
      refine k_cV1 (st := []) (ws' := [(b_m, .inr (10, [.int m_thrown, .ref b_zX, .ref b_zV, .ref b_zO, .ref m_memory, .ref m_shut, .long m_choices, .int m_vl, .int m_vtype, .int m_vstart, .int m_vxrm, .int m_vxsat, .int m_done, .int m_illegal, .int m_traps, .int m_trapAddress, .int m_word, .int m_vd, .int m_vs1, .int m_vs2, .int m_f3, .int m_f6, .int m_sew, .int m_l8, .int m_unmasked])), (b_zX, .inl (kI, 32, .inl zX)), (b_zV, .inl (kI, 512, .inl w_zV)), (b_zO, .inl (kI, 512, .inl zO))]) (wr := [(b_zX, .inl (kI, 32, .inl zX)), (b_zV, .inl (kI, 512, .inl w_zV))]) (ci := 10) (q9 := 0) X [.int w_L2] 0 [0, 3] [1, 2] [2, 0, 1, 3] (kX11_isActive l D kI kZ b_m b_zO m_thrown b_zX b_zV m_memory m_shut m_choices m_vl m_vtype m_vstart m_vxrm m_vxsat m_done m_illegal m_traps m_trapAddress m_word m_vd m_vs1 m_vs2 m_f3 m_f6 m_sew m_l8 m_unmasked zO w_L2 (hob.1 c5)) vX11_isActive q31_6 dX11_firsts_54 rfl rfl rfl rfl rfl rfl rfl rfl rfl rfl rfl rfl rfl rfl rfl ?_
      refine k_mid2 [(b_m, .inr (10, [.int m_thrown, .ref b_zX, .ref b_zV, .ref b_zO, .ref m_memory, .ref m_shut, .long m_choices, .int m_vl, .int m_vtype, .int m_vstart, .int m_vxrm, .int m_vxsat, .int m_done, .int m_illegal, .int m_traps, .int m_trapAddress, .int m_word, .int m_vd, .int m_vs1, .int m_vs2, .int m_f3, .int m_f6, .int m_sew, .int m_l8, .int m_unmasked])), (b_zX, .inl (kI, 32, .inl zX)), (b_zV, .inl (kI, 512, .inl (pX11_firsts_169_zV m_choices m_vtype m_vd m_vs1 m_vs2 m_unmasked zO w_L2 w_L1 w_zV))), (b_zO, .inl (kI, 512, .inl zO))] [(0, .ref b_m), (1, .int (pX11_firsts_169_L1 m_vs2 m_unmasked zO w_L2 w_L1)), (2, .int w_L2)] [] 169 (fun hJ19 => ?_) ?_
      · skip
        refine k_if_ne (tgt := 79) X dX11_firsts_57 (by decide) rfl (fun c6 => ?_) (fun c6 => ?_)
        · skip
          refine k_aload_n X dX11_firsts_60 rfl 0 rfl rfl ?_
          refine k_cV1 (st := []) (ws' := [(b_m, .inr (10, [.int m_thrown, .ref b_zX, .ref b_zV, .ref b_zO, .ref m_memory, .ref m_shut, .long m_choices, .int m_vl, .int m_vtype, .int m_vstart, .int m_vxrm, .int m_vxsat, .int m_done, .int m_illegal, .int m_traps, .int m_trapAddress, .int m_word, .int m_vd, .int m_vs1, .int m_vs2, .int m_f3, .int m_f6, .int m_sew, .int m_l8, .int m_unmasked])), (b_zX, .inl (kI, 32, .inl zX)), (b_zV, .inl (kI, 512, .inl w_zV)), (b_zO, .inl (kI, 512, .inl zO))]) (wr := [(b_zX, .inl (kI, 32, .inl zX)), (b_zV, .inl (kI, 512, .inl w_zV)), (b_zO, .inl (kI, 512, .inl zO))]) (ci := 10) (q9 := 0) X [] 0 [0] [1, 2, 3] [3, 0, 1, 2] (kX11_isMaskOpen l D kI kZ b_m m_thrown b_zX b_zV b_zO m_memory m_shut m_choices m_vl m_vtype m_vstart m_vxrm m_vxsat m_done m_illegal m_traps m_trapAddress m_word m_vd m_vs1 m_vs2 m_f3 m_f6 m_sew m_l8 m_unmasked) vX11_isMaskOpen q31_18 dX11_firsts_61 rfl rfl rfl rfl rfl rfl rfl rfl rfl rfl rfl rfl rfl rfl rfl ?_
          refine k_if_eq (tgt := 169) X dX11_firsts_64 (by decide) rfl (fun c7 => ?_) (fun c7 => ?_)
          · skip
            have e41 : (pX11_firsts_169_L1 m_vs2 m_unmasked zO w_L2 w_L1) = w_L1 := by rw [pX11_firsts_169_L1, if_pos c6]
            rw [e41] at hJ19
            have e42 : (pX11_firsts_169_zV m_choices m_vtype m_vd m_vs1 m_vs2 m_unmasked zO w_L2 w_L1 w_zV) = w_zV := by rw [pX11_firsts_169_zV, if_pos c6, if_pos c7]
            rw [e42] at hJ19
            exact k_sub [0, 1, 2] rfl hJ19
          refine k_aload_n X dX11_firsts_67 rfl 0 rfl rfl ?_
          refine k_aload_n X dX11_firsts_68 rfl 0 rfl rfl ?_
          refine k_get X i_wsX110 0 17 q27_3 rfl rfl rfl rfl rfl dX11_firsts_69 rfl ?_
          refine k_iload_n X dX11_firsts_72 rfl 2 rfl rfl ?_
          refine k_cV0 (st := []) (ws' := [(b_m, .inr (10, [.int m_thrown, .ref b_zX, .ref b_zV, .ref b_zO, .ref m_memory, .ref m_shut, .long m_choices, .int m_vl, .int m_vtype, .int m_vstart, .int m_vxrm, .int m_vxsat, .int m_done, .int m_illegal, .int m_traps, .int m_trapAddress, .int m_word, .int m_vd, .int m_vs1, .int m_vs2, .int m_f3, .int m_f6, .int m_sew, .int m_l8, .int m_unmasked])), (b_zX, .inl (kI, 32, .inl zX)), (b_zV, .inl (kI, 512, .inl (fX11_openBit__zV m_choices w_zV m_vd w_L2))), (b_zO, .inl (kI, 512, .inl zO))]) (wr := [(b_zX, .inl (kI, 32, .inl zX)), (b_zO, .inl (kI, 512, .inl zO))]) (ci := 10) (q9 := 0) X [.int m_vd, .int w_L2] 0 [0, 2] [1, 3] [2, 0, 3, 1] (kX11_openBit l D kI kZ b_m b_zV m_thrown b_zX b_zO m_memory m_shut m_choices m_vl m_vtype m_vstart m_vxrm m_vxsat m_done m_illegal m_traps m_trapAddress m_word m_vd m_vs1 m_vs2 m_f3 m_f6 m_sew m_l8 m_unmasked w_zV m_vd w_L2 (hob.2.1 c5 c6 c7)) vX11_openBit q36_7 dX11_firsts_73 rfl rfl rfl rfl rfl rfl rfl rfl rfl rfl rfl rfl rfl rfl rfl ?_
          refine k_goto (tgt := 169) X dX11_firsts_76 (by decide) ?_
          have e43 : (pX11_firsts_169_L1 m_vs2 m_unmasked zO w_L2 w_L1) = w_L1 := by rw [pX11_firsts_169_L1, if_pos c6]
          rw [e43] at hJ19
          have e44 : (pX11_firsts_169_zV m_choices m_vtype m_vd m_vs1 m_vs2 m_unmasked zO w_L2 w_L1 w_zV) = (fX11_openBit__zV m_choices w_zV m_vd w_L2) := by rw [pX11_firsts_169_zV, if_pos c6, if_neg c7]
          rw [e44] at hJ19
          exact k_sub [0, 1, 2] rfl hJ19
        refine k_aload_n X dX11_firsts_79 rfl 0 rfl rfl ?_
        refine k_aload_n X dX11_firsts_80 rfl 0 rfl rfl ?_
        refine k_get X i_wsX110 0 19 q27_6 rfl rfl rfl rfl rfl dX11_firsts_81 rfl ?_
        refine k_iload_n X dX11_firsts_84 rfl 2 rfl rfl ?_
        refine k_cV1 (st := []) (ws' := [(b_m, .inr (10, [.int m_thrown, .ref b_zX, .ref b_zV, .ref b_zO, .ref m_memory, .ref m_shut, .long m_choices, .int m_vl, .int m_vtype, .int m_vstart, .int m_vxrm, .int m_vxsat, .int m_done, .int m_illegal, .int m_traps, .int m_trapAddress, .int m_word, .int m_vd, .int m_vs1, .int m_vs2, .int m_f3, .int m_f6, .int m_sew, .int m_l8, .int m_unmasked])), (b_zX, .inl (kI, 32, .inl zX)), (b_zV, .inl (kI, 512, .inl w_zV)), (b_zO, .inl (kI, 512, .inl zO))]) (wr := [(b_zX, .inl (kI, 32, .inl zX)), (b_zV, .inl (kI, 512, .inl w_zV))]) (ci := 10) (q9 := 0) X [.int m_vs2, .int w_L2] 0 [0, 3] [1, 2] [2, 0, 1, 3] (kX11_bit l D kI kZ b_m b_zO m_thrown b_zX b_zV m_memory m_shut m_choices m_vl m_vtype m_vstart m_vxrm m_vxsat m_done m_illegal m_traps m_trapAddress m_word m_vd m_vs1 m_vs2 m_f3 m_f6 m_sew m_l8 m_unmasked zO m_vs2 w_L2 (hob.2.2.1 c5 c6)) vX11_bit q31_10 dX11_firsts_85 rfl rfl rfl rfl rfl rfl rfl rfl rfl rfl rfl rfl rfl rfl rfl ?_
        refine k_istore_n (lv' := [(3, .int (fX11_bit zO m_vs2 w_L2)), (0, .ref b_m), (1, .int w_L1), (2, .int w_L2)]) X dX11_firsts_88 rfl rfl rfl rfl ?_
        refine k_aload_n X dX11_firsts_89 rfl 1 rfl rfl ?_
        refine k_aload_n X dX11_firsts_90 rfl 1 rfl rfl ?_
        refine k_get X i_wsX110 0 17 q27_3 rfl rfl rfl rfl rfl dX11_firsts_91 rfl ?_
        refine k_iload_n X dX11_firsts_94 rfl 3 rfl rfl ?_
        refine k_aload_n X dX11_firsts_95 rfl 1 rfl rfl ?_
        refine k_get X i_wsX110 0 18 q27_5 rfl rfl rfl rfl rfl dX11_firsts_96 rfl ?_
        refine k_iconst X dX11_firsts_99 kc_i_1 rfl ?_
        refine k_mid2 [(b_m, .inr (10, [.int m_thrown, .ref b_zX, .ref b_zV, .ref b_zO, .ref m_memory, .ref m_shut, .long m_choices, .int m_vl, .int m_vtype, .int m_vstart, .int m_vxrm, .int m_vxsat, .int m_done, .int m_illegal, .int m_traps, .int m_trapAddress, .int m_word, .int m_vd, .int m_vs1, .int m_vs2, .int m_f3, .int m_f6, .int m_sew, .int m_l8, .int m_unmasked])), (b_zX, .inl (kI, 32, .inl zX)), (b_zV, .inl (kI, 512, .inl w_zV)), (b_zO, .inl (kI, 512, .inl zO))] [(0, .ref b_m), (1, .int w_L1), (2, .int w_L2), (3, .int (fX11_bit zO m_vs2 w_L2))] [.int (pX11_firsts_152_S4 m_vs1 m_vs2 zO w_L2 w_L1), .int w_L2, .int m_vd, .ref b_m] 152 (fun hJ15 => ?_) ?_
        · skip
          refine k_icmp_ne (tgt := 119) X dX11_firsts_100 (by decide) rfl (fun c8 => ?_) (fun c8 => ?_)
          · skip
            refine k_iload_n X dX11_firsts_103 rfl 2 rfl rfl ?_
            refine k_if_ne (tgt := 115) X dX11_firsts_104 (by decide) rfl (fun c9 => ?_) (fun c9 => ?_)
            · skip
              refine k_iload_n X dX11_firsts_107 rfl 0 rfl rfl ?_
              refine k_if_ne (tgt := 115) X dX11_firsts_108 (by decide) rfl (fun c10 => ?_) (fun c10 => ?_)
              · skip
                refine k_iconst X dX11_firsts_111 kc_i_1 rfl ?_
                refine k_goto (tgt := 152) X dX11_firsts_112 (by decide) ?_
                have e45 : (pX11_firsts_152_S4 m_vs1 m_vs2 zO w_L2 w_L1) = (1 : Int32) := by rw [pX11_firsts_152_S4, if_pos c8, if_pos c9, if_pos c10]
                rw [e45] at hJ15
                exact k_sub [1, 2, 3, 0] rfl hJ15
              refine k_iconst X dX11_firsts_115 kc_i_0 rfl ?_
              refine k_goto (tgt := 152) X dX11_firsts_116 (by decide) ?_
              have e46 : (pX11_firsts_152_S4 m_vs1 m_vs2 zO w_L2 w_L1) = (0 : Int32) := by rw [pX11_firsts_152_S4, if_pos c8, if_pos c9, if_neg c10]
              rw [e46] at hJ15
              exact k_sub [1, 2, 3, 0] rfl hJ15
            refine k_iconst X dX11_firsts_115 kc_i_0 rfl ?_
            refine k_goto (tgt := 152) X dX11_firsts_116 (by decide) ?_
            have e47 : (pX11_firsts_152_S4 m_vs1 m_vs2 zO w_L2 w_L1) = (0 : Int32) := by rw [pX11_firsts_152_S4, if_pos c8, if_neg c9]
            rw [e47] at hJ15
            exact k_sub [1, 2, 3, 0] rfl hJ15
          refine k_aload_n X dX11_firsts_119 rfl 1 rfl rfl ?_
          refine k_get X i_wsX110 0 18 q27_5 rfl rfl rfl rfl rfl dX11_firsts_120 rfl ?_
          refine k_iconst X dX11_firsts_123 kc_i_3 rfl ?_
          refine k_icmp_ne (tgt := 139) X dX11_firsts_124 (by decide) rfl (fun c11 => ?_) (fun c11 => ?_)
          · skip
            refine k_iload_n X dX11_firsts_127 rfl 2 rfl rfl ?_
            refine k_if_ne (tgt := 135) X dX11_firsts_128 (by decide) rfl (fun c12 => ?_) (fun c12 => ?_)
            · skip
              refine k_iconst X dX11_firsts_131 kc_i_1 rfl ?_
              refine k_goto (tgt := 152) X dX11_firsts_132 (by decide) ?_
              have e48 : (pX11_firsts_152_S4 m_vs1 m_vs2 zO w_L2 w_L1) = (1 : Int32) := by rw [pX11_firsts_152_S4, if_neg c8, if_pos c11, if_pos c12]
              rw [e48] at hJ15
              exact k_sub [1, 2, 3, 0] rfl hJ15
            refine k_iconst X dX11_firsts_135 kc_i_0 rfl ?_
            refine k_goto (tgt := 152) X dX11_firsts_136 (by decide) ?_
            have e49 : (pX11_firsts_152_S4 m_vs1 m_vs2 zO w_L2 w_L1) = (0 : Int32) := by rw [pX11_firsts_152_S4, if_neg c8, if_pos c11, if_neg c12]
            rw [e49] at hJ15
            exact k_sub [1, 2, 3, 0] rfl hJ15
          refine k_iload_n X dX11_firsts_139 rfl 2 rfl rfl ?_
          refine k_if_ne (tgt := 151) X dX11_firsts_140 (by decide) rfl (fun c13 => ?_) (fun c13 => ?_)
          · skip
            refine k_iload_n X dX11_firsts_143 rfl 0 rfl rfl ?_
            refine k_if_eq (tgt := 151) X dX11_firsts_144 (by decide) rfl (fun c14 => ?_) (fun c14 => ?_)
            · skip
              refine k_iconst X dX11_firsts_151 kc_i_0 rfl ?_
              have e50 : (pX11_firsts_152_S4 m_vs1 m_vs2 zO w_L2 w_L1) = (0 : Int32) := by rw [pX11_firsts_152_S4, if_neg c8, if_neg c11, if_pos c13, if_pos c14]
              rw [e50] at hJ15
              exact k_sub [1, 2, 3, 0] rfl hJ15
            refine k_iconst X dX11_firsts_147 kc_i_1 rfl ?_
            refine k_goto (tgt := 152) X dX11_firsts_148 (by decide) ?_
            have e51 : (pX11_firsts_152_S4 m_vs1 m_vs2 zO w_L2 w_L1) = (1 : Int32) := by rw [pX11_firsts_152_S4, if_neg c8, if_neg c11, if_pos c13, if_neg c14]
            rw [e51] at hJ15
            exact k_sub [1, 2, 3, 0] rfl hJ15
          refine k_iconst X dX11_firsts_151 kc_i_0 rfl ?_
          have e52 : (pX11_firsts_152_S4 m_vs1 m_vs2 zO w_L2 w_L1) = (0 : Int32) := by rw [pX11_firsts_152_S4, if_neg c8, if_neg c11, if_neg c13]
          rw [e52] at hJ15
          exact k_sub [1, 2, 3, 0] rfl hJ15
        refine k_cV0 (st := []) (ws' := [(b_m, .inr (10, [.int m_thrown, .ref b_zX, .ref b_zV, .ref b_zO, .ref m_memory, .ref m_shut, .long m_choices, .int m_vl, .int m_vtype, .int m_vstart, .int m_vxrm, .int m_vxsat, .int m_done, .int m_illegal, .int m_traps, .int m_trapAddress, .int m_word, .int m_vd, .int m_vs1, .int m_vs2, .int m_f3, .int m_f6, .int m_sew, .int m_l8, .int m_unmasked])), (b_zX, .inl (kI, 32, .inl zX)), (b_zV, .inl (kI, 512, .inl (fX11_putBit__zV w_zV m_vd w_L2 (pX11_firsts_152_S4 m_vs1 m_vs2 zO w_L2 w_L1)))), (b_zO, .inl (kI, 512, .inl zO))]) (wr := [(b_zX, .inl (kI, 32, .inl zX)), (b_zO, .inl (kI, 512, .inl zO))]) (ci := 10) (q9 := 0) X [.int m_vd, .int w_L2, .int (pX11_firsts_152_S4 m_vs1 m_vs2 zO w_L2 w_L1)] 0 [0, 2] [1, 3] [2, 0, 3, 1] (kX11_putBit l D kI kZ b_m b_zV m_thrown b_zX b_zO m_memory m_shut m_choices m_vl m_vtype m_vstart m_vxrm m_vxsat m_done m_illegal m_traps m_trapAddress m_word m_vd m_vs1 m_vs2 m_f3 m_f6 m_sew m_l8 m_unmasked w_zV m_vd w_L2 (pX11_firsts_152_S4 m_vs1 m_vs2 zO w_L2 w_L1) (hob.2.2.2 c5 c6)) vX11_putBit q35_23 dX11_firsts_152 rfl rfl rfl rfl rfl rfl rfl rfl rfl rfl rfl rfl rfl rfl rfl ?_
        refine k_iload_n X dX11_firsts_155 rfl 1 rfl rfl ?_
        refine k_mid2 [(b_m, .inr (10, [.int m_thrown, .ref b_zX, .ref b_zV, .ref b_zO, .ref m_memory, .ref m_shut, .long m_choices, .int m_vl, .int m_vtype, .int m_vstart, .int m_vxrm, .int m_vxsat, .int m_done, .int m_illegal, .int m_traps, .int m_trapAddress, .int m_word, .int m_vd, .int m_vs1, .int m_vs2, .int m_f3, .int m_f6, .int m_sew, .int m_l8, .int m_unmasked])), (b_zX, .inl (kI, 32, .inl zX)), (b_zV, .inl (kI, 512, .inl (fX11_putBit__zV w_zV m_vd w_L2 (pX11_firsts_152_S4 m_vs1 m_vs2 zO w_L2 w_L1)))), (b_zO, .inl (kI, 512, .inl zO))] [(0, .ref b_m), (1, .int w_L1), (2, .int w_L2), (3, .int (fX11_bit zO m_vs2 w_L2))] [.int (pX11_firsts_168_S1 m_vs2 zO w_L2 w_L1)] 168 (fun hJ18 => ?_) ?_
        · skip
          refine k_if_ne (tgt := 163) X dX11_firsts_156 (by decide) rfl (fun c16 => ?_) (fun c16 => ?_)
          · skip
            refine k_iload_n X dX11_firsts_159 rfl 3 rfl rfl ?_
            refine k_if_eq (tgt := 167) X dX11_firsts_160 (by decide) rfl (fun c17 => ?_) (fun c17 => ?_)
            · skip
              refine k_iconst X dX11_firsts_167 kc_i_0 rfl ?_
              have e53 : (pX11_firsts_168_S1 m_vs2 zO w_L2 w_L1) = (0 : Int32) := by rw [pX11_firsts_168_S1, if_pos c16, if_pos c17]
              rw [e53] at hJ18
              exact k_sub [0, 1, 2, 3] rfl hJ18
            refine k_iconst X dX11_firsts_163 kc_i_1 rfl ?_
            refine k_goto (tgt := 168) X dX11_firsts_164 (by decide) ?_
            have e54 : (pX11_firsts_168_S1 m_vs2 zO w_L2 w_L1) = (1 : Int32) := by rw [pX11_firsts_168_S1, if_pos c16, if_neg c17]
            rw [e54] at hJ18
            exact k_sub [0, 1, 2, 3] rfl hJ18
          refine k_iconst X dX11_firsts_163 kc_i_1 rfl ?_
          refine k_goto (tgt := 168) X dX11_firsts_164 (by decide) ?_
          have e55 : (pX11_firsts_168_S1 m_vs2 zO w_L2 w_L1) = (1 : Int32) := by rw [pX11_firsts_168_S1, if_neg c16]
          rw [e55] at hJ18
          exact k_sub [0, 1, 2, 3] rfl hJ18
        refine k_istore_n (lv' := [(1, .int (pX11_firsts_168_S1 m_vs2 zO w_L2 w_L1)), (0, .ref b_m), (2, .int w_L2), (3, .int (fX11_bit zO m_vs2 w_L2))]) X dX11_firsts_168 rfl rfl rfl rfl ?_
        have e56 : (pX11_firsts_169_L1 m_vs2 m_unmasked zO w_L2 w_L1) = (pX11_firsts_168_S1 m_vs2 zO w_L2 w_L1) := by rw [pX11_firsts_169_L1, if_neg c6]
        rw [e56] at hJ19
        have e57 : (pX11_firsts_169_zV m_choices m_vtype m_vd m_vs1 m_vs2 m_unmasked zO w_L2 w_L1 w_zV) = (fX11_putBit__zV w_zV m_vd w_L2 (pX11_firsts_152_S4 m_vs1 m_vs2 zO w_L2 w_L1)) := by rw [pX11_firsts_169_zV, if_neg c6]
        rw [e57] at hJ19
        exact k_sub [1, 0, 2] rfl hJ19
      refine k_iinc (lv' := [(2, .int (w_L2 + (1 : Int32))), (0, .ref b_m), (1, .int (pX11_firsts_169_L1 m_vs2 m_unmasked zO w_L2 w_L1))]) X dX11_firsts_169 2 rfl kc_i_1 rfl rfl rfl ?_
      refine k_goto (tgt := 44) X dX11_firsts_172 (by decide) ?_
      have e58 : bX11_firsts_44_L2 m_vl w_L2 w_L1 w_zV = (w_L2 + (1 : Int32)) := by rw [bX11_firsts_44_L2, if_neg c5]
      rw [e58] at g0
      have e59 : bX11_firsts_44_L1 m_vl m_vs2 m_unmasked zO w_L2 w_L1 w_zV = (pX11_firsts_169_L1 m_vs2 m_unmasked zO w_L2 w_L1) := by rw [bX11_firsts_44_L1, if_neg c5]
      rw [e59] at g0
      have e60 : bX11_firsts_44_zV m_choices m_vl m_vtype m_vd m_vs1 m_vs2 m_unmasked zO w_L2 w_L1 w_zV = (pX11_firsts_169_zV m_choices m_vtype m_vd m_vs1 m_vs2 m_unmasked zO w_L2 w_L1 w_zV) := by rw [bX11_firsts_44_zV, if_neg c5]
      rw [e60] at g0
      exact k_sub [1, 2, 0] rfl g0
    try dsimp only
    refine k_iload_n X dX11_firsts_44 rfl 2 rfl rfl ?_
    refine k_aload_n X dX11_firsts_45 rfl 0 rfl rfl ?_
    refine k_get X i_wsX110 0 7 q28_7 rfl rfl rfl rfl rfl dX11_firsts_46 rfl ?_
    refine k_icmp_ge (tgt := 175) X dX11_firsts_49 (by decide) rfl (fun c20 => ?_) (fun c20 => ?_)
    · skip
      refine k_aload_n X dX11_firsts_175 rfl 0 rfl rfl ?_
      refine k_aload_n X dX11_firsts_176 rfl 0 rfl rfl ?_
      refine k_get X i_wsX110 0 17 q27_3 rfl rfl rfl rfl rfl dX11_firsts_177 rfl ?_
      refine k_cV0 (st := []) (ws' := [(b_m, .inr (10, [.int m_thrown, .ref b_zX, .ref b_zV, .ref b_zO, .ref m_memory, .ref m_shut, .long m_choices, .int m_vl, .int m_vtype, .int m_vstart, .int m_vxrm, .int m_vxsat, .int m_done, .int m_illegal, .int m_traps, .int m_trapAddress, .int m_word, .int m_vd, .int m_vs1, .int m_vs2, .int m_f3, .int m_f6, .int m_sew, .int m_l8, .int m_unmasked])), (b_zX, .inl (kI, 32, .inl zX)), (b_zV, .inl (kI, 512, .inl (fX11_maskTail__zV m_choices m_vl ((LX11_firsts_44 m_choices m_vl m_vtype m_vd m_vs1 m_vs2 m_unmasked zO (cnt (0 : Int32) m_vl) ((0 : Int32), (0 : Int32), zV)).2.2) m_vd))), (b_zO, .inl (kI, 512, .inl zO))]) (wr := [(b_zX, .inl (kI, 32, .inl zX)), (b_zO, .inl (kI, 512, .inl zO))]) (ci := 10) (q9 := 0) X [.int m_vd] 0 [0, 2] [1, 3] [2, 0, 3, 1] (kX11_maskTail l D kI kZ b_m b_zV m_thrown b_zX b_zO m_memory m_shut m_choices m_vl m_vtype m_vstart m_vxrm m_vxsat m_done m_illegal m_traps m_trapAddress m_word m_vd m_vs1 m_vs2 m_f3 m_f6 m_sew m_l8 m_unmasked ((LX11_firsts_44 m_choices m_vl m_vtype m_vd m_vs1 m_vs2 m_unmasked zO (cnt (0 : Int32) m_vl) ((0 : Int32), (0 : Int32), zV)).2.2) m_vd (hok.2.2.1 c1 c2 c3 c4 c20)) vX11_maskTail q36_3 dX11_firsts_180 rfl rfl rfl rfl rfl rfl rfl rfl rfl rfl rfl rfl rfl rfl rfl ?_
      refine k_iconst X dX11_firsts_183 kc_i_1 rfl ?_
      have e61 : (fX11_firsts m_vstart m_vd m_vs2 m_unmasked) = (1 : Int32) := by rw [fX11_firsts, if_pos c1, if_neg c2, if_neg c3]
      have e62 : (fX11_firsts__zV m_choices m_vl m_vtype m_vstart m_vd m_vs1 m_vs2 m_unmasked zV zO) = (fX11_maskTail__zV m_choices m_vl ((LX11_firsts_44 m_choices m_vl m_vtype m_vd m_vs1 m_vs2 m_unmasked zO (cnt (0 : Int32) m_vl) ((0 : Int32), (0 : Int32), zV)).2.2) m_vd) := by rw [fX11_firsts__zV, if_pos c1, if_neg c2, if_neg c3, if_neg c4]
      exact k_zret9 X hRt hLk rfl e61.symm (by rw [e62]) dX11_firsts_184
    refine k_aload_n X dX11_firsts_52 rfl 0 rfl rfl ?_
    refine k_iload_n X dX11_firsts_53 rfl 2 rfl rfl ?_
    refine k_cV1 (st := []) (ws' := [(b_m, .inr (10, [.int m_thrown, .ref b_zX, .ref b_zV, .ref b_zO, .ref m_memory, .ref m_shut, .long m_choices, .int m_vl, .int m_vtype, .int m_vstart, .int m_vxrm, .int m_vxsat, .int m_done, .int m_illegal, .int m_traps, .int m_trapAddress, .int m_word, .int m_vd, .int m_vs1, .int m_vs2, .int m_f3, .int m_f6, .int m_sew, .int m_l8, .int m_unmasked])), (b_zX, .inl (kI, 32, .inl zX)), (b_zV, .inl (kI, 512, .inl ((LX11_firsts_44 m_choices m_vl m_vtype m_vd m_vs1 m_vs2 m_unmasked zO (cnt (0 : Int32) m_vl) ((0 : Int32), (0 : Int32), zV)).2.2))), (b_zO, .inl (kI, 512, .inl zO))]) (wr := [(b_zX, .inl (kI, 32, .inl zX)), (b_zV, .inl (kI, 512, .inl ((LX11_firsts_44 m_choices m_vl m_vtype m_vd m_vs1 m_vs2 m_unmasked zO (cnt (0 : Int32) m_vl) ((0 : Int32), (0 : Int32), zV)).2.2)))]) (ci := 10) (q9 := 0) X [.int ((LX11_firsts_44 m_choices m_vl m_vtype m_vd m_vs1 m_vs2 m_unmasked zO (cnt (0 : Int32) m_vl) ((0 : Int32), (0 : Int32), zV)).1)] 0 [0, 3] [1, 2] [2, 0, 1, 3] (kX11_isActive l D kI kZ b_m b_zO m_thrown b_zX b_zV m_memory m_shut m_choices m_vl m_vtype m_vstart m_vxrm m_vxsat m_done m_illegal m_traps m_trapAddress m_word m_vd m_vs1 m_vs2 m_f3 m_f6 m_sew m_l8 m_unmasked zO ((LX11_firsts_44 m_choices m_vl m_vtype m_vd m_vs1 m_vs2 m_unmasked zO (cnt (0 : Int32) m_vl) ((0 : Int32), (0 : Int32), zV)).1) (hok.2.2.2.1 c1 c2 c3 c4 c20)) vX11_isActive q31_6 dX11_firsts_54 rfl rfl rfl rfl rfl rfl rfl rfl rfl rfl rfl rfl rfl rfl rfl ?_
    refine k_mid2 [(b_m, .inr (10, [.int m_thrown, .ref b_zX, .ref b_zV, .ref b_zO, .ref m_memory, .ref m_shut, .long m_choices, .int m_vl, .int m_vtype, .int m_vstart, .int m_vxrm, .int m_vxsat, .int m_done, .int m_illegal, .int m_traps, .int m_trapAddress, .int m_word, .int m_vd, .int m_vs1, .int m_vs2, .int m_f3, .int m_f6, .int m_sew, .int m_l8, .int m_unmasked])), (b_zX, .inl (kI, 32, .inl zX)), (b_zV, .inl (kI, 512, .inl (pX11_firsts_169_zV m_choices m_vtype m_vd m_vs1 m_vs2 m_unmasked zO ((LX11_firsts_44 m_choices m_vl m_vtype m_vd m_vs1 m_vs2 m_unmasked zO (cnt (0 : Int32) m_vl) ((0 : Int32), (0 : Int32), zV)).1) ((LX11_firsts_44 m_choices m_vl m_vtype m_vd m_vs1 m_vs2 m_unmasked zO (cnt (0 : Int32) m_vl) ((0 : Int32), (0 : Int32), zV)).2.1) ((LX11_firsts_44 m_choices m_vl m_vtype m_vd m_vs1 m_vs2 m_unmasked zO (cnt (0 : Int32) m_vl) ((0 : Int32), (0 : Int32), zV)).2.2)))), (b_zO, .inl (kI, 512, .inl zO))] [(0, .ref b_m), (1, .int (pX11_firsts_169_L1 m_vs2 m_unmasked zO ((LX11_firsts_44 m_choices m_vl m_vtype m_vd m_vs1 m_vs2 m_unmasked zO (cnt (0 : Int32) m_vl) ((0 : Int32), (0 : Int32), zV)).1) ((LX11_firsts_44 m_choices m_vl m_vtype m_vd m_vs1 m_vs2 m_unmasked zO (cnt (0 : Int32) m_vl) ((0 : Int32), (0 : Int32), zV)).2.1))), (2, .int ((LX11_firsts_44 m_choices m_vl m_vtype m_vd m_vs1 m_vs2 m_unmasked zO (cnt (0 : Int32) m_vl) ((0 : Int32), (0 : Int32), zV)).1))] [] 169 (fun hJ34 => ?_) ?_
    · skip
      refine k_if_ne (tgt := 79) X dX11_firsts_57 (by decide) rfl (fun c21 => ?_) (fun c21 => ?_)
      · skip
        refine k_aload_n X dX11_firsts_60 rfl 0 rfl rfl ?_
        refine k_cV1 (st := []) (ws' := [(b_m, .inr (10, [.int m_thrown, .ref b_zX, .ref b_zV, .ref b_zO, .ref m_memory, .ref m_shut, .long m_choices, .int m_vl, .int m_vtype, .int m_vstart, .int m_vxrm, .int m_vxsat, .int m_done, .int m_illegal, .int m_traps, .int m_trapAddress, .int m_word, .int m_vd, .int m_vs1, .int m_vs2, .int m_f3, .int m_f6, .int m_sew, .int m_l8, .int m_unmasked])), (b_zX, .inl (kI, 32, .inl zX)), (b_zV, .inl (kI, 512, .inl ((LX11_firsts_44 m_choices m_vl m_vtype m_vd m_vs1 m_vs2 m_unmasked zO (cnt (0 : Int32) m_vl) ((0 : Int32), (0 : Int32), zV)).2.2))), (b_zO, .inl (kI, 512, .inl zO))]) (wr := [(b_zX, .inl (kI, 32, .inl zX)), (b_zV, .inl (kI, 512, .inl ((LX11_firsts_44 m_choices m_vl m_vtype m_vd m_vs1 m_vs2 m_unmasked zO (cnt (0 : Int32) m_vl) ((0 : Int32), (0 : Int32), zV)).2.2))), (b_zO, .inl (kI, 512, .inl zO))]) (ci := 10) (q9 := 0) X [] 0 [0] [1, 2, 3] [3, 0, 1, 2] (kX11_isMaskOpen l D kI kZ b_m m_thrown b_zX b_zV b_zO m_memory m_shut m_choices m_vl m_vtype m_vstart m_vxrm m_vxsat m_done m_illegal m_traps m_trapAddress m_word m_vd m_vs1 m_vs2 m_f3 m_f6 m_sew m_l8 m_unmasked) vX11_isMaskOpen q31_18 dX11_firsts_61 rfl rfl rfl rfl rfl rfl rfl rfl rfl rfl rfl rfl rfl rfl rfl ?_
        refine k_if_eq (tgt := 169) X dX11_firsts_64 (by decide) rfl (fun c22 => ?_) (fun c22 => ?_)
        · skip
          have e63 : (pX11_firsts_169_L1 m_vs2 m_unmasked zO ((LX11_firsts_44 m_choices m_vl m_vtype m_vd m_vs1 m_vs2 m_unmasked zO (cnt (0 : Int32) m_vl) ((0 : Int32), (0 : Int32), zV)).1) ((LX11_firsts_44 m_choices m_vl m_vtype m_vd m_vs1 m_vs2 m_unmasked zO (cnt (0 : Int32) m_vl) ((0 : Int32), (0 : Int32), zV)).2.1)) = (LX11_firsts_44 m_choices m_vl m_vtype m_vd m_vs1 m_vs2 m_unmasked zO (cnt (0 : Int32) m_vl) ((0 : Int32), (0 : Int32), zV)).2.1 := by rw [pX11_firsts_169_L1, if_pos c21]
          rw [e63] at hJ34
          have e64 : (pX11_firsts_169_zV m_choices m_vtype m_vd m_vs1 m_vs2 m_unmasked zO ((LX11_firsts_44 m_choices m_vl m_vtype m_vd m_vs1 m_vs2 m_unmasked zO (cnt (0 : Int32) m_vl) ((0 : Int32), (0 : Int32), zV)).1) ((LX11_firsts_44 m_choices m_vl m_vtype m_vd m_vs1 m_vs2 m_unmasked zO (cnt (0 : Int32) m_vl) ((0 : Int32), (0 : Int32), zV)).2.1) ((LX11_firsts_44 m_choices m_vl m_vtype m_vd m_vs1 m_vs2 m_unmasked zO (cnt (0 : Int32) m_vl) ((0 : Int32), (0 : Int32), zV)).2.2)) = (LX11_firsts_44 m_choices m_vl m_vtype m_vd m_vs1 m_vs2 m_unmasked zO (cnt (0 : Int32) m_vl) ((0 : Int32), (0 : Int32), zV)).2.2 := by rw [pX11_firsts_169_zV, if_pos c21, if_pos c22]
          rw [e64] at hJ34
          exact k_sub [0, 1, 2] rfl hJ34
        refine k_aload_n X dX11_firsts_67 rfl 0 rfl rfl ?_
        refine k_aload_n X dX11_firsts_68 rfl 0 rfl rfl ?_
        refine k_get X i_wsX110 0 17 q27_3 rfl rfl rfl rfl rfl dX11_firsts_69 rfl ?_
        refine k_iload_n X dX11_firsts_72 rfl 2 rfl rfl ?_
        refine k_cV0 (st := []) (ws' := [(b_m, .inr (10, [.int m_thrown, .ref b_zX, .ref b_zV, .ref b_zO, .ref m_memory, .ref m_shut, .long m_choices, .int m_vl, .int m_vtype, .int m_vstart, .int m_vxrm, .int m_vxsat, .int m_done, .int m_illegal, .int m_traps, .int m_trapAddress, .int m_word, .int m_vd, .int m_vs1, .int m_vs2, .int m_f3, .int m_f6, .int m_sew, .int m_l8, .int m_unmasked])), (b_zX, .inl (kI, 32, .inl zX)), (b_zV, .inl (kI, 512, .inl (fX11_openBit__zV m_choices ((LX11_firsts_44 m_choices m_vl m_vtype m_vd m_vs1 m_vs2 m_unmasked zO (cnt (0 : Int32) m_vl) ((0 : Int32), (0 : Int32), zV)).2.2) m_vd ((LX11_firsts_44 m_choices m_vl m_vtype m_vd m_vs1 m_vs2 m_unmasked zO (cnt (0 : Int32) m_vl) ((0 : Int32), (0 : Int32), zV)).1)))), (b_zO, .inl (kI, 512, .inl zO))]) (wr := [(b_zX, .inl (kI, 32, .inl zX)), (b_zO, .inl (kI, 512, .inl zO))]) (ci := 10) (q9 := 0) X [.int m_vd, .int ((LX11_firsts_44 m_choices m_vl m_vtype m_vd m_vs1 m_vs2 m_unmasked zO (cnt (0 : Int32) m_vl) ((0 : Int32), (0 : Int32), zV)).1)] 0 [0, 2] [1, 3] [2, 0, 3, 1] (kX11_openBit l D kI kZ b_m b_zV m_thrown b_zX b_zO m_memory m_shut m_choices m_vl m_vtype m_vstart m_vxrm m_vxsat m_done m_illegal m_traps m_trapAddress m_word m_vd m_vs1 m_vs2 m_f3 m_f6 m_sew m_l8 m_unmasked ((LX11_firsts_44 m_choices m_vl m_vtype m_vd m_vs1 m_vs2 m_unmasked zO (cnt (0 : Int32) m_vl) ((0 : Int32), (0 : Int32), zV)).2.2) m_vd ((LX11_firsts_44 m_choices m_vl m_vtype m_vd m_vs1 m_vs2 m_unmasked zO (cnt (0 : Int32) m_vl) ((0 : Int32), (0 : Int32), zV)).1) (hok.2.2.2.2.1 c1 c2 c3 c4 c20 c21 c22)) vX11_openBit q36_7 dX11_firsts_73 rfl rfl rfl rfl rfl rfl rfl rfl rfl rfl rfl rfl rfl rfl rfl ?_
        refine k_goto (tgt := 169) X dX11_firsts_76 (by decide) ?_
        have e65 : (pX11_firsts_169_L1 m_vs2 m_unmasked zO ((LX11_firsts_44 m_choices m_vl m_vtype m_vd m_vs1 m_vs2 m_unmasked zO (cnt (0 : Int32) m_vl) ((0 : Int32), (0 : Int32), zV)).1) ((LX11_firsts_44 m_choices m_vl m_vtype m_vd m_vs1 m_vs2 m_unmasked zO (cnt (0 : Int32) m_vl) ((0 : Int32), (0 : Int32), zV)).2.1)) = (LX11_firsts_44 m_choices m_vl m_vtype m_vd m_vs1 m_vs2 m_unmasked zO (cnt (0 : Int32) m_vl) ((0 : Int32), (0 : Int32), zV)).2.1 := by rw [pX11_firsts_169_L1, if_pos c21]
        rw [e65] at hJ34
        have e66 : (pX11_firsts_169_zV m_choices m_vtype m_vd m_vs1 m_vs2 m_unmasked zO ((LX11_firsts_44 m_choices m_vl m_vtype m_vd m_vs1 m_vs2 m_unmasked zO (cnt (0 : Int32) m_vl) ((0 : Int32), (0 : Int32), zV)).1) ((LX11_firsts_44 m_choices m_vl m_vtype m_vd m_vs1 m_vs2 m_unmasked zO (cnt (0 : Int32) m_vl) ((0 : Int32), (0 : Int32), zV)).2.1) ((LX11_firsts_44 m_choices m_vl m_vtype m_vd m_vs1 m_vs2 m_unmasked zO (cnt (0 : Int32) m_vl) ((0 : Int32), (0 : Int32), zV)).2.2)) = (fX11_openBit__zV m_choices ((LX11_firsts_44 m_choices m_vl m_vtype m_vd m_vs1 m_vs2 m_unmasked zO (cnt (0 : Int32) m_vl) ((0 : Int32), (0 : Int32), zV)).2.2) m_vd ((LX11_firsts_44 m_choices m_vl m_vtype m_vd m_vs1 m_vs2 m_unmasked zO (cnt (0 : Int32) m_vl) ((0 : Int32), (0 : Int32), zV)).1)) := by rw [pX11_firsts_169_zV, if_pos c21, if_neg c22]
        rw [e66] at hJ34
        exact k_sub [0, 1, 2] rfl hJ34
      refine k_aload_n X dX11_firsts_79 rfl 0 rfl rfl ?_
      refine k_aload_n X dX11_firsts_80 rfl 0 rfl rfl ?_
      refine k_get X i_wsX110 0 19 q27_6 rfl rfl rfl rfl rfl dX11_firsts_81 rfl ?_
      refine k_iload_n X dX11_firsts_84 rfl 2 rfl rfl ?_
      refine k_cV1 (st := []) (ws' := [(b_m, .inr (10, [.int m_thrown, .ref b_zX, .ref b_zV, .ref b_zO, .ref m_memory, .ref m_shut, .long m_choices, .int m_vl, .int m_vtype, .int m_vstart, .int m_vxrm, .int m_vxsat, .int m_done, .int m_illegal, .int m_traps, .int m_trapAddress, .int m_word, .int m_vd, .int m_vs1, .int m_vs2, .int m_f3, .int m_f6, .int m_sew, .int m_l8, .int m_unmasked])), (b_zX, .inl (kI, 32, .inl zX)), (b_zV, .inl (kI, 512, .inl ((LX11_firsts_44 m_choices m_vl m_vtype m_vd m_vs1 m_vs2 m_unmasked zO (cnt (0 : Int32) m_vl) ((0 : Int32), (0 : Int32), zV)).2.2))), (b_zO, .inl (kI, 512, .inl zO))]) (wr := [(b_zX, .inl (kI, 32, .inl zX)), (b_zV, .inl (kI, 512, .inl ((LX11_firsts_44 m_choices m_vl m_vtype m_vd m_vs1 m_vs2 m_unmasked zO (cnt (0 : Int32) m_vl) ((0 : Int32), (0 : Int32), zV)).2.2)))]) (ci := 10) (q9 := 0) X [.int m_vs2, .int ((LX11_firsts_44 m_choices m_vl m_vtype m_vd m_vs1 m_vs2 m_unmasked zO (cnt (0 : Int32) m_vl) ((0 : Int32), (0 : Int32), zV)).1)] 0 [0, 3] [1, 2] [2, 0, 1, 3] (kX11_bit l D kI kZ b_m b_zO m_thrown b_zX b_zV m_memory m_shut m_choices m_vl m_vtype m_vstart m_vxrm m_vxsat m_done m_illegal m_traps m_trapAddress m_word m_vd m_vs1 m_vs2 m_f3 m_f6 m_sew m_l8 m_unmasked zO m_vs2 ((LX11_firsts_44 m_choices m_vl m_vtype m_vd m_vs1 m_vs2 m_unmasked zO (cnt (0 : Int32) m_vl) ((0 : Int32), (0 : Int32), zV)).1) (hok.2.2.2.2.2.1 c1 c2 c3 c4 c20 c21)) vX11_bit q31_10 dX11_firsts_85 rfl rfl rfl rfl rfl rfl rfl rfl rfl rfl rfl rfl rfl rfl rfl ?_
      refine k_istore_n (lv' := [(3, .int (fX11_bit zO m_vs2 ((LX11_firsts_44 m_choices m_vl m_vtype m_vd m_vs1 m_vs2 m_unmasked zO (cnt (0 : Int32) m_vl) ((0 : Int32), (0 : Int32), zV)).1))), (0, .ref b_m), (1, .int ((LX11_firsts_44 m_choices m_vl m_vtype m_vd m_vs1 m_vs2 m_unmasked zO (cnt (0 : Int32) m_vl) ((0 : Int32), (0 : Int32), zV)).2.1)), (2, .int ((LX11_firsts_44 m_choices m_vl m_vtype m_vd m_vs1 m_vs2 m_unmasked zO (cnt (0 : Int32) m_vl) ((0 : Int32), (0 : Int32), zV)).1))]) X dX11_firsts_88 rfl rfl rfl rfl ?_
      refine k_aload_n X dX11_firsts_89 rfl 1 rfl rfl ?_
      refine k_aload_n X dX11_firsts_90 rfl 1 rfl rfl ?_
      refine k_get X i_wsX110 0 17 q27_3 rfl rfl rfl rfl rfl dX11_firsts_91 rfl ?_
      refine k_iload_n X dX11_firsts_94 rfl 3 rfl rfl ?_
      refine k_aload_n X dX11_firsts_95 rfl 1 rfl rfl ?_
      refine k_get X i_wsX110 0 18 q27_5 rfl rfl rfl rfl rfl dX11_firsts_96 rfl ?_
      refine k_iconst X dX11_firsts_99 kc_i_1 rfl ?_
      refine k_mid2 [(b_m, .inr (10, [.int m_thrown, .ref b_zX, .ref b_zV, .ref b_zO, .ref m_memory, .ref m_shut, .long m_choices, .int m_vl, .int m_vtype, .int m_vstart, .int m_vxrm, .int m_vxsat, .int m_done, .int m_illegal, .int m_traps, .int m_trapAddress, .int m_word, .int m_vd, .int m_vs1, .int m_vs2, .int m_f3, .int m_f6, .int m_sew, .int m_l8, .int m_unmasked])), (b_zX, .inl (kI, 32, .inl zX)), (b_zV, .inl (kI, 512, .inl ((LX11_firsts_44 m_choices m_vl m_vtype m_vd m_vs1 m_vs2 m_unmasked zO (cnt (0 : Int32) m_vl) ((0 : Int32), (0 : Int32), zV)).2.2))), (b_zO, .inl (kI, 512, .inl zO))] [(0, .ref b_m), (1, .int ((LX11_firsts_44 m_choices m_vl m_vtype m_vd m_vs1 m_vs2 m_unmasked zO (cnt (0 : Int32) m_vl) ((0 : Int32), (0 : Int32), zV)).2.1)), (2, .int ((LX11_firsts_44 m_choices m_vl m_vtype m_vd m_vs1 m_vs2 m_unmasked zO (cnt (0 : Int32) m_vl) ((0 : Int32), (0 : Int32), zV)).1)), (3, .int (fX11_bit zO m_vs2 ((LX11_firsts_44 m_choices m_vl m_vtype m_vd m_vs1 m_vs2 m_unmasked zO (cnt (0 : Int32) m_vl) ((0 : Int32), (0 : Int32), zV)).1)))] [.int (pX11_firsts_152_S4 m_vs1 m_vs2 zO ((LX11_firsts_44 m_choices m_vl m_vtype m_vd m_vs1 m_vs2 m_unmasked zO (cnt (0 : Int32) m_vl) ((0 : Int32), (0 : Int32), zV)).1) ((LX11_firsts_44 m_choices m_vl m_vtype m_vd m_vs1 m_vs2 m_unmasked zO (cnt (0 : Int32) m_vl) ((0 : Int32), (0 : Int32), zV)).2.1)), .int ((LX11_firsts_44 m_choices m_vl m_vtype m_vd m_vs1 m_vs2 m_unmasked zO (cnt (0 : Int32) m_vl) ((0 : Int32), (0 : Int32), zV)).1), .int m_vd, .ref b_m] 152 (fun hJ30 => ?_) ?_
      · skip
        refine k_icmp_ne (tgt := 119) X dX11_firsts_100 (by decide) rfl (fun c23 => ?_) (fun c23 => ?_)
        · skip
          refine k_iload_n X dX11_firsts_103 rfl 2 rfl rfl ?_
          refine k_if_ne (tgt := 115) X dX11_firsts_104 (by decide) rfl (fun c24 => ?_) (fun c24 => ?_)
          · skip
            refine k_iload_n X dX11_firsts_107 rfl 0 rfl rfl ?_
            refine k_if_ne (tgt := 115) X dX11_firsts_108 (by decide) rfl (fun c25 => ?_) (fun c25 => ?_)
            · skip
              refine k_iconst X dX11_firsts_111 kc_i_1 rfl ?_
              refine k_goto (tgt := 152) X dX11_firsts_112 (by decide) ?_
              have e67 : (pX11_firsts_152_S4 m_vs1 m_vs2 zO ((LX11_firsts_44 m_choices m_vl m_vtype m_vd m_vs1 m_vs2 m_unmasked zO (cnt (0 : Int32) m_vl) ((0 : Int32), (0 : Int32), zV)).1) ((LX11_firsts_44 m_choices m_vl m_vtype m_vd m_vs1 m_vs2 m_unmasked zO (cnt (0 : Int32) m_vl) ((0 : Int32), (0 : Int32), zV)).2.1)) = (1 : Int32) := by rw [pX11_firsts_152_S4, if_pos c23, if_pos c24, if_pos c25]
              rw [e67] at hJ30
              exact k_sub [1, 2, 3, 0] rfl hJ30
            refine k_iconst X dX11_firsts_115 kc_i_0 rfl ?_
            refine k_goto (tgt := 152) X dX11_firsts_116 (by decide) ?_
            have e68 : (pX11_firsts_152_S4 m_vs1 m_vs2 zO ((LX11_firsts_44 m_choices m_vl m_vtype m_vd m_vs1 m_vs2 m_unmasked zO (cnt (0 : Int32) m_vl) ((0 : Int32), (0 : Int32), zV)).1) ((LX11_firsts_44 m_choices m_vl m_vtype m_vd m_vs1 m_vs2 m_unmasked zO (cnt (0 : Int32) m_vl) ((0 : Int32), (0 : Int32), zV)).2.1)) = (0 : Int32) := by rw [pX11_firsts_152_S4, if_pos c23, if_pos c24, if_neg c25]
            rw [e68] at hJ30
            exact k_sub [1, 2, 3, 0] rfl hJ30
          refine k_iconst X dX11_firsts_115 kc_i_0 rfl ?_
          refine k_goto (tgt := 152) X dX11_firsts_116 (by decide) ?_
          have e69 : (pX11_firsts_152_S4 m_vs1 m_vs2 zO ((LX11_firsts_44 m_choices m_vl m_vtype m_vd m_vs1 m_vs2 m_unmasked zO (cnt (0 : Int32) m_vl) ((0 : Int32), (0 : Int32), zV)).1) ((LX11_firsts_44 m_choices m_vl m_vtype m_vd m_vs1 m_vs2 m_unmasked zO (cnt (0 : Int32) m_vl) ((0 : Int32), (0 : Int32), zV)).2.1)) = (0 : Int32) := by rw [pX11_firsts_152_S4, if_pos c23, if_neg c24]
          rw [e69] at hJ30
          exact k_sub [1, 2, 3, 0] rfl hJ30
        refine k_aload_n X dX11_firsts_119 rfl 1 rfl rfl ?_
        refine k_get X i_wsX110 0 18 q27_5 rfl rfl rfl rfl rfl dX11_firsts_120 rfl ?_
        refine k_iconst X dX11_firsts_123 kc_i_3 rfl ?_
        refine k_icmp_ne (tgt := 139) X dX11_firsts_124 (by decide) rfl (fun c26 => ?_) (fun c26 => ?_)
        · skip
          refine k_iload_n X dX11_firsts_127 rfl 2 rfl rfl ?_
          refine k_if_ne (tgt := 135) X dX11_firsts_128 (by decide) rfl (fun c27 => ?_) (fun c27 => ?_)
          · skip
            refine k_iconst X dX11_firsts_131 kc_i_1 rfl ?_
            refine k_goto (tgt := 152) X dX11_firsts_132 (by decide) ?_
            have e70 : (pX11_firsts_152_S4 m_vs1 m_vs2 zO ((LX11_firsts_44 m_choices m_vl m_vtype m_vd m_vs1 m_vs2 m_unmasked zO (cnt (0 : Int32) m_vl) ((0 : Int32), (0 : Int32), zV)).1) ((LX11_firsts_44 m_choices m_vl m_vtype m_vd m_vs1 m_vs2 m_unmasked zO (cnt (0 : Int32) m_vl) ((0 : Int32), (0 : Int32), zV)).2.1)) = (1 : Int32) := by rw [pX11_firsts_152_S4, if_neg c23, if_pos c26, if_pos c27]
            rw [e70] at hJ30
            exact k_sub [1, 2, 3, 0] rfl hJ30
          refine k_iconst X dX11_firsts_135 kc_i_0 rfl ?_
          refine k_goto (tgt := 152) X dX11_firsts_136 (by decide) ?_
          have e71 : (pX11_firsts_152_S4 m_vs1 m_vs2 zO ((LX11_firsts_44 m_choices m_vl m_vtype m_vd m_vs1 m_vs2 m_unmasked zO (cnt (0 : Int32) m_vl) ((0 : Int32), (0 : Int32), zV)).1) ((LX11_firsts_44 m_choices m_vl m_vtype m_vd m_vs1 m_vs2 m_unmasked zO (cnt (0 : Int32) m_vl) ((0 : Int32), (0 : Int32), zV)).2.1)) = (0 : Int32) := by rw [pX11_firsts_152_S4, if_neg c23, if_pos c26, if_neg c27]
          rw [e71] at hJ30
          exact k_sub [1, 2, 3, 0] rfl hJ30
        refine k_iload_n X dX11_firsts_139 rfl 2 rfl rfl ?_
        refine k_if_ne (tgt := 151) X dX11_firsts_140 (by decide) rfl (fun c28 => ?_) (fun c28 => ?_)
        · skip
          refine k_iload_n X dX11_firsts_143 rfl 0 rfl rfl ?_
          refine k_if_eq (tgt := 151) X dX11_firsts_144 (by decide) rfl (fun c29 => ?_) (fun c29 => ?_)
          · skip
            refine k_iconst X dX11_firsts_151 kc_i_0 rfl ?_
            have e72 : (pX11_firsts_152_S4 m_vs1 m_vs2 zO ((LX11_firsts_44 m_choices m_vl m_vtype m_vd m_vs1 m_vs2 m_unmasked zO (cnt (0 : Int32) m_vl) ((0 : Int32), (0 : Int32), zV)).1) ((LX11_firsts_44 m_choices m_vl m_vtype m_vd m_vs1 m_vs2 m_unmasked zO (cnt (0 : Int32) m_vl) ((0 : Int32), (0 : Int32), zV)).2.1)) = (0 : Int32) := by rw [pX11_firsts_152_S4, if_neg c23, if_neg c26, if_pos c28, if_pos c29]
            rw [e72] at hJ30
            exact k_sub [1, 2, 3, 0] rfl hJ30
          refine k_iconst X dX11_firsts_147 kc_i_1 rfl ?_
          refine k_goto (tgt := 152) X dX11_firsts_148 (by decide) ?_
          have e73 : (pX11_firsts_152_S4 m_vs1 m_vs2 zO ((LX11_firsts_44 m_choices m_vl m_vtype m_vd m_vs1 m_vs2 m_unmasked zO (cnt (0 : Int32) m_vl) ((0 : Int32), (0 : Int32), zV)).1) ((LX11_firsts_44 m_choices m_vl m_vtype m_vd m_vs1 m_vs2 m_unmasked zO (cnt (0 : Int32) m_vl) ((0 : Int32), (0 : Int32), zV)).2.1)) = (1 : Int32) := by rw [pX11_firsts_152_S4, if_neg c23, if_neg c26, if_pos c28, if_neg c29]
          rw [e73] at hJ30
          exact k_sub [1, 2, 3, 0] rfl hJ30
        refine k_iconst X dX11_firsts_151 kc_i_0 rfl ?_
        have e74 : (pX11_firsts_152_S4 m_vs1 m_vs2 zO ((LX11_firsts_44 m_choices m_vl m_vtype m_vd m_vs1 m_vs2 m_unmasked zO (cnt (0 : Int32) m_vl) ((0 : Int32), (0 : Int32), zV)).1) ((LX11_firsts_44 m_choices m_vl m_vtype m_vd m_vs1 m_vs2 m_unmasked zO (cnt (0 : Int32) m_vl) ((0 : Int32), (0 : Int32), zV)).2.1)) = (0 : Int32) := by rw [pX11_firsts_152_S4, if_neg c23, if_neg c26, if_neg c28]
        rw [e74] at hJ30
        exact k_sub [1, 2, 3, 0] rfl hJ30
      refine k_cV0 (st := []) (ws' := [(b_m, .inr (10, [.int m_thrown, .ref b_zX, .ref b_zV, .ref b_zO, .ref m_memory, .ref m_shut, .long m_choices, .int m_vl, .int m_vtype, .int m_vstart, .int m_vxrm, .int m_vxsat, .int m_done, .int m_illegal, .int m_traps, .int m_trapAddress, .int m_word, .int m_vd, .int m_vs1, .int m_vs2, .int m_f3, .int m_f6, .int m_sew, .int m_l8, .int m_unmasked])), (b_zX, .inl (kI, 32, .inl zX)), (b_zV, .inl (kI, 512, .inl (fX11_putBit__zV ((LX11_firsts_44 m_choices m_vl m_vtype m_vd m_vs1 m_vs2 m_unmasked zO (cnt (0 : Int32) m_vl) ((0 : Int32), (0 : Int32), zV)).2.2) m_vd ((LX11_firsts_44 m_choices m_vl m_vtype m_vd m_vs1 m_vs2 m_unmasked zO (cnt (0 : Int32) m_vl) ((0 : Int32), (0 : Int32), zV)).1) (pX11_firsts_152_S4 m_vs1 m_vs2 zO ((LX11_firsts_44 m_choices m_vl m_vtype m_vd m_vs1 m_vs2 m_unmasked zO (cnt (0 : Int32) m_vl) ((0 : Int32), (0 : Int32), zV)).1) ((LX11_firsts_44 m_choices m_vl m_vtype m_vd m_vs1 m_vs2 m_unmasked zO (cnt (0 : Int32) m_vl) ((0 : Int32), (0 : Int32), zV)).2.1))))), (b_zO, .inl (kI, 512, .inl zO))]) (wr := [(b_zX, .inl (kI, 32, .inl zX)), (b_zO, .inl (kI, 512, .inl zO))]) (ci := 10) (q9 := 0) X [.int m_vd, .int ((LX11_firsts_44 m_choices m_vl m_vtype m_vd m_vs1 m_vs2 m_unmasked zO (cnt (0 : Int32) m_vl) ((0 : Int32), (0 : Int32), zV)).1), .int (pX11_firsts_152_S4 m_vs1 m_vs2 zO ((LX11_firsts_44 m_choices m_vl m_vtype m_vd m_vs1 m_vs2 m_unmasked zO (cnt (0 : Int32) m_vl) ((0 : Int32), (0 : Int32), zV)).1) ((LX11_firsts_44 m_choices m_vl m_vtype m_vd m_vs1 m_vs2 m_unmasked zO (cnt (0 : Int32) m_vl) ((0 : Int32), (0 : Int32), zV)).2.1))] 0 [0, 2] [1, 3] [2, 0, 3, 1] (kX11_putBit l D kI kZ b_m b_zV m_thrown b_zX b_zO m_memory m_shut m_choices m_vl m_vtype m_vstart m_vxrm m_vxsat m_done m_illegal m_traps m_trapAddress m_word m_vd m_vs1 m_vs2 m_f3 m_f6 m_sew m_l8 m_unmasked ((LX11_firsts_44 m_choices m_vl m_vtype m_vd m_vs1 m_vs2 m_unmasked zO (cnt (0 : Int32) m_vl) ((0 : Int32), (0 : Int32), zV)).2.2) m_vd ((LX11_firsts_44 m_choices m_vl m_vtype m_vd m_vs1 m_vs2 m_unmasked zO (cnt (0 : Int32) m_vl) ((0 : Int32), (0 : Int32), zV)).1) (pX11_firsts_152_S4 m_vs1 m_vs2 zO ((LX11_firsts_44 m_choices m_vl m_vtype m_vd m_vs1 m_vs2 m_unmasked zO (cnt (0 : Int32) m_vl) ((0 : Int32), (0 : Int32), zV)).1) ((LX11_firsts_44 m_choices m_vl m_vtype m_vd m_vs1 m_vs2 m_unmasked zO (cnt (0 : Int32) m_vl) ((0 : Int32), (0 : Int32), zV)).2.1)) (hok.2.2.2.2.2.2 c1 c2 c3 c4 c20 c21)) vX11_putBit q35_23 dX11_firsts_152 rfl rfl rfl rfl rfl rfl rfl rfl rfl rfl rfl rfl rfl rfl rfl ?_
      refine k_iload_n X dX11_firsts_155 rfl 1 rfl rfl ?_
      refine k_mid2 [(b_m, .inr (10, [.int m_thrown, .ref b_zX, .ref b_zV, .ref b_zO, .ref m_memory, .ref m_shut, .long m_choices, .int m_vl, .int m_vtype, .int m_vstart, .int m_vxrm, .int m_vxsat, .int m_done, .int m_illegal, .int m_traps, .int m_trapAddress, .int m_word, .int m_vd, .int m_vs1, .int m_vs2, .int m_f3, .int m_f6, .int m_sew, .int m_l8, .int m_unmasked])), (b_zX, .inl (kI, 32, .inl zX)), (b_zV, .inl (kI, 512, .inl (fX11_putBit__zV ((LX11_firsts_44 m_choices m_vl m_vtype m_vd m_vs1 m_vs2 m_unmasked zO (cnt (0 : Int32) m_vl) ((0 : Int32), (0 : Int32), zV)).2.2) m_vd ((LX11_firsts_44 m_choices m_vl m_vtype m_vd m_vs1 m_vs2 m_unmasked zO (cnt (0 : Int32) m_vl) ((0 : Int32), (0 : Int32), zV)).1) (pX11_firsts_152_S4 m_vs1 m_vs2 zO ((LX11_firsts_44 m_choices m_vl m_vtype m_vd m_vs1 m_vs2 m_unmasked zO (cnt (0 : Int32) m_vl) ((0 : Int32), (0 : Int32), zV)).1) ((LX11_firsts_44 m_choices m_vl m_vtype m_vd m_vs1 m_vs2 m_unmasked zO (cnt (0 : Int32) m_vl) ((0 : Int32), (0 : Int32), zV)).2.1))))), (b_zO, .inl (kI, 512, .inl zO))] [(0, .ref b_m), (1, .int ((LX11_firsts_44 m_choices m_vl m_vtype m_vd m_vs1 m_vs2 m_unmasked zO (cnt (0 : Int32) m_vl) ((0 : Int32), (0 : Int32), zV)).2.1)), (2, .int ((LX11_firsts_44 m_choices m_vl m_vtype m_vd m_vs1 m_vs2 m_unmasked zO (cnt (0 : Int32) m_vl) ((0 : Int32), (0 : Int32), zV)).1)), (3, .int (fX11_bit zO m_vs2 ((LX11_firsts_44 m_choices m_vl m_vtype m_vd m_vs1 m_vs2 m_unmasked zO (cnt (0 : Int32) m_vl) ((0 : Int32), (0 : Int32), zV)).1)))] [.int (pX11_firsts_168_S1 m_vs2 zO ((LX11_firsts_44 m_choices m_vl m_vtype m_vd m_vs1 m_vs2 m_unmasked zO (cnt (0 : Int32) m_vl) ((0 : Int32), (0 : Int32), zV)).1) ((LX11_firsts_44 m_choices m_vl m_vtype m_vd m_vs1 m_vs2 m_unmasked zO (cnt (0 : Int32) m_vl) ((0 : Int32), (0 : Int32), zV)).2.1))] 168 (fun hJ33 => ?_) ?_
      · skip
        refine k_if_ne (tgt := 163) X dX11_firsts_156 (by decide) rfl (fun c31 => ?_) (fun c31 => ?_)
        · skip
          refine k_iload_n X dX11_firsts_159 rfl 3 rfl rfl ?_
          refine k_if_eq (tgt := 167) X dX11_firsts_160 (by decide) rfl (fun c32 => ?_) (fun c32 => ?_)
          · skip
            refine k_iconst X dX11_firsts_167 kc_i_0 rfl ?_
            have e75 : (pX11_firsts_168_S1 m_vs2 zO ((LX11_firsts_44 m_choices m_vl m_vtype m_vd m_vs1 m_vs2 m_unmasked zO (cnt (0 : Int32) m_vl) ((0 : Int32), (0 : Int32), zV)).1) ((LX11_firsts_44 m_choices m_vl m_vtype m_vd m_vs1 m_vs2 m_unmasked zO (cnt (0 : Int32) m_vl) ((0 : Int32), (0 : Int32), zV)).2.1)) = (0 : Int32) := by rw [pX11_firsts_168_S1, if_pos c31, if_pos c32]
            rw [e75] at hJ33
            exact k_sub [0, 1, 2, 3] rfl hJ33
          refine k_iconst X dX11_firsts_163 kc_i_1 rfl ?_
          refine k_goto (tgt := 168) X dX11_firsts_164 (by decide) ?_
          have e76 : (pX11_firsts_168_S1 m_vs2 zO ((LX11_firsts_44 m_choices m_vl m_vtype m_vd m_vs1 m_vs2 m_unmasked zO (cnt (0 : Int32) m_vl) ((0 : Int32), (0 : Int32), zV)).1) ((LX11_firsts_44 m_choices m_vl m_vtype m_vd m_vs1 m_vs2 m_unmasked zO (cnt (0 : Int32) m_vl) ((0 : Int32), (0 : Int32), zV)).2.1)) = (1 : Int32) := by rw [pX11_firsts_168_S1, if_pos c31, if_neg c32]
          rw [e76] at hJ33
          exact k_sub [0, 1, 2, 3] rfl hJ33
        refine k_iconst X dX11_firsts_163 kc_i_1 rfl ?_
        refine k_goto (tgt := 168) X dX11_firsts_164 (by decide) ?_
        have e77 : (pX11_firsts_168_S1 m_vs2 zO ((LX11_firsts_44 m_choices m_vl m_vtype m_vd m_vs1 m_vs2 m_unmasked zO (cnt (0 : Int32) m_vl) ((0 : Int32), (0 : Int32), zV)).1) ((LX11_firsts_44 m_choices m_vl m_vtype m_vd m_vs1 m_vs2 m_unmasked zO (cnt (0 : Int32) m_vl) ((0 : Int32), (0 : Int32), zV)).2.1)) = (1 : Int32) := by rw [pX11_firsts_168_S1, if_neg c31]
        rw [e77] at hJ33
        exact k_sub [0, 1, 2, 3] rfl hJ33
      refine k_istore_n (lv' := [(1, .int (pX11_firsts_168_S1 m_vs2 zO ((LX11_firsts_44 m_choices m_vl m_vtype m_vd m_vs1 m_vs2 m_unmasked zO (cnt (0 : Int32) m_vl) ((0 : Int32), (0 : Int32), zV)).1) ((LX11_firsts_44 m_choices m_vl m_vtype m_vd m_vs1 m_vs2 m_unmasked zO (cnt (0 : Int32) m_vl) ((0 : Int32), (0 : Int32), zV)).2.1))), (0, .ref b_m), (2, .int ((LX11_firsts_44 m_choices m_vl m_vtype m_vd m_vs1 m_vs2 m_unmasked zO (cnt (0 : Int32) m_vl) ((0 : Int32), (0 : Int32), zV)).1)), (3, .int (fX11_bit zO m_vs2 ((LX11_firsts_44 m_choices m_vl m_vtype m_vd m_vs1 m_vs2 m_unmasked zO (cnt (0 : Int32) m_vl) ((0 : Int32), (0 : Int32), zV)).1)))]) X dX11_firsts_168 rfl rfl rfl rfl ?_
      have e78 : (pX11_firsts_169_L1 m_vs2 m_unmasked zO ((LX11_firsts_44 m_choices m_vl m_vtype m_vd m_vs1 m_vs2 m_unmasked zO (cnt (0 : Int32) m_vl) ((0 : Int32), (0 : Int32), zV)).1) ((LX11_firsts_44 m_choices m_vl m_vtype m_vd m_vs1 m_vs2 m_unmasked zO (cnt (0 : Int32) m_vl) ((0 : Int32), (0 : Int32), zV)).2.1)) = (pX11_firsts_168_S1 m_vs2 zO ((LX11_firsts_44 m_choices m_vl m_vtype m_vd m_vs1 m_vs2 m_unmasked zO (cnt (0 : Int32) m_vl) ((0 : Int32), (0 : Int32), zV)).1) ((LX11_firsts_44 m_choices m_vl m_vtype m_vd m_vs1 m_vs2 m_unmasked zO (cnt (0 : Int32) m_vl) ((0 : Int32), (0 : Int32), zV)).2.1)) := by rw [pX11_firsts_169_L1, if_neg c21]
      rw [e78] at hJ34
      have e79 : (pX11_firsts_169_zV m_choices m_vtype m_vd m_vs1 m_vs2 m_unmasked zO ((LX11_firsts_44 m_choices m_vl m_vtype m_vd m_vs1 m_vs2 m_unmasked zO (cnt (0 : Int32) m_vl) ((0 : Int32), (0 : Int32), zV)).1) ((LX11_firsts_44 m_choices m_vl m_vtype m_vd m_vs1 m_vs2 m_unmasked zO (cnt (0 : Int32) m_vl) ((0 : Int32), (0 : Int32), zV)).2.1) ((LX11_firsts_44 m_choices m_vl m_vtype m_vd m_vs1 m_vs2 m_unmasked zO (cnt (0 : Int32) m_vl) ((0 : Int32), (0 : Int32), zV)).2.2)) = (fX11_putBit__zV ((LX11_firsts_44 m_choices m_vl m_vtype m_vd m_vs1 m_vs2 m_unmasked zO (cnt (0 : Int32) m_vl) ((0 : Int32), (0 : Int32), zV)).2.2) m_vd ((LX11_firsts_44 m_choices m_vl m_vtype m_vd m_vs1 m_vs2 m_unmasked zO (cnt (0 : Int32) m_vl) ((0 : Int32), (0 : Int32), zV)).1) (pX11_firsts_152_S4 m_vs1 m_vs2 zO ((LX11_firsts_44 m_choices m_vl m_vtype m_vd m_vs1 m_vs2 m_unmasked zO (cnt (0 : Int32) m_vl) ((0 : Int32), (0 : Int32), zV)).1) ((LX11_firsts_44 m_choices m_vl m_vtype m_vd m_vs1 m_vs2 m_unmasked zO (cnt (0 : Int32) m_vl) ((0 : Int32), (0 : Int32), zV)).2.1))) := by rw [pX11_firsts_169_zV, if_neg c21]
      rw [e79] at hJ34
      exact k_sub [1, 0, 2] rfl hJ34
    refine k_iinc (lv' := [(2, .int ((LX11_firsts_44 m_choices m_vl m_vtype m_vd m_vs1 m_vs2 m_unmasked zO (cnt (0 : Int32) m_vl) ((0 : Int32), (0 : Int32), zV)).1 + (1 : Int32))), (0, .ref b_m), (1, .int (pX11_firsts_169_L1 m_vs2 m_unmasked zO ((LX11_firsts_44 m_choices m_vl m_vtype m_vd m_vs1 m_vs2 m_unmasked zO (cnt (0 : Int32) m_vl) ((0 : Int32), (0 : Int32), zV)).1) ((LX11_firsts_44 m_choices m_vl m_vtype m_vd m_vs1 m_vs2 m_unmasked zO (cnt (0 : Int32) m_vl) ((0 : Int32), (0 : Int32), zV)).2.1)))]) X dX11_firsts_169 2 rfl kc_i_1 rfl rfl rfl ?_
    refine k_goto (tgt := 44) X dX11_firsts_172 (by decide) ?_
    exact absurd (show tX11_firsts_44 m_vl ((LX11_firsts_44 m_choices m_vl m_vtype m_vd m_vs1 m_vs2 m_unmasked zO (cnt (0 : Int32) m_vl) ((0 : Int32), (0 : Int32), zV)).1) ((LX11_firsts_44 m_choices m_vl m_vtype m_vd m_vs1 m_vs2 m_unmasked zO (cnt (0 : Int32) m_vl) ((0 : Int32), (0 : Int32), zV)).2.1) ((LX11_firsts_44 m_choices m_vl m_vtype m_vd m_vs1 m_vs2 m_unmasked zO (cnt (0 : Int32) m_vl) ((0 : Int32), (0 : Int32), zV)).2.2) from by rw [tX11_firsts_44, if_neg c20]; exact True.intro) (hok.2.1 c1 c2 c3 c4)
  refine k_iconst X dX11_firsts_29 kc_i_0 rfl ?_
  have e80 : (fX11_firsts m_vstart m_vd m_vs2 m_unmasked) = (0 : Int32) := by rw [fX11_firsts, if_neg c1]
  have e81 : (fX11_firsts__zV m_choices m_vl m_vtype m_vstart m_vd m_vs1 m_vs2 m_unmasked zV zO) = zV := by rw [fX11_firsts__zV, if_neg c1]
  exact k_zret9 X hRt hLk rfl e80.symm (by rw [e81]) dX11_firsts_30
theorem vX11_firsts : kVi yX11_firsts cX11_firsts 4 (some .boolean) 0 := ⟨q38_6, q1_5, q38_4, q38_5, by decide, by decide +kernel⟩
noncomputable def pX11_counts_126_S2 (m_vs2 : Int32) (zO : Nat → Int32) (w_L2 : Int32) : Int32 := (if (fX11_bit zO m_vs2 w_L2) = (0 : Int32) then (0 : Int32) else (1 : Int32))
theorem zpX11_counts_126_S2 (m_vs2 : Int32) (zO : Nat → Int32) (w_L2 : Int32) : narrow .boolean (.int (pX11_counts_126_S2 m_vs2 zO w_L2)) = .int (pX11_counts_126_S2 m_vs2 zO w_L2) := by unfold pX11_counts_126_S2; exact (kzi rfl rfl)
noncomputable def pX11_counts_128_L1 (m_vs2 : Int32) (m_unmasked : Int32) (zO : Nat → Int32) (w_L2 : Int32) (w_L1 : Int32) : Int32 := (if (fX11_isActive m_unmasked zO w_L2) = (0 : Int32) then w_L1 else (w_L1 + (pX11_counts_126_S2 m_vs2 zO w_L2)))
noncomputable def pX11_counts_128_zV (m_choices : Int64) (m_vtype : Int32) (m_vd : Int32) (m_sew : Int32) (m_unmasked : Int32) (zO : Nat → Int32) (w_L2 : Int32) (w_L1 : Int32) (w_zV : Nat → Int32) : Nat → Int32 := (if (fX11_isActive m_unmasked zO w_L2) = (0 : Int32) then (fX11_masked__zV m_choices m_vtype w_zV m_vd m_sew w_L2) else (fX11_put__zV w_zV m_vd m_sew w_L2 (Int32.toInt64 w_L1)))
noncomputable def tX11_counts_61 (m_vl : Int32) (w_L2 : Int32) (w_L1 : Int32) (w_zV : Nat → Int32) : Prop := (if m_vl ≤ w_L2 then False else True)
noncomputable def bX11_counts_61_L2 (m_vl : Int32) (w_L2 : Int32) (w_L1 : Int32) (w_zV : Nat → Int32) : Int32 := (if m_vl ≤ w_L2 then w_L2 else (w_L2 + (1 : Int32)))
noncomputable def bX11_counts_61_L1 (m_vl : Int32) (m_vs2 : Int32) (m_unmasked : Int32) (zO : Nat → Int32) (w_L2 : Int32) (w_L1 : Int32) (w_zV : Nat → Int32) : Int32 := (if m_vl ≤ w_L2 then w_L1 else (pX11_counts_128_L1 m_vs2 m_unmasked zO w_L2 w_L1))
noncomputable def bX11_counts_61_zV (m_choices : Int64) (m_vl : Int32) (m_vtype : Int32) (m_vd : Int32) (m_sew : Int32) (m_unmasked : Int32) (zO : Nat → Int32) (w_L2 : Int32) (w_L1 : Int32) (w_zV : Nat → Int32) : Nat → Int32 := (if m_vl ≤ w_L2 then w_zV else (pX11_counts_128_zV m_choices m_vtype m_vd m_sew m_unmasked zO w_L2 w_L1 w_zV))
noncomputable def LX11_counts_61 (m_choices : Int64) (m_vl : Int32) (m_vtype : Int32) (m_vd : Int32) (m_vs2 : Int32) (m_sew : Int32) (m_unmasked : Int32) (zO : Nat → Int32) : Nat → Int32 × Int32 × (Nat → Int32) → Int32 × Int32 × (Nat → Int32)
  | 0, s => s
  | n + 1, s => LX11_counts_61 m_choices m_vl m_vtype m_vd m_vs2 m_sew m_unmasked zO n ((bX11_counts_61_L2 m_vl s.1 s.2.1 s.2.2), (bX11_counts_61_L1 m_vl m_vs2 m_unmasked zO s.1 s.2.1 s.2.2), (bX11_counts_61_zV m_choices m_vl m_vtype m_vd m_sew m_unmasked zO s.1 s.2.1 s.2.2))
noncomputable def oX11_counts_61 (m_choices : Int64) (m_vl : Int32) (m_vtype : Int32) (m_vd : Int32) (m_vs2 : Int32) (m_sew : Int32) (m_unmasked : Int32) (zO : Nat → Int32) (w_L2 : Int32) (w_L1 : Int32) (w_zV : Nat → Int32) : Prop := (¬ (m_vl ≤ w_L2) → okX11_isActive m_unmasked w_L2) ∧ (¬ (m_vl ≤ w_L2) → ((fX11_isActive m_unmasked zO w_L2) = (0 : Int32)) → okX11_masked m_choices m_vtype w_zV m_vd m_sew w_L2) ∧ (¬ (m_vl ≤ w_L2) → ¬ ((fX11_isActive m_unmasked zO w_L2) = (0 : Int32)) → okX11_put w_zV m_vd m_sew w_L2 (Int32.toInt64 w_L1)) ∧ (¬ (m_vl ≤ w_L2) → ¬ ((fX11_isActive m_unmasked zO w_L2) = (0 : Int32)) → okX11_bit m_vs2 w_L2)
noncomputable def KX11_counts_61 (m_choices : Int64) (m_vl : Int32) (m_vtype : Int32) (m_vd : Int32) (m_vs2 : Int32) (m_sew : Int32) (m_unmasked : Int32) (zO : Nat → Int32) : Nat → Int32 × Int32 × (Nat → Int32) → Prop
  | 0, _ => True
  | n + 1, s => (tX11_counts_61 m_vl s.1 s.2.1 s.2.2 ∧ oX11_counts_61 m_choices m_vl m_vtype m_vd m_vs2 m_sew m_unmasked zO s.1 s.2.1 s.2.2) ∧ KX11_counts_61 m_choices m_vl m_vtype m_vd m_vs2 m_sew m_unmasked zO n ((bX11_counts_61_L2 m_vl s.1 s.2.1 s.2.2), (bX11_counts_61_L1 m_vl m_vs2 m_unmasked zO s.1 s.2.1 s.2.2), (bX11_counts_61_zV m_choices m_vl m_vtype m_vd m_sew m_unmasked zO s.1 s.2.1 s.2.2))
theorem itX11_counts_61 (m_choices : Int64) (m_vl : Int32) (m_vtype : Int32) (m_vd : Int32) (m_vs2 : Int32) (m_sew : Int32) (m_unmasked : Int32) (zO : Nat → Int32) {b9 : Nat} (h9 : m_vl = nI b9) (hb9 : b9 < 2147483648) : ∀ (n a : Nat) (w_L1 : Int32) (w_zV : Nat → Int32), a + n ≤ b9 → LX11_counts_61 m_choices m_vl m_vtype m_vd m_vs2 m_sew m_unmasked zO n (nI a, w_L1, w_zV) = (nI (a + n), itr (fun k s => ((pX11_counts_128_L1 m_vs2 m_unmasked zO (nI k) s.1), (pX11_counts_128_zV m_choices m_vtype m_vd m_sew m_unmasked zO (nI k) s.1 s.2))) n a (w_L1, w_zV))
  | 0, a, w_L1, w_zV, _ => rfl
  | n + 1, a, w_L1, w_zV, h => by
    have hc : ¬ (m_vl ≤ nI a) := by rw [h9]; exact nI_ge (by omega) hb9
    have e0 : bX11_counts_61_L2 m_vl (nI a) w_L1 w_zV = nI (a + 1) := by rw [bX11_counts_61_L2, if_neg hc, nI_1]
    have e1 : bX11_counts_61_L1 m_vl m_vs2 m_unmasked zO (nI a) w_L1 w_zV = (pX11_counts_128_L1 m_vs2 m_unmasked zO (nI a) w_L1) := by rw [bX11_counts_61_L1, if_neg hc]
    have e2 : bX11_counts_61_zV m_choices m_vl m_vtype m_vd m_sew m_unmasked zO (nI a) w_L1 w_zV = (pX11_counts_128_zV m_choices m_vtype m_vd m_sew m_unmasked zO (nI a) w_L1 w_zV) := by rw [bX11_counts_61_zV, if_neg hc]
    show LX11_counts_61 m_choices m_vl m_vtype m_vd m_vs2 m_sew m_unmasked zO n (bX11_counts_61_L2 m_vl (nI a) w_L1 w_zV, bX11_counts_61_L1 m_vl m_vs2 m_unmasked zO (nI a) w_L1 w_zV, bX11_counts_61_zV m_choices m_vl m_vtype m_vd m_sew m_unmasked zO (nI a) w_L1 w_zV) = _
    rw [e0, e1, e2, itX11_counts_61 m_choices m_vl m_vtype m_vd m_vs2 m_sew m_unmasked zO h9 hb9 n (a + 1) _ _ (by omega), show a + (n + 1) = a + 1 + n by omega]; rfl
theorem ktX11_counts_61 (m_choices : Int64) (m_vl : Int32) (m_vtype : Int32) (m_vd : Int32) (m_vs2 : Int32) (m_sew : Int32) (m_unmasked : Int32) (zO : Nat → Int32) {b9 : Nat} (h9 : m_vl = nI b9) (hb9 : b9 < 2147483648) (I : Nat → Int32 × (Nat → Int32) → Prop) (hI : ∀ (a : Nat) (w_L1 : Int32) (w_zV : Nat → Int32), I a (w_L1, w_zV) → a < b9 → oX11_counts_61 m_choices m_vl m_vtype m_vd m_vs2 m_sew m_unmasked zO (nI a) w_L1 w_zV ∧ I (a + 1) ((pX11_counts_128_L1 m_vs2 m_unmasked zO (nI a) w_L1), (pX11_counts_128_zV m_choices m_vtype m_vd m_sew m_unmasked zO (nI a) w_L1 w_zV))) : ∀ (n a : Nat) (w_L1 : Int32) (w_zV : Nat → Int32), a + n ≤ b9 → I a (w_L1, w_zV) → KX11_counts_61 m_choices m_vl m_vtype m_vd m_vs2 m_sew m_unmasked zO n (nI a, w_L1, w_zV)
  | 0, a, w_L1, w_zV, _, _ => True.intro
  | n + 1, a, w_L1, w_zV, h, hi => by
    have hc : ¬ (m_vl ≤ nI a) := by rw [h9]; exact nI_ge (by omega) hb9
    have e0 : bX11_counts_61_L2 m_vl (nI a) w_L1 w_zV = nI (a + 1) := by rw [bX11_counts_61_L2, if_neg hc, nI_1]
    have e1 : bX11_counts_61_L1 m_vl m_vs2 m_unmasked zO (nI a) w_L1 w_zV = (pX11_counts_128_L1 m_vs2 m_unmasked zO (nI a) w_L1) := by rw [bX11_counts_61_L1, if_neg hc]
    have e2 : bX11_counts_61_zV m_choices m_vl m_vtype m_vd m_sew m_unmasked zO (nI a) w_L1 w_zV = (pX11_counts_128_zV m_choices m_vtype m_vd m_sew m_unmasked zO (nI a) w_L1 w_zV) := by rw [bX11_counts_61_zV, if_neg hc]
    obtain ⟨h1, h2⟩ := hI a w_L1 w_zV hi (by omega)
    show (tX11_counts_61 m_vl (nI a) w_L1 w_zV ∧ oX11_counts_61 m_choices m_vl m_vtype m_vd m_vs2 m_sew m_unmasked zO (nI a) w_L1 w_zV) ∧ KX11_counts_61 m_choices m_vl m_vtype m_vd m_vs2 m_sew m_unmasked zO n (bX11_counts_61_L2 m_vl (nI a) w_L1 w_zV, bX11_counts_61_L1 m_vl m_vs2 m_unmasked zO (nI a) w_L1 w_zV, bX11_counts_61_zV m_choices m_vl m_vtype m_vd m_sew m_unmasked zO (nI a) w_L1 w_zV)
    refine ⟨⟨by rw [tX11_counts_61, if_neg hc]; exact True.intro, h1⟩, ?_⟩
    rw [e0, e1, e2]; exact ktX11_counts_61 m_choices m_vl m_vtype m_vd m_vs2 m_sew m_unmasked zO h9 hb9 I hI n (a + 1) _ _ (by omega) h2
theorem ntX11_counts_61 (m_choices : Int64) (m_vl : Int32) (m_vtype : Int32) (m_vd : Int32) (m_vs2 : Int32) (m_sew : Int32) (m_unmasked : Int32) (zO : Nat → Int32) {b9 : Nat} (h9 : m_vl = nI b9) (hb9 : b9 < 2147483648) (w_L1 : Int32) (w_zV : Nat → Int32) : ¬ tX11_counts_61 m_vl (nI b9) w_L1 w_zV := by rw [tX11_counts_61, if_pos (by rw [h9]; exact Int32.le_refl _)]; exact id
noncomputable def fX11_counts (m_vstart : Int32) (m_vd : Int32) (m_vs2 : Int32) (m_sew : Int32) (m_l8 : Int32) (m_unmasked : Int32) : Int32 := (if m_vstart = (0 : Int32) then (if (fX11_isGroup m_sew m_l8 m_vd m_sew) = (0 : Int32) then (0 : Int32) else (if (fX11_mayMask m_unmasked m_vd) = (0 : Int32) then (0 : Int32) else (if (fX11_meets m_vd m_l8 m_vs2 (8 : Int32)) = (0 : Int32) then (1 : Int32) else (0 : Int32)))) else (0 : Int32))
noncomputable def fX11_counts__zV (m_choices : Int64) (m_vl : Int32) (m_vtype : Int32) (m_vstart : Int32) (m_vd : Int32) (m_vs2 : Int32) (m_sew : Int32) (m_l8 : Int32) (m_unmasked : Int32) (zV : Nat → Int32) (zO : Nat → Int32) : Nat → Int32 := (if m_vstart = (0 : Int32) then (if (fX11_isGroup m_sew m_l8 m_vd m_sew) = (0 : Int32) then zV else (if (fX11_mayMask m_unmasked m_vd) = (0 : Int32) then zV else (if (fX11_meets m_vd m_l8 m_vs2 (8 : Int32)) = (0 : Int32) then (if (fX11_goes m_vl m_vstart) = (0 : Int32) then zV else (fX11_tail__zV m_choices m_vtype ((LX11_counts_61 m_choices m_vl m_vtype m_vd m_vs2 m_sew m_unmasked zO (cnt (0 : Int32) m_vl) ((0 : Int32), (0 : Int32), zV)).2.2) m_vd m_sew m_l8 m_vl)) else zV))) else zV)
noncomputable def okX11_counts (m_choices : Int64) (m_vl : Int32) (m_vtype : Int32) (m_vstart : Int32) (m_vd : Int32) (m_vs2 : Int32) (m_sew : Int32) (m_l8 : Int32) (m_unmasked : Int32) (zV : Nat → Int32) (zO : Nat → Int32) : Prop := ((m_vstart = (0 : Int32)) → okX11_isGroup m_sew m_l8 m_sew) ∧ ((m_vstart = (0 : Int32)) → ¬ ((fX11_isGroup m_sew m_l8 m_vd m_sew) = (0 : Int32)) → ¬ ((fX11_mayMask m_unmasked m_vd) = (0 : Int32)) → ((fX11_meets m_vd m_l8 m_vs2 (8 : Int32)) = (0 : Int32)) → ¬ ((fX11_goes m_vl m_vstart) = (0 : Int32)) → KX11_counts_61 m_choices m_vl m_vtype m_vd m_vs2 m_sew m_unmasked zO (cnt (0 : Int32) m_vl) ((0 : Int32), (0 : Int32), zV)) ∧ ((m_vstart = (0 : Int32)) → ¬ ((fX11_isGroup m_sew m_l8 m_vd m_sew) = (0 : Int32)) → ¬ ((fX11_mayMask m_unmasked m_vd) = (0 : Int32)) → ((fX11_meets m_vd m_l8 m_vs2 (8 : Int32)) = (0 : Int32)) → ¬ ((fX11_goes m_vl m_vstart) = (0 : Int32)) → ¬ (tX11_counts_61 m_vl ((LX11_counts_61 m_choices m_vl m_vtype m_vd m_vs2 m_sew m_unmasked zO (cnt (0 : Int32) m_vl) ((0 : Int32), (0 : Int32), zV)).1) ((LX11_counts_61 m_choices m_vl m_vtype m_vd m_vs2 m_sew m_unmasked zO (cnt (0 : Int32) m_vl) ((0 : Int32), (0 : Int32), zV)).2.1) ((LX11_counts_61 m_choices m_vl m_vtype m_vd m_vs2 m_sew m_unmasked zO (cnt (0 : Int32) m_vl) ((0 : Int32), (0 : Int32), zV)).2.2))) ∧ ((m_vstart = (0 : Int32)) → ¬ ((fX11_isGroup m_sew m_l8 m_vd m_sew) = (0 : Int32)) → ¬ ((fX11_mayMask m_unmasked m_vd) = (0 : Int32)) → ((fX11_meets m_vd m_l8 m_vs2 (8 : Int32)) = (0 : Int32)) → ¬ ((fX11_goes m_vl m_vstart) = (0 : Int32)) → (m_vl ≤ (LX11_counts_61 m_choices m_vl m_vtype m_vd m_vs2 m_sew m_unmasked zO (cnt (0 : Int32) m_vl) ((0 : Int32), (0 : Int32), zV)).1) → okX11_tail m_choices m_vtype ((LX11_counts_61 m_choices m_vl m_vtype m_vd m_vs2 m_sew m_unmasked zO (cnt (0 : Int32) m_vl) ((0 : Int32), (0 : Int32), zV)).2.2) m_vd m_sew m_l8 m_vl) ∧ ((m_vstart = (0 : Int32)) → ¬ ((fX11_isGroup m_sew m_l8 m_vd m_sew) = (0 : Int32)) → ¬ ((fX11_mayMask m_unmasked m_vd) = (0 : Int32)) → ((fX11_meets m_vd m_l8 m_vs2 (8 : Int32)) = (0 : Int32)) → ¬ ((fX11_goes m_vl m_vstart) = (0 : Int32)) → ¬ (m_vl ≤ (LX11_counts_61 m_choices m_vl m_vtype m_vd m_vs2 m_sew m_unmasked zO (cnt (0 : Int32) m_vl) ((0 : Int32), (0 : Int32), zV)).1) → okX11_isActive m_unmasked ((LX11_counts_61 m_choices m_vl m_vtype m_vd m_vs2 m_sew m_unmasked zO (cnt (0 : Int32) m_vl) ((0 : Int32), (0 : Int32), zV)).1)) ∧ ((m_vstart = (0 : Int32)) → ¬ ((fX11_isGroup m_sew m_l8 m_vd m_sew) = (0 : Int32)) → ¬ ((fX11_mayMask m_unmasked m_vd) = (0 : Int32)) → ((fX11_meets m_vd m_l8 m_vs2 (8 : Int32)) = (0 : Int32)) → ¬ ((fX11_goes m_vl m_vstart) = (0 : Int32)) → ¬ (m_vl ≤ (LX11_counts_61 m_choices m_vl m_vtype m_vd m_vs2 m_sew m_unmasked zO (cnt (0 : Int32) m_vl) ((0 : Int32), (0 : Int32), zV)).1) → ((fX11_isActive m_unmasked zO ((LX11_counts_61 m_choices m_vl m_vtype m_vd m_vs2 m_sew m_unmasked zO (cnt (0 : Int32) m_vl) ((0 : Int32), (0 : Int32), zV)).1)) = (0 : Int32)) → okX11_masked m_choices m_vtype ((LX11_counts_61 m_choices m_vl m_vtype m_vd m_vs2 m_sew m_unmasked zO (cnt (0 : Int32) m_vl) ((0 : Int32), (0 : Int32), zV)).2.2) m_vd m_sew ((LX11_counts_61 m_choices m_vl m_vtype m_vd m_vs2 m_sew m_unmasked zO (cnt (0 : Int32) m_vl) ((0 : Int32), (0 : Int32), zV)).1)) ∧ ((m_vstart = (0 : Int32)) → ¬ ((fX11_isGroup m_sew m_l8 m_vd m_sew) = (0 : Int32)) → ¬ ((fX11_mayMask m_unmasked m_vd) = (0 : Int32)) → ((fX11_meets m_vd m_l8 m_vs2 (8 : Int32)) = (0 : Int32)) → ¬ ((fX11_goes m_vl m_vstart) = (0 : Int32)) → ¬ (m_vl ≤ (LX11_counts_61 m_choices m_vl m_vtype m_vd m_vs2 m_sew m_unmasked zO (cnt (0 : Int32) m_vl) ((0 : Int32), (0 : Int32), zV)).1) → ¬ ((fX11_isActive m_unmasked zO ((LX11_counts_61 m_choices m_vl m_vtype m_vd m_vs2 m_sew m_unmasked zO (cnt (0 : Int32) m_vl) ((0 : Int32), (0 : Int32), zV)).1)) = (0 : Int32)) → okX11_put ((LX11_counts_61 m_choices m_vl m_vtype m_vd m_vs2 m_sew m_unmasked zO (cnt (0 : Int32) m_vl) ((0 : Int32), (0 : Int32), zV)).2.2) m_vd m_sew ((LX11_counts_61 m_choices m_vl m_vtype m_vd m_vs2 m_sew m_unmasked zO (cnt (0 : Int32) m_vl) ((0 : Int32), (0 : Int32), zV)).1) (Int32.toInt64 ((LX11_counts_61 m_choices m_vl m_vtype m_vd m_vs2 m_sew m_unmasked zO (cnt (0 : Int32) m_vl) ((0 : Int32), (0 : Int32), zV)).2.1))) ∧ ((m_vstart = (0 : Int32)) → ¬ ((fX11_isGroup m_sew m_l8 m_vd m_sew) = (0 : Int32)) → ¬ ((fX11_mayMask m_unmasked m_vd) = (0 : Int32)) → ((fX11_meets m_vd m_l8 m_vs2 (8 : Int32)) = (0 : Int32)) → ¬ ((fX11_goes m_vl m_vstart) = (0 : Int32)) → ¬ (m_vl ≤ (LX11_counts_61 m_choices m_vl m_vtype m_vd m_vs2 m_sew m_unmasked zO (cnt (0 : Int32) m_vl) ((0 : Int32), (0 : Int32), zV)).1) → ¬ ((fX11_isActive m_unmasked zO ((LX11_counts_61 m_choices m_vl m_vtype m_vd m_vs2 m_sew m_unmasked zO (cnt (0 : Int32) m_vl) ((0 : Int32), (0 : Int32), zV)).1)) = (0 : Int32)) → okX11_bit m_vs2 ((LX11_counts_61 m_choices m_vl m_vtype m_vd m_vs2 m_sew m_unmasked zO (cnt (0 : Int32) m_vl) ((0 : Int32), (0 : Int32), zV)).1))
theorem zX11_counts (m_vstart : Int32) (m_vd : Int32) (m_vs2 : Int32) (m_sew : Int32) (m_l8 : Int32) (m_unmasked : Int32) : narrow .boolean (.int (fX11_counts m_vstart m_vd m_vs2 m_sew m_l8 m_unmasked)) = .int (fX11_counts m_vstart m_vd m_vs2 m_sew m_l8 m_unmasked) := by unfold fX11_counts; exact (kzi (kzi rfl (kzi rfl (kzi rfl rfl))) rfl)
set_option maxRecDepth 100000 in
set_option maxHeartbeats 4000000 in
theorem kX11_counts (l : Launch) (D : va_G) (kI kZ : ClassId) (b_m : Nat) (b_zX : Nat) (b_zV : Nat) (b_zO : Nat) (m_thrown : Int32) (m_memory : Nat) (m_shut : Nat) (m_choices : Int64) (m_vl : Int32) (m_vtype : Int32) (m_vstart : Int32) (m_vxrm : Int32) (m_vxsat : Int32) (m_done : Int32) (m_illegal : Int32) (m_traps : Int32) (m_trapAddress : Int32) (m_word : Int32) (m_vd : Int32) (m_vs1 : Int32) (m_vs2 : Int32) (m_f3 : Int32) (m_f6 : Int32) (m_sew : Int32) (m_l8 : Int32) (m_unmasked : Int32) (zX : Nat → Int32) (zV : Nat → Int32) (zO : Nat → Int32) (hok : okX11_counts m_choices m_vl m_vtype m_vstart m_vd m_vs2 m_sew m_l8 m_unmasked zV zO) : kM l yX11_counts cX11_counts 3 (some .boolean) 4 63 0 0 D [(kI, .int), (kZ, .boolean)] [.ref b_m] [(b_m, .inr (10, [.int m_thrown, .ref b_zX, .ref b_zV, .ref b_zO, .ref m_memory, .ref m_shut, .long m_choices, .int m_vl, .int m_vtype, .int m_vstart, .int m_vxrm, .int m_vxsat, .int m_done, .int m_illegal, .int m_traps, .int m_trapAddress, .int m_word, .int m_vd, .int m_vs1, .int m_vs2, .int m_f3, .int m_f6, .int m_sew, .int m_l8, .int m_unmasked])), (b_zX, .inl (kI, 32, .inl zX)), (b_zV, .inl (kI, 512, .inl zV)), (b_zO, .inl (kI, 512, .inl zO))] (some (.int (fX11_counts m_vstart m_vd m_vs2 m_sew m_l8 m_unmasked))) [(b_m, .inr (10, [.int m_thrown, .ref b_zX, .ref b_zV, .ref b_zO, .ref m_memory, .ref m_shut, .long m_choices, .int m_vl, .int m_vtype, .int m_vstart, .int m_vxrm, .int m_vxsat, .int m_done, .int m_illegal, .int m_traps, .int m_trapAddress, .int m_word, .int m_vd, .int m_vs1, .int m_vs2, .int m_f3, .int m_f6, .int m_sew, .int m_l8, .int m_unmasked])), (b_zX, .inl (kI, 32, .inl zX)), (b_zV, .inl (kI, 512, .inl (fX11_counts__zV m_choices m_vl m_vtype m_vstart m_vd m_vs2 m_sew m_l8 m_unmasked zV zO))), (b_zO, .inl (kI, 512, .inl zO))] := by
  refine kM.of (by decide) rfl ?_
  intro p e R s m args below meth c A X _ _ hRt hLk
  refine k_sub [0] (lv' := [(0, .ref b_m)]) rfl ?_
  unfold okX11_counts at hok
  refine k_aload_n X dX11_counts_0 rfl 0 rfl rfl ?_
  refine k_get X i_wsX110 0 9 q27_14 rfl rfl rfl rfl rfl dX11_counts_1 rfl ?_
  refine k_if_ne (tgt := 46) X dX11_counts_4 (by decide) rfl (fun c1 => ?_) (fun c1 => ?_)
  · skip
    refine k_aload_n X dX11_counts_7 rfl 0 rfl rfl ?_
    refine k_aload_n X dX11_counts_8 rfl 0 rfl rfl ?_
    refine k_get X i_wsX110 0 17 q27_3 rfl rfl rfl rfl rfl dX11_counts_9 rfl ?_
    refine k_aload_n X dX11_counts_12 rfl 0 rfl rfl ?_
    refine k_get X i_wsX110 0 22 q27_9 rfl rfl rfl rfl rfl dX11_counts_13 rfl ?_
    refine k_cV1 (st := []) (ws' := [(b_m, .inr (10, [.int m_thrown, .ref b_zX, .ref b_zV, .ref b_zO, .ref m_memory, .ref m_shut, .long m_choices, .int m_vl, .int m_vtype, .int m_vstart, .int m_vxrm, .int m_vxsat, .int m_done, .int m_illegal, .int m_traps, .int m_trapAddress, .int m_word, .int m_vd, .int m_vs1, .int m_vs2, .int m_f3, .int m_f6, .int m_sew, .int m_l8, .int m_unmasked])), (b_zX, .inl (kI, 32, .inl zX)), (b_zV, .inl (kI, 512, .inl zV)), (b_zO, .inl (kI, 512, .inl zO))]) (wr := [(b_zX, .inl (kI, 32, .inl zX)), (b_zV, .inl (kI, 512, .inl zV)), (b_zO, .inl (kI, 512, .inl zO))]) (ci := 10) (q9 := 0) X [.int m_vd, .int m_sew] 0 [0] [1, 2, 3] [3, 0, 1, 2] (kX11_isGroup l D kI kZ b_m m_thrown b_zX b_zV b_zO m_memory m_shut m_choices m_vl m_vtype m_vstart m_vxrm m_vxsat m_done m_illegal m_traps m_trapAddress m_word m_vd m_vs1 m_vs2 m_f3 m_f6 m_sew m_l8 m_unmasked m_vd m_sew (hok.1 c1)) vX11_isGroup q30_1 dX11_counts_16 rfl rfl rfl rfl rfl rfl rfl rfl rfl rfl rfl rfl rfl rfl rfl ?_
    refine k_if_eq (tgt := 46) X dX11_counts_19 (by decide) rfl (fun c2 => ?_) (fun c2 => ?_)
    · skip
      refine k_iconst X dX11_counts_46 kc_i_0 rfl ?_
      have e16 : (fX11_counts m_vstart m_vd m_vs2 m_sew m_l8 m_unmasked) = (0 : Int32) := by rw [fX11_counts, if_pos c1, if_pos c2]
      have e17 : (fX11_counts__zV m_choices m_vl m_vtype m_vstart m_vd m_vs2 m_sew m_l8 m_unmasked zV zO) = zV := by rw [fX11_counts__zV, if_pos c1, if_pos c2]
      exact k_zret9 X hRt hLk rfl e16.symm (by rw [e17]) dX11_counts_47
    refine k_aload_n X dX11_counts_22 rfl 0 rfl rfl ?_
    refine k_aload_n X dX11_counts_23 rfl 0 rfl rfl ?_
    refine k_get X i_wsX110 0 17 q27_3 rfl rfl rfl rfl rfl dX11_counts_24 rfl ?_
    refine k_cV1 (st := []) (ws' := [(b_m, .inr (10, [.int m_thrown, .ref b_zX, .ref b_zV, .ref b_zO, .ref m_memory, .ref m_shut, .long m_choices, .int m_vl, .int m_vtype, .int m_vstart, .int m_vxrm, .int m_vxsat, .int m_done, .int m_illegal, .int m_traps, .int m_trapAddress, .int m_word, .int m_vd, .int m_vs1, .int m_vs2, .int m_f3, .int m_f6, .int m_sew, .int m_l8, .int m_unmasked])), (b_zX, .inl (kI, 32, .inl zX)), (b_zV, .inl (kI, 512, .inl zV)), (b_zO, .inl (kI, 512, .inl zO))]) (wr := [(b_zX, .inl (kI, 32, .inl zX)), (b_zV, .inl (kI, 512, .inl zV)), (b_zO, .inl (kI, 512, .inl zO))]) (ci := 10) (q9 := 0) X [.int m_vd] 0 [0] [1, 2, 3] [3, 0, 1, 2] (kX11_mayMask l D kI kZ b_m m_thrown b_zX b_zV b_zO m_memory m_shut m_choices m_vl m_vtype m_vstart m_vxrm m_vxsat m_done m_illegal m_traps m_trapAddress m_word m_vd m_vs1 m_vs2 m_f3 m_f6 m_sew m_l8 m_unmasked m_vd) vX11_mayMask q30_16 dX11_counts_27 rfl rfl rfl rfl rfl rfl rfl rfl rfl rfl rfl rfl rfl rfl rfl ?_
    refine k_if_eq (tgt := 46) X dX11_counts_30 (by decide) rfl (fun c3 => ?_) (fun c3 => ?_)
    · skip
      refine k_iconst X dX11_counts_46 kc_i_0 rfl ?_
      have e18 : (fX11_counts m_vstart m_vd m_vs2 m_sew m_l8 m_unmasked) = (0 : Int32) := by rw [fX11_counts, if_pos c1, if_neg c2, if_pos c3]
      have e19 : (fX11_counts__zV m_choices m_vl m_vtype m_vstart m_vd m_vs2 m_sew m_l8 m_unmasked zV zO) = zV := by rw [fX11_counts__zV, if_pos c1, if_neg c2, if_pos c3]
      exact k_zret9 X hRt hLk rfl e18.symm (by rw [e19]) dX11_counts_47
    refine k_aload_n X dX11_counts_33 rfl 0 rfl rfl ?_
    refine k_aload_n X dX11_counts_34 rfl 0 rfl rfl ?_
    refine k_get X i_wsX110 0 19 q27_6 rfl rfl rfl rfl rfl dX11_counts_35 rfl ?_
    refine k_bipush X dX11_counts_38 kc_b_8 rfl ?_
    refine k_cV1 (st := []) (ws' := [(b_m, .inr (10, [.int m_thrown, .ref b_zX, .ref b_zV, .ref b_zO, .ref m_memory, .ref m_shut, .long m_choices, .int m_vl, .int m_vtype, .int m_vstart, .int m_vxrm, .int m_vxsat, .int m_done, .int m_illegal, .int m_traps, .int m_trapAddress, .int m_word, .int m_vd, .int m_vs1, .int m_vs2, .int m_f3, .int m_f6, .int m_sew, .int m_l8, .int m_unmasked])), (b_zX, .inl (kI, 32, .inl zX)), (b_zV, .inl (kI, 512, .inl zV)), (b_zO, .inl (kI, 512, .inl zO))]) (wr := [(b_zX, .inl (kI, 32, .inl zX)), (b_zV, .inl (kI, 512, .inl zV)), (b_zO, .inl (kI, 512, .inl zO))]) (ci := 10) (q9 := 0) X [.int m_vs2, .int (8 : Int32)] 0 [0] [1, 2, 3] [3, 0, 1, 2] (kX11_meets l D kI kZ b_m m_thrown b_zX b_zV b_zO m_memory m_shut m_choices m_vl m_vtype m_vstart m_vxrm m_vxsat m_done m_illegal m_traps m_trapAddress m_word m_vd m_vs1 m_vs2 m_f3 m_f6 m_sew m_l8 m_unmasked m_vs2 (8 : Int32)) vX11_meets q34_23 dX11_counts_40 rfl rfl rfl rfl rfl rfl rfl rfl rfl rfl rfl rfl rfl rfl rfl ?_
    refine k_if_eq (tgt := 48) X dX11_counts_43 (by decide) rfl (fun c4 => ?_) (fun c4 => ?_)
    · skip
      refine k_aload_n X dX11_counts_48 rfl 0 rfl rfl ?_
      refine k_cV1 (st := []) (ws' := [(b_m, .inr (10, [.int m_thrown, .ref b_zX, .ref b_zV, .ref b_zO, .ref m_memory, .ref m_shut, .long m_choices, .int m_vl, .int m_vtype, .int m_vstart, .int m_vxrm, .int m_vxsat, .int m_done, .int m_illegal, .int m_traps, .int m_trapAddress, .int m_word, .int m_vd, .int m_vs1, .int m_vs2, .int m_f3, .int m_f6, .int m_sew, .int m_l8, .int m_unmasked])), (b_zX, .inl (kI, 32, .inl zX)), (b_zV, .inl (kI, 512, .inl zV)), (b_zO, .inl (kI, 512, .inl zO))]) (wr := [(b_zX, .inl (kI, 32, .inl zX)), (b_zV, .inl (kI, 512, .inl zV)), (b_zO, .inl (kI, 512, .inl zO))]) (ci := 10) (q9 := 0) X [] 0 [0] [1, 2, 3] [3, 0, 1, 2] (kX11_goes l D kI kZ b_m m_thrown b_zX b_zV b_zO m_memory m_shut m_choices m_vl m_vtype m_vstart m_vxrm m_vxsat m_done m_illegal m_traps m_trapAddress m_word m_vd m_vs1 m_vs2 m_f3 m_f6 m_sew m_l8 m_unmasked) vX11_goes q31_2 dX11_counts_49 rfl rfl rfl rfl rfl rfl rfl rfl rfl rfl rfl rfl rfl rfl rfl ?_
      refine k_if_ne (tgt := 57) X dX11_counts_52 (by decide) rfl (fun c5 => ?_) (fun c5 => ?_)
      · skip
        refine k_iconst X dX11_counts_55 kc_i_1 rfl ?_
        have e20 : (fX11_counts m_vstart m_vd m_vs2 m_sew m_l8 m_unmasked) = (1 : Int32) := by rw [fX11_counts, if_pos c1, if_neg c2, if_neg c3, if_pos c4]
        have e21 : (fX11_counts__zV m_choices m_vl m_vtype m_vstart m_vd m_vs2 m_sew m_l8 m_unmasked zV zO) = zV := by rw [fX11_counts__zV, if_pos c1, if_neg c2, if_neg c3, if_pos c4, if_pos c5]
        exact k_zret9 X hRt hLk rfl e20.symm (by rw [e21]) dX11_counts_56
      refine k_iconst X dX11_counts_57 kc_i_0 rfl ?_
      refine k_istore_n (lv' := [(1, .int (0 : Int32)), (0, .ref b_m)]) X dX11_counts_58 rfl rfl rfl rfl ?_
      refine k_iconst X dX11_counts_59 kc_i_0 rfl ?_
      refine k_istore_n (lv' := [(2, .int (0 : Int32)), (1, .int (0 : Int32)), (0, .ref b_m)]) X dX11_counts_60 rfl rfl rfl rfl ?_
      refine k_sub [2, 1, 0] (lv' := [(0, .ref b_m), (1, .int (0 : Int32)), (2, .int (0 : Int32))]) rfl ?_
      refine k_loop (KX11_counts_61 m_choices m_vl m_vtype m_vd m_vs2 m_sew m_unmasked zO) (LX11_counts_61 m_choices m_vl m_vtype m_vd m_vs2 m_sew m_unmasked zO) (fun s9 => (bX11_counts_61_L2 m_vl s9.1 s9.2.1 s9.2.2, bX11_counts_61_L1 m_vl m_vs2 m_unmasked zO s9.1 s9.2.1 s9.2.2, bX11_counts_61_zV m_choices m_vl m_vtype m_vd m_sew m_unmasked zO s9.1 s9.2.1 s9.2.2)) (fun s9 => tX11_counts_61 m_vl s9.1 s9.2.1 s9.2.2 ∧ oX11_counts_61 m_choices m_vl m_vtype m_vd m_vs2 m_sew m_unmasked zO s9.1 s9.2.1 s9.2.2) (fun s9 => [(b_m, .inr (10, [.int m_thrown, .ref b_zX, .ref b_zV, .ref b_zO, .ref m_memory, .ref m_shut, .long m_choices, .int m_vl, .int m_vtype, .int m_vstart, .int m_vxrm, .int m_vxsat, .int m_done, .int m_illegal, .int m_traps, .int m_trapAddress, .int m_word, .int m_vd, .int m_vs1, .int m_vs2, .int m_f3, .int m_f6, .int m_sew, .int m_l8, .int m_unmasked])), (b_zX, .inl (kI, 32, .inl zX)), (b_zV, .inl (kI, 512, .inl s9.2.2)), (b_zO, .inl (kI, 512, .inl zO))]) (fun s9 => [(0, .ref b_m), (1, .int s9.2.1), (2, .int s9.1)]) 61 (fun _ => rfl) (fun _ _ => rfl) (fun _ _ h => h) ?_ (cnt (0 : Int32) m_vl) ((0 : Int32), (0 : Int32), zV) (hok.2.1 c1 c2 c3 c4 c5) ?_
      · rintro ⟨w_L2, w_L1, w_zV⟩ ⟨hlat, hob⟩ g0
        try dsimp only at hlat hob g0 ⊢
        unfold oX11_counts_61 at hob
        refine k_iload_n X dX11_counts_61 rfl 2 rfl rfl ?_
        refine k_aload_n X dX11_counts_62 rfl 0 rfl rfl ?_
        refine k_get X i_wsX110 0 7 q28_7 rfl rfl rfl rfl rfl dX11_counts_63 rfl ?_
        refine k_icmp_ge (tgt := 134) X dX11_counts_66 (by decide) rfl (fun c6 => ?_) (fun c6 => ?_)
        · skip
          exact absurd hlat (by rw [tX11_counts_61, if_pos c6]; exact id)
        refine k_aload_n X dX11_counts_69 rfl 0 rfl rfl ?_
        refine k_iload_n X dX11_counts_70 rfl 2 rfl rfl ?_
        refine k_cV1 (st := []) (ws' := [(b_m, .inr (10, [.int m_thrown, .ref b_zX, .ref b_zV, .ref b_zO, .ref m_memory, .ref m_shut, .long m_choices, .int m_vl, .int m_vtype, .int m_vstart, .int m_vxrm, .int m_vxsat, .int m_done, .int m_illegal, .int m_traps, .int m_trapAddress, .int m_word, .int m_vd, .int m_vs1, .int m_vs2, .int m_f3, .int m_f6, .int m_sew, .int m_l8, .int m_unmasked])), (b_zX, .inl (kI, 32, .inl zX)), (b_zV, .inl (kI, 512, .inl w_zV)), (b_zO, .inl (kI, 512, .inl zO))]) (wr := [(b_zX, .inl (kI, 32, .inl zX)), (b_zV, .inl (kI, 512, .inl w_zV))]) (ci := 10) (q9 := 0) X [.int w_L2] 0 [0, 3] [1, 2] [2, 0, 1, 3] (kX11_isActive l D kI kZ b_m b_zO m_thrown b_zX b_zV m_memory m_shut m_choices m_vl m_vtype m_vstart m_vxrm m_vxsat m_done m_illegal m_traps m_trapAddress m_word m_vd m_vs1 m_vs2 m_f3 m_f6 m_sew m_l8 m_unmasked zO w_L2 (hob.1 c6)) vX11_isActive q31_6 dX11_counts_71 rfl rfl rfl rfl rfl rfl rfl rfl rfl rfl rfl rfl rfl rfl rfl ?_
        refine k_mid2 [(b_m, .inr (10, [.int m_thrown, .ref b_zX, .ref b_zV, .ref b_zO, .ref m_memory, .ref m_shut, .long m_choices, .int m_vl, .int m_vtype, .int m_vstart, .int m_vxrm, .int m_vxsat, .int m_done, .int m_illegal, .int m_traps, .int m_trapAddress, .int m_word, .int m_vd, .int m_vs1, .int m_vs2, .int m_f3, .int m_f6, .int m_sew, .int m_l8, .int m_unmasked])), (b_zX, .inl (kI, 32, .inl zX)), (b_zV, .inl (kI, 512, .inl (pX11_counts_128_zV m_choices m_vtype m_vd m_sew m_unmasked zO w_L2 w_L1 w_zV))), (b_zO, .inl (kI, 512, .inl zO))] [(0, .ref b_m), (1, .int (pX11_counts_128_L1 m_vs2 m_unmasked zO w_L2 w_L1)), (2, .int w_L2)] [] 128 (fun hJ10 => ?_) ?_
        · skip
          refine k_if_ne (tgt := 93) X dX11_counts_74 (by decide) rfl (fun c7 => ?_) (fun c7 => ?_)
          · skip
            refine k_aload_n X dX11_counts_77 rfl 0 rfl rfl ?_
            refine k_aload_n X dX11_counts_78 rfl 0 rfl rfl ?_
            refine k_get X i_wsX110 0 17 q27_3 rfl rfl rfl rfl rfl dX11_counts_79 rfl ?_
            refine k_aload_n X dX11_counts_82 rfl 0 rfl rfl ?_
            refine k_get X i_wsX110 0 22 q27_9 rfl rfl rfl rfl rfl dX11_counts_83 rfl ?_
            refine k_iload_n X dX11_counts_86 rfl 2 rfl rfl ?_
            refine k_cV0 (st := []) (ws' := [(b_m, .inr (10, [.int m_thrown, .ref b_zX, .ref b_zV, .ref b_zO, .ref m_memory, .ref m_shut, .long m_choices, .int m_vl, .int m_vtype, .int m_vstart, .int m_vxrm, .int m_vxsat, .int m_done, .int m_illegal, .int m_traps, .int m_trapAddress, .int m_word, .int m_vd, .int m_vs1, .int m_vs2, .int m_f3, .int m_f6, .int m_sew, .int m_l8, .int m_unmasked])), (b_zX, .inl (kI, 32, .inl zX)), (b_zV, .inl (kI, 512, .inl (fX11_masked__zV m_choices m_vtype w_zV m_vd m_sew w_L2))), (b_zO, .inl (kI, 512, .inl zO))]) (wr := [(b_zX, .inl (kI, 32, .inl zX)), (b_zO, .inl (kI, 512, .inl zO))]) (ci := 10) (q9 := 0) X [.int m_vd, .int m_sew, .int w_L2] 0 [0, 2] [1, 3] [2, 0, 3, 1] (kX11_masked l D kI kZ b_m b_zV m_thrown b_zX b_zO m_memory m_shut m_choices m_vl m_vtype m_vstart m_vxrm m_vxsat m_done m_illegal m_traps m_trapAddress m_word m_vd m_vs1 m_vs2 m_f3 m_f6 m_sew m_l8 m_unmasked w_zV m_vd m_sew w_L2 (hob.2.1 c6 c7)) vX11_masked q31_14 dX11_counts_87 rfl rfl rfl rfl rfl rfl rfl rfl rfl rfl rfl rfl rfl rfl rfl ?_
            refine k_goto (tgt := 128) X dX11_counts_90 (by decide) ?_
            have e22 : (pX11_counts_128_L1 m_vs2 m_unmasked zO w_L2 w_L1) = w_L1 := by rw [pX11_counts_128_L1, if_pos c7]
            rw [e22] at hJ10
            have e23 : (pX11_counts_128_zV m_choices m_vtype m_vd m_sew m_unmasked zO w_L2 w_L1 w_zV) = (fX11_masked__zV m_choices m_vtype w_zV m_vd m_sew w_L2) := by rw [pX11_counts_128_zV, if_pos c7]
            rw [e23] at hJ10
            exact k_sub [0, 1, 2] rfl hJ10
          refine k_aload_n X dX11_counts_93 rfl 0 rfl rfl ?_
          refine k_aload_n X dX11_counts_94 rfl 0 rfl rfl ?_
          refine k_get X i_wsX110 0 17 q27_3 rfl rfl rfl rfl rfl dX11_counts_95 rfl ?_
          refine k_aload_n X dX11_counts_98 rfl 0 rfl rfl ?_
          refine k_get X i_wsX110 0 22 q27_9 rfl rfl rfl rfl rfl dX11_counts_99 rfl ?_
          refine k_iload_n X dX11_counts_102 rfl 2 rfl rfl ?_
          refine k_iload_n X dX11_counts_103 rfl 1 rfl rfl ?_
          refine k_i2l X dX11_counts_104 rfl ?_
          refine k_cV0 (st := []) (ws' := [(b_m, .inr (10, [.int m_thrown, .ref b_zX, .ref b_zV, .ref b_zO, .ref m_memory, .ref m_shut, .long m_choices, .int m_vl, .int m_vtype, .int m_vstart, .int m_vxrm, .int m_vxsat, .int m_done, .int m_illegal, .int m_traps, .int m_trapAddress, .int m_word, .int m_vd, .int m_vs1, .int m_vs2, .int m_f3, .int m_f6, .int m_sew, .int m_l8, .int m_unmasked])), (b_zX, .inl (kI, 32, .inl zX)), (b_zV, .inl (kI, 512, .inl (fX11_put__zV w_zV m_vd m_sew w_L2 (Int32.toInt64 w_L1)))), (b_zO, .inl (kI, 512, .inl zO))]) (wr := [(b_zX, .inl (kI, 32, .inl zX)), (b_zO, .inl (kI, 512, .inl zO))]) (ci := 10) (q9 := 0) X [.int m_vd, .int m_sew, .int w_L2, .long (Int32.toInt64 w_L1)] 0 [0, 2] [1, 3] [2, 0, 3, 1] (kX11_put l D kI kZ b_m b_zV m_thrown b_zX b_zO m_memory m_shut m_choices m_vl m_vtype m_vstart m_vxrm m_vxsat m_done m_illegal m_traps m_trapAddress m_word m_vd m_vs1 m_vs2 m_f3 m_f6 m_sew m_l8 m_unmasked w_zV m_vd m_sew w_L2 (Int32.toInt64 w_L1) (hob.2.2.1 c6 c7)) vX11_put q32_13 dX11_counts_105 rfl rfl rfl rfl rfl rfl rfl rfl rfl rfl rfl rfl rfl rfl rfl ?_
          refine k_iload_n X dX11_counts_108 rfl 1 rfl rfl ?_
          refine k_aload_n X dX11_counts_109 rfl 0 rfl rfl ?_
          refine k_aload_n X dX11_counts_110 rfl 0 rfl rfl ?_
          refine k_get X i_wsX110 0 19 q27_6 rfl rfl rfl rfl rfl dX11_counts_111 rfl ?_
          refine k_iload_n X dX11_counts_114 rfl 2 rfl rfl ?_
          refine k_cV1 (st := [.int w_L1]) (ws' := [(b_m, .inr (10, [.int m_thrown, .ref b_zX, .ref b_zV, .ref b_zO, .ref m_memory, .ref m_shut, .long m_choices, .int m_vl, .int m_vtype, .int m_vstart, .int m_vxrm, .int m_vxsat, .int m_done, .int m_illegal, .int m_traps, .int m_trapAddress, .int m_word, .int m_vd, .int m_vs1, .int m_vs2, .int m_f3, .int m_f6, .int m_sew, .int m_l8, .int m_unmasked])), (b_zX, .inl (kI, 32, .inl zX)), (b_zV, .inl (kI, 512, .inl (fX11_put__zV w_zV m_vd m_sew w_L2 (Int32.toInt64 w_L1)))), (b_zO, .inl (kI, 512, .inl zO))]) (wr := [(b_zX, .inl (kI, 32, .inl zX)), (b_zV, .inl (kI, 512, .inl (fX11_put__zV w_zV m_vd m_sew w_L2 (Int32.toInt64 w_L1))))]) (ci := 10) (q9 := 0) X [.int m_vs2, .int w_L2] 1 [0, 3] [1, 2] [2, 0, 1, 3] (kX11_bit l D kI kZ b_m b_zO m_thrown b_zX b_zV m_memory m_shut m_choices m_vl m_vtype m_vstart m_vxrm m_vxsat m_done m_illegal m_traps m_trapAddress m_word m_vd m_vs1 m_vs2 m_f3 m_f6 m_sew m_l8 m_unmasked zO m_vs2 w_L2 (hob.2.2.2 c6 c7)) vX11_bit q31_10 dX11_counts_115 rfl rfl rfl rfl rfl rfl rfl rfl rfl rfl rfl rfl rfl rfl rfl ?_
          refine k_mid2 [(b_m, .inr (10, [.int m_thrown, .ref b_zX, .ref b_zV, .ref b_zO, .ref m_memory, .ref m_shut, .long m_choices, .int m_vl, .int m_vtype, .int m_vstart, .int m_vxrm, .int m_vxsat, .int m_done, .int m_illegal, .int m_traps, .int m_trapAddress, .int m_word, .int m_vd, .int m_vs1, .int m_vs2, .int m_f3, .int m_f6, .int m_sew, .int m_l8, .int m_unmasked])), (b_zX, .inl (kI, 32, .inl zX)), (b_zV, .inl (kI, 512, .inl (fX11_put__zV w_zV m_vd m_sew w_L2 (Int32.toInt64 w_L1)))), (b_zO, .inl (kI, 512, .inl zO))] [(0, .ref b_m), (1, .int w_L1), (2, .int w_L2)] [.int (pX11_counts_126_S2 m_vs2 zO w_L2), .int w_L1] 126 (fun hJ9 => ?_) ?_
          · skip
            refine k_if_eq (tgt := 125) X dX11_counts_118 (by decide) rfl (fun c8 => ?_) (fun c8 => ?_)
            · skip
              refine k_iconst X dX11_counts_125 kc_i_0 rfl ?_
              have e24 : (pX11_counts_126_S2 m_vs2 zO w_L2) = (0 : Int32) := by rw [pX11_counts_126_S2, if_pos c8]
              rw [e24] at hJ9
              exact k_sub [0, 1, 2] rfl hJ9
            refine k_iconst X dX11_counts_121 kc_i_1 rfl ?_
            refine k_goto (tgt := 126) X dX11_counts_122 (by decide) ?_
            have e25 : (pX11_counts_126_S2 m_vs2 zO w_L2) = (1 : Int32) := by rw [pX11_counts_126_S2, if_neg c8]
            rw [e25] at hJ9
            exact k_sub [0, 1, 2] rfl hJ9
          refine k_iadd X dX11_counts_126 rfl ?_
          refine k_istore_n (lv' := [(1, .int (w_L1 + (pX11_counts_126_S2 m_vs2 zO w_L2))), (0, .ref b_m), (2, .int w_L2)]) X dX11_counts_127 rfl rfl rfl rfl ?_
          have e26 : (pX11_counts_128_L1 m_vs2 m_unmasked zO w_L2 w_L1) = (w_L1 + (pX11_counts_126_S2 m_vs2 zO w_L2)) := by rw [pX11_counts_128_L1, if_neg c7]
          rw [e26] at hJ10
          have e27 : (pX11_counts_128_zV m_choices m_vtype m_vd m_sew m_unmasked zO w_L2 w_L1 w_zV) = (fX11_put__zV w_zV m_vd m_sew w_L2 (Int32.toInt64 w_L1)) := by rw [pX11_counts_128_zV, if_neg c7]
          rw [e27] at hJ10
          exact k_sub [1, 0, 2] rfl hJ10
        refine k_iinc (lv' := [(2, .int (w_L2 + (1 : Int32))), (0, .ref b_m), (1, .int (pX11_counts_128_L1 m_vs2 m_unmasked zO w_L2 w_L1))]) X dX11_counts_128 2 rfl kc_i_1 rfl rfl rfl ?_
        refine k_goto (tgt := 61) X dX11_counts_131 (by decide) ?_
        have e28 : bX11_counts_61_L2 m_vl w_L2 w_L1 w_zV = (w_L2 + (1 : Int32)) := by rw [bX11_counts_61_L2, if_neg c6]
        rw [e28] at g0
        have e29 : bX11_counts_61_L1 m_vl m_vs2 m_unmasked zO w_L2 w_L1 w_zV = (pX11_counts_128_L1 m_vs2 m_unmasked zO w_L2 w_L1) := by rw [bX11_counts_61_L1, if_neg c6]
        rw [e29] at g0
        have e30 : bX11_counts_61_zV m_choices m_vl m_vtype m_vd m_sew m_unmasked zO w_L2 w_L1 w_zV = (pX11_counts_128_zV m_choices m_vtype m_vd m_sew m_unmasked zO w_L2 w_L1 w_zV) := by rw [bX11_counts_61_zV, if_neg c6]
        rw [e30] at g0
        exact k_sub [1, 2, 0] rfl g0
      try dsimp only
      refine k_iload_n X dX11_counts_61 rfl 2 rfl rfl ?_
      refine k_aload_n X dX11_counts_62 rfl 0 rfl rfl ?_
      refine k_get X i_wsX110 0 7 q28_7 rfl rfl rfl rfl rfl dX11_counts_63 rfl ?_
      refine k_icmp_ge (tgt := 134) X dX11_counts_66 (by decide) rfl (fun c11 => ?_) (fun c11 => ?_)
      · skip
        refine k_aload_n X dX11_counts_134 rfl 0 rfl rfl ?_
        refine k_aload_n X dX11_counts_135 rfl 0 rfl rfl ?_
        refine k_get X i_wsX110 0 17 q27_3 rfl rfl rfl rfl rfl dX11_counts_136 rfl ?_
        refine k_aload_n X dX11_counts_139 rfl 0 rfl rfl ?_
        refine k_get X i_wsX110 0 22 q27_9 rfl rfl rfl rfl rfl dX11_counts_140 rfl ?_
        refine k_aload_n X dX11_counts_143 rfl 0 rfl rfl ?_
        refine k_get X i_wsX110 0 23 q27_10 rfl rfl rfl rfl rfl dX11_counts_144 rfl ?_
        refine k_aload_n X dX11_counts_147 rfl 0 rfl rfl ?_
        refine k_get X i_wsX110 0 7 q28_7 rfl rfl rfl rfl rfl dX11_counts_148 rfl ?_
        refine k_cV0 (st := []) (ws' := [(b_m, .inr (10, [.int m_thrown, .ref b_zX, .ref b_zV, .ref b_zO, .ref m_memory, .ref m_shut, .long m_choices, .int m_vl, .int m_vtype, .int m_vstart, .int m_vxrm, .int m_vxsat, .int m_done, .int m_illegal, .int m_traps, .int m_trapAddress, .int m_word, .int m_vd, .int m_vs1, .int m_vs2, .int m_f3, .int m_f6, .int m_sew, .int m_l8, .int m_unmasked])), (b_zX, .inl (kI, 32, .inl zX)), (b_zV, .inl (kI, 512, .inl (fX11_tail__zV m_choices m_vtype ((LX11_counts_61 m_choices m_vl m_vtype m_vd m_vs2 m_sew m_unmasked zO (cnt (0 : Int32) m_vl) ((0 : Int32), (0 : Int32), zV)).2.2) m_vd m_sew m_l8 m_vl))), (b_zO, .inl (kI, 512, .inl zO))]) (wr := [(b_zX, .inl (kI, 32, .inl zX)), (b_zO, .inl (kI, 512, .inl zO))]) (ci := 10) (q9 := 0) X [.int m_vd, .int m_sew, .int m_l8, .int m_vl] 0 [0, 2] [1, 3] [2, 0, 3, 1] (kX11_tail l D kI kZ b_m b_zV m_thrown b_zX b_zO m_memory m_shut m_choices m_vl m_vtype m_vstart m_vxrm m_vxsat m_done m_illegal m_traps m_trapAddress m_word m_vd m_vs1 m_vs2 m_f3 m_f6 m_sew m_l8 m_unmasked ((LX11_counts_61 m_choices m_vl m_vtype m_vd m_vs2 m_sew m_unmasked zO (cnt (0 : Int32) m_vl) ((0 : Int32), (0 : Int32), zV)).2.2) m_vd m_sew m_l8 m_vl (hok.2.2.2.1 c1 c2 c3 c4 c5 c11)) vX11_tail q34_11 dX11_counts_151 rfl rfl rfl rfl rfl rfl rfl rfl rfl rfl rfl rfl rfl rfl rfl ?_
        refine k_iconst X dX11_counts_154 kc_i_1 rfl ?_
        have e31 : (fX11_counts m_vstart m_vd m_vs2 m_sew m_l8 m_unmasked) = (1 : Int32) := by rw [fX11_counts, if_pos c1, if_neg c2, if_neg c3, if_pos c4]
        have e32 : (fX11_counts__zV m_choices m_vl m_vtype m_vstart m_vd m_vs2 m_sew m_l8 m_unmasked zV zO) = (fX11_tail__zV m_choices m_vtype ((LX11_counts_61 m_choices m_vl m_vtype m_vd m_vs2 m_sew m_unmasked zO (cnt (0 : Int32) m_vl) ((0 : Int32), (0 : Int32), zV)).2.2) m_vd m_sew m_l8 m_vl) := by rw [fX11_counts__zV, if_pos c1, if_neg c2, if_neg c3, if_pos c4, if_neg c5]
        exact k_zret9 X hRt hLk rfl e31.symm (by rw [e32]) dX11_counts_155
      refine k_aload_n X dX11_counts_69 rfl 0 rfl rfl ?_
      refine k_iload_n X dX11_counts_70 rfl 2 rfl rfl ?_
      refine k_cV1 (st := []) (ws' := [(b_m, .inr (10, [.int m_thrown, .ref b_zX, .ref b_zV, .ref b_zO, .ref m_memory, .ref m_shut, .long m_choices, .int m_vl, .int m_vtype, .int m_vstart, .int m_vxrm, .int m_vxsat, .int m_done, .int m_illegal, .int m_traps, .int m_trapAddress, .int m_word, .int m_vd, .int m_vs1, .int m_vs2, .int m_f3, .int m_f6, .int m_sew, .int m_l8, .int m_unmasked])), (b_zX, .inl (kI, 32, .inl zX)), (b_zV, .inl (kI, 512, .inl ((LX11_counts_61 m_choices m_vl m_vtype m_vd m_vs2 m_sew m_unmasked zO (cnt (0 : Int32) m_vl) ((0 : Int32), (0 : Int32), zV)).2.2))), (b_zO, .inl (kI, 512, .inl zO))]) (wr := [(b_zX, .inl (kI, 32, .inl zX)), (b_zV, .inl (kI, 512, .inl ((LX11_counts_61 m_choices m_vl m_vtype m_vd m_vs2 m_sew m_unmasked zO (cnt (0 : Int32) m_vl) ((0 : Int32), (0 : Int32), zV)).2.2)))]) (ci := 10) (q9 := 0) X [.int ((LX11_counts_61 m_choices m_vl m_vtype m_vd m_vs2 m_sew m_unmasked zO (cnt (0 : Int32) m_vl) ((0 : Int32), (0 : Int32), zV)).1)] 0 [0, 3] [1, 2] [2, 0, 1, 3] (kX11_isActive l D kI kZ b_m b_zO m_thrown b_zX b_zV m_memory m_shut m_choices m_vl m_vtype m_vstart m_vxrm m_vxsat m_done m_illegal m_traps m_trapAddress m_word m_vd m_vs1 m_vs2 m_f3 m_f6 m_sew m_l8 m_unmasked zO ((LX11_counts_61 m_choices m_vl m_vtype m_vd m_vs2 m_sew m_unmasked zO (cnt (0 : Int32) m_vl) ((0 : Int32), (0 : Int32), zV)).1) (hok.2.2.2.2.1 c1 c2 c3 c4 c5 c11)) vX11_isActive q31_6 dX11_counts_71 rfl rfl rfl rfl rfl rfl rfl rfl rfl rfl rfl rfl rfl rfl rfl ?_
      refine k_mid2 [(b_m, .inr (10, [.int m_thrown, .ref b_zX, .ref b_zV, .ref b_zO, .ref m_memory, .ref m_shut, .long m_choices, .int m_vl, .int m_vtype, .int m_vstart, .int m_vxrm, .int m_vxsat, .int m_done, .int m_illegal, .int m_traps, .int m_trapAddress, .int m_word, .int m_vd, .int m_vs1, .int m_vs2, .int m_f3, .int m_f6, .int m_sew, .int m_l8, .int m_unmasked])), (b_zX, .inl (kI, 32, .inl zX)), (b_zV, .inl (kI, 512, .inl (pX11_counts_128_zV m_choices m_vtype m_vd m_sew m_unmasked zO ((LX11_counts_61 m_choices m_vl m_vtype m_vd m_vs2 m_sew m_unmasked zO (cnt (0 : Int32) m_vl) ((0 : Int32), (0 : Int32), zV)).1) ((LX11_counts_61 m_choices m_vl m_vtype m_vd m_vs2 m_sew m_unmasked zO (cnt (0 : Int32) m_vl) ((0 : Int32), (0 : Int32), zV)).2.1) ((LX11_counts_61 m_choices m_vl m_vtype m_vd m_vs2 m_sew m_unmasked zO (cnt (0 : Int32) m_vl) ((0 : Int32), (0 : Int32), zV)).2.2)))), (b_zO, .inl (kI, 512, .inl zO))] [(0, .ref b_m), (1, .int (pX11_counts_128_L1 m_vs2 m_unmasked zO ((LX11_counts_61 m_choices m_vl m_vtype m_vd m_vs2 m_sew m_unmasked zO (cnt (0 : Int32) m_vl) ((0 : Int32), (0 : Int32), zV)).1) ((LX11_counts_61 m_choices m_vl m_vtype m_vd m_vs2 m_sew m_unmasked zO (cnt (0 : Int32) m_vl) ((0 : Int32), (0 : Int32), zV)).2.1))), (2, .int ((LX11_counts_61 m_choices m_vl m_vtype m_vd m_vs2 m_sew m_unmasked zO (cnt (0 : Int32) m_vl) ((0 : Int32), (0 : Int32), zV)).1))] [] 128 (fun hJ15 => ?_) ?_
      · skip
        refine k_if_ne (tgt := 93) X dX11_counts_74 (by decide) rfl (fun c12 => ?_) (fun c12 => ?_)
        · skip
          refine k_aload_n X dX11_counts_77 rfl 0 rfl rfl ?_
          refine k_aload_n X dX11_counts_78 rfl 0 rfl rfl ?_
          refine k_get X i_wsX110 0 17 q27_3 rfl rfl rfl rfl rfl dX11_counts_79 rfl ?_
          refine k_aload_n X dX11_counts_82 rfl 0 rfl rfl ?_
          refine k_get X i_wsX110 0 22 q27_9 rfl rfl rfl rfl rfl dX11_counts_83 rfl ?_
          refine k_iload_n X dX11_counts_86 rfl 2 rfl rfl ?_
          refine k_cV0 (st := []) (ws' := [(b_m, .inr (10, [.int m_thrown, .ref b_zX, .ref b_zV, .ref b_zO, .ref m_memory, .ref m_shut, .long m_choices, .int m_vl, .int m_vtype, .int m_vstart, .int m_vxrm, .int m_vxsat, .int m_done, .int m_illegal, .int m_traps, .int m_trapAddress, .int m_word, .int m_vd, .int m_vs1, .int m_vs2, .int m_f3, .int m_f6, .int m_sew, .int m_l8, .int m_unmasked])), (b_zX, .inl (kI, 32, .inl zX)), (b_zV, .inl (kI, 512, .inl (fX11_masked__zV m_choices m_vtype ((LX11_counts_61 m_choices m_vl m_vtype m_vd m_vs2 m_sew m_unmasked zO (cnt (0 : Int32) m_vl) ((0 : Int32), (0 : Int32), zV)).2.2) m_vd m_sew ((LX11_counts_61 m_choices m_vl m_vtype m_vd m_vs2 m_sew m_unmasked zO (cnt (0 : Int32) m_vl) ((0 : Int32), (0 : Int32), zV)).1)))), (b_zO, .inl (kI, 512, .inl zO))]) (wr := [(b_zX, .inl (kI, 32, .inl zX)), (b_zO, .inl (kI, 512, .inl zO))]) (ci := 10) (q9 := 0) X [.int m_vd, .int m_sew, .int ((LX11_counts_61 m_choices m_vl m_vtype m_vd m_vs2 m_sew m_unmasked zO (cnt (0 : Int32) m_vl) ((0 : Int32), (0 : Int32), zV)).1)] 0 [0, 2] [1, 3] [2, 0, 3, 1] (kX11_masked l D kI kZ b_m b_zV m_thrown b_zX b_zO m_memory m_shut m_choices m_vl m_vtype m_vstart m_vxrm m_vxsat m_done m_illegal m_traps m_trapAddress m_word m_vd m_vs1 m_vs2 m_f3 m_f6 m_sew m_l8 m_unmasked ((LX11_counts_61 m_choices m_vl m_vtype m_vd m_vs2 m_sew m_unmasked zO (cnt (0 : Int32) m_vl) ((0 : Int32), (0 : Int32), zV)).2.2) m_vd m_sew ((LX11_counts_61 m_choices m_vl m_vtype m_vd m_vs2 m_sew m_unmasked zO (cnt (0 : Int32) m_vl) ((0 : Int32), (0 : Int32), zV)).1) (hok.2.2.2.2.2.1 c1 c2 c3 c4 c5 c11 c12)) vX11_masked q31_14 dX11_counts_87 rfl rfl rfl rfl rfl rfl rfl rfl rfl rfl rfl rfl rfl rfl rfl ?_
          refine k_goto (tgt := 128) X dX11_counts_90 (by decide) ?_
          have e33 : (pX11_counts_128_L1 m_vs2 m_unmasked zO ((LX11_counts_61 m_choices m_vl m_vtype m_vd m_vs2 m_sew m_unmasked zO (cnt (0 : Int32) m_vl) ((0 : Int32), (0 : Int32), zV)).1) ((LX11_counts_61 m_choices m_vl m_vtype m_vd m_vs2 m_sew m_unmasked zO (cnt (0 : Int32) m_vl) ((0 : Int32), (0 : Int32), zV)).2.1)) = (LX11_counts_61 m_choices m_vl m_vtype m_vd m_vs2 m_sew m_unmasked zO (cnt (0 : Int32) m_vl) ((0 : Int32), (0 : Int32), zV)).2.1 := by rw [pX11_counts_128_L1, if_pos c12]
          rw [e33] at hJ15
          have e34 : (pX11_counts_128_zV m_choices m_vtype m_vd m_sew m_unmasked zO ((LX11_counts_61 m_choices m_vl m_vtype m_vd m_vs2 m_sew m_unmasked zO (cnt (0 : Int32) m_vl) ((0 : Int32), (0 : Int32), zV)).1) ((LX11_counts_61 m_choices m_vl m_vtype m_vd m_vs2 m_sew m_unmasked zO (cnt (0 : Int32) m_vl) ((0 : Int32), (0 : Int32), zV)).2.1) ((LX11_counts_61 m_choices m_vl m_vtype m_vd m_vs2 m_sew m_unmasked zO (cnt (0 : Int32) m_vl) ((0 : Int32), (0 : Int32), zV)).2.2)) = (fX11_masked__zV m_choices m_vtype ((LX11_counts_61 m_choices m_vl m_vtype m_vd m_vs2 m_sew m_unmasked zO (cnt (0 : Int32) m_vl) ((0 : Int32), (0 : Int32), zV)).2.2) m_vd m_sew ((LX11_counts_61 m_choices m_vl m_vtype m_vd m_vs2 m_sew m_unmasked zO (cnt (0 : Int32) m_vl) ((0 : Int32), (0 : Int32), zV)).1)) := by rw [pX11_counts_128_zV, if_pos c12]
          rw [e34] at hJ15
          exact k_sub [0, 1, 2] rfl hJ15
        refine k_aload_n X dX11_counts_93 rfl 0 rfl rfl ?_
        refine k_aload_n X dX11_counts_94 rfl 0 rfl rfl ?_
        refine k_get X i_wsX110 0 17 q27_3 rfl rfl rfl rfl rfl dX11_counts_95 rfl ?_
        refine k_aload_n X dX11_counts_98 rfl 0 rfl rfl ?_
        refine k_get X i_wsX110 0 22 q27_9 rfl rfl rfl rfl rfl dX11_counts_99 rfl ?_
        refine k_iload_n X dX11_counts_102 rfl 2 rfl rfl ?_
        refine k_iload_n X dX11_counts_103 rfl 1 rfl rfl ?_
        refine k_i2l X dX11_counts_104 rfl ?_
        refine k_cV0 (st := []) (ws' := [(b_m, .inr (10, [.int m_thrown, .ref b_zX, .ref b_zV, .ref b_zO, .ref m_memory, .ref m_shut, .long m_choices, .int m_vl, .int m_vtype, .int m_vstart, .int m_vxrm, .int m_vxsat, .int m_done, .int m_illegal, .int m_traps, .int m_trapAddress, .int m_word, .int m_vd, .int m_vs1, .int m_vs2, .int m_f3, .int m_f6, .int m_sew, .int m_l8, .int m_unmasked])), (b_zX, .inl (kI, 32, .inl zX)), (b_zV, .inl (kI, 512, .inl (fX11_put__zV ((LX11_counts_61 m_choices m_vl m_vtype m_vd m_vs2 m_sew m_unmasked zO (cnt (0 : Int32) m_vl) ((0 : Int32), (0 : Int32), zV)).2.2) m_vd m_sew ((LX11_counts_61 m_choices m_vl m_vtype m_vd m_vs2 m_sew m_unmasked zO (cnt (0 : Int32) m_vl) ((0 : Int32), (0 : Int32), zV)).1) (Int32.toInt64 ((LX11_counts_61 m_choices m_vl m_vtype m_vd m_vs2 m_sew m_unmasked zO (cnt (0 : Int32) m_vl) ((0 : Int32), (0 : Int32), zV)).2.1))))), (b_zO, .inl (kI, 512, .inl zO))]) (wr := [(b_zX, .inl (kI, 32, .inl zX)), (b_zO, .inl (kI, 512, .inl zO))]) (ci := 10) (q9 := 0) X [.int m_vd, .int m_sew, .int ((LX11_counts_61 m_choices m_vl m_vtype m_vd m_vs2 m_sew m_unmasked zO (cnt (0 : Int32) m_vl) ((0 : Int32), (0 : Int32), zV)).1), .long (Int32.toInt64 ((LX11_counts_61 m_choices m_vl m_vtype m_vd m_vs2 m_sew m_unmasked zO (cnt (0 : Int32) m_vl) ((0 : Int32), (0 : Int32), zV)).2.1))] 0 [0, 2] [1, 3] [2, 0, 3, 1] (kX11_put l D kI kZ b_m b_zV m_thrown b_zX b_zO m_memory m_shut m_choices m_vl m_vtype m_vstart m_vxrm m_vxsat m_done m_illegal m_traps m_trapAddress m_word m_vd m_vs1 m_vs2 m_f3 m_f6 m_sew m_l8 m_unmasked ((LX11_counts_61 m_choices m_vl m_vtype m_vd m_vs2 m_sew m_unmasked zO (cnt (0 : Int32) m_vl) ((0 : Int32), (0 : Int32), zV)).2.2) m_vd m_sew ((LX11_counts_61 m_choices m_vl m_vtype m_vd m_vs2 m_sew m_unmasked zO (cnt (0 : Int32) m_vl) ((0 : Int32), (0 : Int32), zV)).1) (Int32.toInt64 ((LX11_counts_61 m_choices m_vl m_vtype m_vd m_vs2 m_sew m_unmasked zO (cnt (0 : Int32) m_vl) ((0 : Int32), (0 : Int32), zV)).2.1)) (hok.2.2.2.2.2.2.1 c1 c2 c3 c4 c5 c11 c12)) vX11_put q32_13 dX11_counts_105 rfl rfl rfl rfl rfl rfl rfl rfl rfl rfl rfl rfl rfl rfl rfl ?_
        refine k_iload_n X dX11_counts_108 rfl 1 rfl rfl ?_
        refine k_aload_n X dX11_counts_109 rfl 0 rfl rfl ?_
        refine k_aload_n X dX11_counts_110 rfl 0 rfl rfl ?_
        refine k_get X i_wsX110 0 19 q27_6 rfl rfl rfl rfl rfl dX11_counts_111 rfl ?_
        refine k_iload_n X dX11_counts_114 rfl 2 rfl rfl ?_
        refine k_cV1 (st := [.int ((LX11_counts_61 m_choices m_vl m_vtype m_vd m_vs2 m_sew m_unmasked zO (cnt (0 : Int32) m_vl) ((0 : Int32), (0 : Int32), zV)).2.1)]) (ws' := [(b_m, .inr (10, [.int m_thrown, .ref b_zX, .ref b_zV, .ref b_zO, .ref m_memory, .ref m_shut, .long m_choices, .int m_vl, .int m_vtype, .int m_vstart, .int m_vxrm, .int m_vxsat, .int m_done, .int m_illegal, .int m_traps, .int m_trapAddress, .int m_word, .int m_vd, .int m_vs1, .int m_vs2, .int m_f3, .int m_f6, .int m_sew, .int m_l8, .int m_unmasked])), (b_zX, .inl (kI, 32, .inl zX)), (b_zV, .inl (kI, 512, .inl (fX11_put__zV ((LX11_counts_61 m_choices m_vl m_vtype m_vd m_vs2 m_sew m_unmasked zO (cnt (0 : Int32) m_vl) ((0 : Int32), (0 : Int32), zV)).2.2) m_vd m_sew ((LX11_counts_61 m_choices m_vl m_vtype m_vd m_vs2 m_sew m_unmasked zO (cnt (0 : Int32) m_vl) ((0 : Int32), (0 : Int32), zV)).1) (Int32.toInt64 ((LX11_counts_61 m_choices m_vl m_vtype m_vd m_vs2 m_sew m_unmasked zO (cnt (0 : Int32) m_vl) ((0 : Int32), (0 : Int32), zV)).2.1))))), (b_zO, .inl (kI, 512, .inl zO))]) (wr := [(b_zX, .inl (kI, 32, .inl zX)), (b_zV, .inl (kI, 512, .inl (fX11_put__zV ((LX11_counts_61 m_choices m_vl m_vtype m_vd m_vs2 m_sew m_unmasked zO (cnt (0 : Int32) m_vl) ((0 : Int32), (0 : Int32), zV)).2.2) m_vd m_sew ((LX11_counts_61 m_choices m_vl m_vtype m_vd m_vs2 m_sew m_unmasked zO (cnt (0 : Int32) m_vl) ((0 : Int32), (0 : Int32), zV)).1) (Int32.toInt64 ((LX11_counts_61 m_choices m_vl m_vtype m_vd m_vs2 m_sew m_unmasked zO (cnt (0 : Int32) m_vl) ((0 : Int32), (0 : Int32), zV)).2.1)))))]) (ci := 10) (q9 := 0) X [.int m_vs2, .int ((LX11_counts_61 m_choices m_vl m_vtype m_vd m_vs2 m_sew m_unmasked zO (cnt (0 : Int32) m_vl) ((0 : Int32), (0 : Int32), zV)).1)] 1 [0, 3] [1, 2] [2, 0, 1, 3] (kX11_bit l D kI kZ b_m b_zO m_thrown b_zX b_zV m_memory m_shut m_choices m_vl m_vtype m_vstart m_vxrm m_vxsat m_done m_illegal m_traps m_trapAddress m_word m_vd m_vs1 m_vs2 m_f3 m_f6 m_sew m_l8 m_unmasked zO m_vs2 ((LX11_counts_61 m_choices m_vl m_vtype m_vd m_vs2 m_sew m_unmasked zO (cnt (0 : Int32) m_vl) ((0 : Int32), (0 : Int32), zV)).1) (hok.2.2.2.2.2.2.2 c1 c2 c3 c4 c5 c11 c12)) vX11_bit q31_10 dX11_counts_115 rfl rfl rfl rfl rfl rfl rfl rfl rfl rfl rfl rfl rfl rfl rfl ?_
        refine k_mid2 [(b_m, .inr (10, [.int m_thrown, .ref b_zX, .ref b_zV, .ref b_zO, .ref m_memory, .ref m_shut, .long m_choices, .int m_vl, .int m_vtype, .int m_vstart, .int m_vxrm, .int m_vxsat, .int m_done, .int m_illegal, .int m_traps, .int m_trapAddress, .int m_word, .int m_vd, .int m_vs1, .int m_vs2, .int m_f3, .int m_f6, .int m_sew, .int m_l8, .int m_unmasked])), (b_zX, .inl (kI, 32, .inl zX)), (b_zV, .inl (kI, 512, .inl (fX11_put__zV ((LX11_counts_61 m_choices m_vl m_vtype m_vd m_vs2 m_sew m_unmasked zO (cnt (0 : Int32) m_vl) ((0 : Int32), (0 : Int32), zV)).2.2) m_vd m_sew ((LX11_counts_61 m_choices m_vl m_vtype m_vd m_vs2 m_sew m_unmasked zO (cnt (0 : Int32) m_vl) ((0 : Int32), (0 : Int32), zV)).1) (Int32.toInt64 ((LX11_counts_61 m_choices m_vl m_vtype m_vd m_vs2 m_sew m_unmasked zO (cnt (0 : Int32) m_vl) ((0 : Int32), (0 : Int32), zV)).2.1))))), (b_zO, .inl (kI, 512, .inl zO))] [(0, .ref b_m), (1, .int ((LX11_counts_61 m_choices m_vl m_vtype m_vd m_vs2 m_sew m_unmasked zO (cnt (0 : Int32) m_vl) ((0 : Int32), (0 : Int32), zV)).2.1)), (2, .int ((LX11_counts_61 m_choices m_vl m_vtype m_vd m_vs2 m_sew m_unmasked zO (cnt (0 : Int32) m_vl) ((0 : Int32), (0 : Int32), zV)).1))] [.int (pX11_counts_126_S2 m_vs2 zO ((LX11_counts_61 m_choices m_vl m_vtype m_vd m_vs2 m_sew m_unmasked zO (cnt (0 : Int32) m_vl) ((0 : Int32), (0 : Int32), zV)).1)), .int ((LX11_counts_61 m_choices m_vl m_vtype m_vd m_vs2 m_sew m_unmasked zO (cnt (0 : Int32) m_vl) ((0 : Int32), (0 : Int32), zV)).2.1)] 126 (fun hJ14 => ?_) ?_
        · skip
          refine k_if_eq (tgt := 125) X dX11_counts_118 (by decide) rfl (fun c13 => ?_) (fun c13 => ?_)
          · skip
            refine k_iconst X dX11_counts_125 kc_i_0 rfl ?_
            have e35 : (pX11_counts_126_S2 m_vs2 zO ((LX11_counts_61 m_choices m_vl m_vtype m_vd m_vs2 m_sew m_unmasked zO (cnt (0 : Int32) m_vl) ((0 : Int32), (0 : Int32), zV)).1)) = (0 : Int32) := by rw [pX11_counts_126_S2, if_pos c13]
            rw [e35] at hJ14
            exact k_sub [0, 1, 2] rfl hJ14
          refine k_iconst X dX11_counts_121 kc_i_1 rfl ?_
          refine k_goto (tgt := 126) X dX11_counts_122 (by decide) ?_
          have e36 : (pX11_counts_126_S2 m_vs2 zO ((LX11_counts_61 m_choices m_vl m_vtype m_vd m_vs2 m_sew m_unmasked zO (cnt (0 : Int32) m_vl) ((0 : Int32), (0 : Int32), zV)).1)) = (1 : Int32) := by rw [pX11_counts_126_S2, if_neg c13]
          rw [e36] at hJ14
          exact k_sub [0, 1, 2] rfl hJ14
        refine k_iadd X dX11_counts_126 rfl ?_
        refine k_istore_n (lv' := [(1, .int ((LX11_counts_61 m_choices m_vl m_vtype m_vd m_vs2 m_sew m_unmasked zO (cnt (0 : Int32) m_vl) ((0 : Int32), (0 : Int32), zV)).2.1 + (pX11_counts_126_S2 m_vs2 zO ((LX11_counts_61 m_choices m_vl m_vtype m_vd m_vs2 m_sew m_unmasked zO (cnt (0 : Int32) m_vl) ((0 : Int32), (0 : Int32), zV)).1)))), (0, .ref b_m), (2, .int ((LX11_counts_61 m_choices m_vl m_vtype m_vd m_vs2 m_sew m_unmasked zO (cnt (0 : Int32) m_vl) ((0 : Int32), (0 : Int32), zV)).1))]) X dX11_counts_127 rfl rfl rfl rfl ?_
        have e37 : (pX11_counts_128_L1 m_vs2 m_unmasked zO ((LX11_counts_61 m_choices m_vl m_vtype m_vd m_vs2 m_sew m_unmasked zO (cnt (0 : Int32) m_vl) ((0 : Int32), (0 : Int32), zV)).1) ((LX11_counts_61 m_choices m_vl m_vtype m_vd m_vs2 m_sew m_unmasked zO (cnt (0 : Int32) m_vl) ((0 : Int32), (0 : Int32), zV)).2.1)) = ((LX11_counts_61 m_choices m_vl m_vtype m_vd m_vs2 m_sew m_unmasked zO (cnt (0 : Int32) m_vl) ((0 : Int32), (0 : Int32), zV)).2.1 + (pX11_counts_126_S2 m_vs2 zO ((LX11_counts_61 m_choices m_vl m_vtype m_vd m_vs2 m_sew m_unmasked zO (cnt (0 : Int32) m_vl) ((0 : Int32), (0 : Int32), zV)).1))) := by rw [pX11_counts_128_L1, if_neg c12]
        rw [e37] at hJ15
        have e38 : (pX11_counts_128_zV m_choices m_vtype m_vd m_sew m_unmasked zO ((LX11_counts_61 m_choices m_vl m_vtype m_vd m_vs2 m_sew m_unmasked zO (cnt (0 : Int32) m_vl) ((0 : Int32), (0 : Int32), zV)).1) ((LX11_counts_61 m_choices m_vl m_vtype m_vd m_vs2 m_sew m_unmasked zO (cnt (0 : Int32) m_vl) ((0 : Int32), (0 : Int32), zV)).2.1) ((LX11_counts_61 m_choices m_vl m_vtype m_vd m_vs2 m_sew m_unmasked zO (cnt (0 : Int32) m_vl) ((0 : Int32), (0 : Int32), zV)).2.2)) = (fX11_put__zV ((LX11_counts_61 m_choices m_vl m_vtype m_vd m_vs2 m_sew m_unmasked zO (cnt (0 : Int32) m_vl) ((0 : Int32), (0 : Int32), zV)).2.2) m_vd m_sew ((LX11_counts_61 m_choices m_vl m_vtype m_vd m_vs2 m_sew m_unmasked zO (cnt (0 : Int32) m_vl) ((0 : Int32), (0 : Int32), zV)).1) (Int32.toInt64 ((LX11_counts_61 m_choices m_vl m_vtype m_vd m_vs2 m_sew m_unmasked zO (cnt (0 : Int32) m_vl) ((0 : Int32), (0 : Int32), zV)).2.1))) := by rw [pX11_counts_128_zV, if_neg c12]
        rw [e38] at hJ15
        exact k_sub [1, 0, 2] rfl hJ15
      refine k_iinc (lv' := [(2, .int ((LX11_counts_61 m_choices m_vl m_vtype m_vd m_vs2 m_sew m_unmasked zO (cnt (0 : Int32) m_vl) ((0 : Int32), (0 : Int32), zV)).1 + (1 : Int32))), (0, .ref b_m), (1, .int (pX11_counts_128_L1 m_vs2 m_unmasked zO ((LX11_counts_61 m_choices m_vl m_vtype m_vd m_vs2 m_sew m_unmasked zO (cnt (0 : Int32) m_vl) ((0 : Int32), (0 : Int32), zV)).1) ((LX11_counts_61 m_choices m_vl m_vtype m_vd m_vs2 m_sew m_unmasked zO (cnt (0 : Int32) m_vl) ((0 : Int32), (0 : Int32), zV)).2.1)))]) X dX11_counts_128 2 rfl kc_i_1 rfl rfl rfl ?_
      refine k_goto (tgt := 61) X dX11_counts_131 (by decide) ?_
      exact absurd (show tX11_counts_61 m_vl ((LX11_counts_61 m_choices m_vl m_vtype m_vd m_vs2 m_sew m_unmasked zO (cnt (0 : Int32) m_vl) ((0 : Int32), (0 : Int32), zV)).1) ((LX11_counts_61 m_choices m_vl m_vtype m_vd m_vs2 m_sew m_unmasked zO (cnt (0 : Int32) m_vl) ((0 : Int32), (0 : Int32), zV)).2.1) ((LX11_counts_61 m_choices m_vl m_vtype m_vd m_vs2 m_sew m_unmasked zO (cnt (0 : Int32) m_vl) ((0 : Int32), (0 : Int32), zV)).2.2) from by rw [tX11_counts_61, if_neg c11]; exact True.intro) (hok.2.2.1 c1 c2 c3 c4 c5)
    refine k_iconst X dX11_counts_46 kc_i_0 rfl ?_
    have e39 : (fX11_counts m_vstart m_vd m_vs2 m_sew m_l8 m_unmasked) = (0 : Int32) := by rw [fX11_counts, if_pos c1, if_neg c2, if_neg c3, if_neg c4]
    have e40 : (fX11_counts__zV m_choices m_vl m_vtype m_vstart m_vd m_vs2 m_sew m_l8 m_unmasked zV zO) = zV := by rw [fX11_counts__zV, if_pos c1, if_neg c2, if_neg c3, if_neg c4]
    exact k_zret9 X hRt hLk rfl e39.symm (by rw [e40]) dX11_counts_47
  refine k_iconst X dX11_counts_46 kc_i_0 rfl ?_
  have e41 : (fX11_counts m_vstart m_vd m_vs2 m_sew m_l8 m_unmasked) = (0 : Int32) := by rw [fX11_counts, if_neg c1]
  have e42 : (fX11_counts__zV m_choices m_vl m_vtype m_vstart m_vd m_vs2 m_sew m_l8 m_unmasked zV zO) = zV := by rw [fX11_counts__zV, if_neg c1]
  exact k_zret9 X hRt hLk rfl e41.symm (by rw [e42]) dX11_counts_47
theorem vX11_counts : kVi yX11_counts cX11_counts 3 (some .boolean) 0 := ⟨q38_10, q1_5, q38_8, q38_9, by decide, by decide +kernel⟩
noncomputable def pX11_numbers_96_zV (m_choices : Int64) (m_vtype : Int32) (m_vd : Int32) (m_sew : Int32) (m_unmasked : Int32) (zO : Nat → Int32) (w_L1 : Int32) (w_zV : Nat → Int32) : Nat → Int32 := (if (fX11_isActive m_unmasked zO w_L1) = (0 : Int32) then (fX11_masked__zV m_choices m_vtype w_zV m_vd m_sew w_L1) else (fX11_put__zV w_zV m_vd m_sew w_L1 (Int32.toInt64 w_L1)))
noncomputable def tX11_numbers_49 (m_vl : Int32) (w_L1 : Int32) (w_zV : Nat → Int32) : Prop := (if m_vl ≤ w_L1 then False else True)
noncomputable def bX11_numbers_49_L1 (m_vl : Int32) (w_L1 : Int32) (w_zV : Nat → Int32) : Int32 := (if m_vl ≤ w_L1 then w_L1 else (w_L1 + (1 : Int32)))
noncomputable def bX11_numbers_49_zV (m_choices : Int64) (m_vl : Int32) (m_vtype : Int32) (m_vd : Int32) (m_sew : Int32) (m_unmasked : Int32) (zO : Nat → Int32) (w_L1 : Int32) (w_zV : Nat → Int32) : Nat → Int32 := (if m_vl ≤ w_L1 then w_zV else (pX11_numbers_96_zV m_choices m_vtype m_vd m_sew m_unmasked zO w_L1 w_zV))
noncomputable def LX11_numbers_49 (m_choices : Int64) (m_vl : Int32) (m_vtype : Int32) (m_vd : Int32) (m_sew : Int32) (m_unmasked : Int32) (zO : Nat → Int32) : Nat → Int32 × (Nat → Int32) → Int32 × (Nat → Int32)
  | 0, s => s
  | n + 1, s => LX11_numbers_49 m_choices m_vl m_vtype m_vd m_sew m_unmasked zO n ((bX11_numbers_49_L1 m_vl s.1 s.2), (bX11_numbers_49_zV m_choices m_vl m_vtype m_vd m_sew m_unmasked zO s.1 s.2))
noncomputable def oX11_numbers_49 (m_choices : Int64) (m_vl : Int32) (m_vtype : Int32) (m_vd : Int32) (m_sew : Int32) (m_unmasked : Int32) (zO : Nat → Int32) (w_L1 : Int32) (w_zV : Nat → Int32) : Prop := (¬ (m_vl ≤ w_L1) → okX11_isActive m_unmasked w_L1) ∧ (¬ (m_vl ≤ w_L1) → ((fX11_isActive m_unmasked zO w_L1) = (0 : Int32)) → okX11_masked m_choices m_vtype w_zV m_vd m_sew w_L1) ∧ (¬ (m_vl ≤ w_L1) → ¬ ((fX11_isActive m_unmasked zO w_L1) = (0 : Int32)) → okX11_put w_zV m_vd m_sew w_L1 (Int32.toInt64 w_L1))
noncomputable def KX11_numbers_49 (m_choices : Int64) (m_vl : Int32) (m_vtype : Int32) (m_vd : Int32) (m_sew : Int32) (m_unmasked : Int32) (zO : Nat → Int32) : Nat → Int32 × (Nat → Int32) → Prop
  | 0, _ => True
  | n + 1, s => (tX11_numbers_49 m_vl s.1 s.2 ∧ oX11_numbers_49 m_choices m_vl m_vtype m_vd m_sew m_unmasked zO s.1 s.2) ∧ KX11_numbers_49 m_choices m_vl m_vtype m_vd m_sew m_unmasked zO n ((bX11_numbers_49_L1 m_vl s.1 s.2), (bX11_numbers_49_zV m_choices m_vl m_vtype m_vd m_sew m_unmasked zO s.1 s.2))
theorem itX11_numbers_49 (m_choices : Int64) (m_vl : Int32) (m_vtype : Int32) (m_vd : Int32) (m_sew : Int32) (m_unmasked : Int32) (zO : Nat → Int32) {b9 : Nat} (h9 : m_vl = nI b9) (hb9 : b9 < 2147483648) : ∀ (n a : Nat) (w_zV : Nat → Int32), a + n ≤ b9 → LX11_numbers_49 m_choices m_vl m_vtype m_vd m_sew m_unmasked zO n (nI a, w_zV) = (nI (a + n), itr (fun k s => ((pX11_numbers_96_zV m_choices m_vtype m_vd m_sew m_unmasked zO (nI k) s))) n a (w_zV))
  | 0, a, w_zV, _ => rfl
  | n + 1, a, w_zV, h => by
    have hc : ¬ (m_vl ≤ nI a) := by rw [h9]; exact nI_ge (by omega) hb9
    have e0 : bX11_numbers_49_L1 m_vl (nI a) w_zV = nI (a + 1) := by rw [bX11_numbers_49_L1, if_neg hc, nI_1]
    have e1 : bX11_numbers_49_zV m_choices m_vl m_vtype m_vd m_sew m_unmasked zO (nI a) w_zV = (pX11_numbers_96_zV m_choices m_vtype m_vd m_sew m_unmasked zO (nI a) w_zV) := by rw [bX11_numbers_49_zV, if_neg hc]
    show LX11_numbers_49 m_choices m_vl m_vtype m_vd m_sew m_unmasked zO n (bX11_numbers_49_L1 m_vl (nI a) w_zV, bX11_numbers_49_zV m_choices m_vl m_vtype m_vd m_sew m_unmasked zO (nI a) w_zV) = _
    rw [e0, e1, itX11_numbers_49 m_choices m_vl m_vtype m_vd m_sew m_unmasked zO h9 hb9 n (a + 1) _ (by omega), show a + (n + 1) = a + 1 + n by omega]; rfl
theorem ktX11_numbers_49 (m_choices : Int64) (m_vl : Int32) (m_vtype : Int32) (m_vd : Int32) (m_sew : Int32) (m_unmasked : Int32) (zO : Nat → Int32) {b9 : Nat} (h9 : m_vl = nI b9) (hb9 : b9 < 2147483648) (I : Nat → (Nat → Int32) → Prop) (hI : ∀ (a : Nat) (w_zV : Nat → Int32), I a (w_zV) → a < b9 → oX11_numbers_49 m_choices m_vl m_vtype m_vd m_sew m_unmasked zO (nI a) w_zV ∧ I (a + 1) ((pX11_numbers_96_zV m_choices m_vtype m_vd m_sew m_unmasked zO (nI a) w_zV))) : ∀ (n a : Nat) (w_zV : Nat → Int32), a + n ≤ b9 → I a (w_zV) → KX11_numbers_49 m_choices m_vl m_vtype m_vd m_sew m_unmasked zO n (nI a, w_zV)
  | 0, a, w_zV, _, _ => True.intro
  | n + 1, a, w_zV, h, hi => by
    have hc : ¬ (m_vl ≤ nI a) := by rw [h9]; exact nI_ge (by omega) hb9
    have e0 : bX11_numbers_49_L1 m_vl (nI a) w_zV = nI (a + 1) := by rw [bX11_numbers_49_L1, if_neg hc, nI_1]
    have e1 : bX11_numbers_49_zV m_choices m_vl m_vtype m_vd m_sew m_unmasked zO (nI a) w_zV = (pX11_numbers_96_zV m_choices m_vtype m_vd m_sew m_unmasked zO (nI a) w_zV) := by rw [bX11_numbers_49_zV, if_neg hc]
    obtain ⟨h1, h2⟩ := hI a w_zV hi (by omega)
    show (tX11_numbers_49 m_vl (nI a) w_zV ∧ oX11_numbers_49 m_choices m_vl m_vtype m_vd m_sew m_unmasked zO (nI a) w_zV) ∧ KX11_numbers_49 m_choices m_vl m_vtype m_vd m_sew m_unmasked zO n (bX11_numbers_49_L1 m_vl (nI a) w_zV, bX11_numbers_49_zV m_choices m_vl m_vtype m_vd m_sew m_unmasked zO (nI a) w_zV)
    refine ⟨⟨by rw [tX11_numbers_49, if_neg hc]; exact True.intro, h1⟩, ?_⟩
    rw [e0, e1]; exact ktX11_numbers_49 m_choices m_vl m_vtype m_vd m_sew m_unmasked zO h9 hb9 I hI n (a + 1) _ (by omega) h2
theorem ntX11_numbers_49 (m_choices : Int64) (m_vl : Int32) (m_vtype : Int32) (m_vd : Int32) (m_sew : Int32) (m_unmasked : Int32) (zO : Nat → Int32) {b9 : Nat} (h9 : m_vl = nI b9) (hb9 : b9 < 2147483648) (w_zV : Nat → Int32) : ¬ tX11_numbers_49 m_vl (nI b9) w_zV := by rw [tX11_numbers_49, if_pos (by rw [h9]; exact Int32.le_refl _)]; exact id
noncomputable def fX11_numbers (m_vd : Int32) (m_vs2 : Int32) (m_sew : Int32) (m_l8 : Int32) (m_unmasked : Int32) : Int32 := (if m_vs2 = (0 : Int32) then (if (fX11_isGroup m_sew m_l8 m_vd m_sew) = (0 : Int32) then (0 : Int32) else (if (fX11_mayMask m_unmasked m_vd) = (0 : Int32) then (0 : Int32) else (1 : Int32))) else (0 : Int32))
noncomputable def fX11_numbers__zV (m_choices : Int64) (m_vl : Int32) (m_vtype : Int32) (m_vstart : Int32) (m_vd : Int32) (m_vs2 : Int32) (m_sew : Int32) (m_l8 : Int32) (m_unmasked : Int32) (zV : Nat → Int32) (zO : Nat → Int32) : Nat → Int32 := (if m_vs2 = (0 : Int32) then (if (fX11_isGroup m_sew m_l8 m_vd m_sew) = (0 : Int32) then zV else (if (fX11_mayMask m_unmasked m_vd) = (0 : Int32) then zV else (if (fX11_goes m_vl m_vstart) = (0 : Int32) then zV else (fX11_tail__zV m_choices m_vtype ((LX11_numbers_49 m_choices m_vl m_vtype m_vd m_sew m_unmasked zO (cnt m_vstart m_vl) (m_vstart, zV)).2) m_vd m_sew m_l8 m_vl)))) else zV)
noncomputable def okX11_numbers (m_choices : Int64) (m_vl : Int32) (m_vtype : Int32) (m_vstart : Int32) (m_vd : Int32) (m_vs2 : Int32) (m_sew : Int32) (m_l8 : Int32) (m_unmasked : Int32) (zV : Nat → Int32) (zO : Nat → Int32) : Prop := ((m_vs2 = (0 : Int32)) → okX11_isGroup m_sew m_l8 m_sew) ∧ ((m_vs2 = (0 : Int32)) → ¬ ((fX11_isGroup m_sew m_l8 m_vd m_sew) = (0 : Int32)) → ¬ ((fX11_mayMask m_unmasked m_vd) = (0 : Int32)) → ¬ ((fX11_goes m_vl m_vstart) = (0 : Int32)) → KX11_numbers_49 m_choices m_vl m_vtype m_vd m_sew m_unmasked zO (cnt m_vstart m_vl) (m_vstart, zV)) ∧ ((m_vs2 = (0 : Int32)) → ¬ ((fX11_isGroup m_sew m_l8 m_vd m_sew) = (0 : Int32)) → ¬ ((fX11_mayMask m_unmasked m_vd) = (0 : Int32)) → ¬ ((fX11_goes m_vl m_vstart) = (0 : Int32)) → ¬ (tX11_numbers_49 m_vl ((LX11_numbers_49 m_choices m_vl m_vtype m_vd m_sew m_unmasked zO (cnt m_vstart m_vl) (m_vstart, zV)).1) ((LX11_numbers_49 m_choices m_vl m_vtype m_vd m_sew m_unmasked zO (cnt m_vstart m_vl) (m_vstart, zV)).2))) ∧ ((m_vs2 = (0 : Int32)) → ¬ ((fX11_isGroup m_sew m_l8 m_vd m_sew) = (0 : Int32)) → ¬ ((fX11_mayMask m_unmasked m_vd) = (0 : Int32)) → ¬ ((fX11_goes m_vl m_vstart) = (0 : Int32)) → (m_vl ≤ (LX11_numbers_49 m_choices m_vl m_vtype m_vd m_sew m_unmasked zO (cnt m_vstart m_vl) (m_vstart, zV)).1) → okX11_tail m_choices m_vtype ((LX11_numbers_49 m_choices m_vl m_vtype m_vd m_sew m_unmasked zO (cnt m_vstart m_vl) (m_vstart, zV)).2) m_vd m_sew m_l8 m_vl) ∧ ((m_vs2 = (0 : Int32)) → ¬ ((fX11_isGroup m_sew m_l8 m_vd m_sew) = (0 : Int32)) → ¬ ((fX11_mayMask m_unmasked m_vd) = (0 : Int32)) → ¬ ((fX11_goes m_vl m_vstart) = (0 : Int32)) → ¬ (m_vl ≤ (LX11_numbers_49 m_choices m_vl m_vtype m_vd m_sew m_unmasked zO (cnt m_vstart m_vl) (m_vstart, zV)).1) → okX11_isActive m_unmasked ((LX11_numbers_49 m_choices m_vl m_vtype m_vd m_sew m_unmasked zO (cnt m_vstart m_vl) (m_vstart, zV)).1)) ∧ ((m_vs2 = (0 : Int32)) → ¬ ((fX11_isGroup m_sew m_l8 m_vd m_sew) = (0 : Int32)) → ¬ ((fX11_mayMask m_unmasked m_vd) = (0 : Int32)) → ¬ ((fX11_goes m_vl m_vstart) = (0 : Int32)) → ¬ (m_vl ≤ (LX11_numbers_49 m_choices m_vl m_vtype m_vd m_sew m_unmasked zO (cnt m_vstart m_vl) (m_vstart, zV)).1) → ((fX11_isActive m_unmasked zO ((LX11_numbers_49 m_choices m_vl m_vtype m_vd m_sew m_unmasked zO (cnt m_vstart m_vl) (m_vstart, zV)).1)) = (0 : Int32)) → okX11_masked m_choices m_vtype ((LX11_numbers_49 m_choices m_vl m_vtype m_vd m_sew m_unmasked zO (cnt m_vstart m_vl) (m_vstart, zV)).2) m_vd m_sew ((LX11_numbers_49 m_choices m_vl m_vtype m_vd m_sew m_unmasked zO (cnt m_vstart m_vl) (m_vstart, zV)).1)) ∧ ((m_vs2 = (0 : Int32)) → ¬ ((fX11_isGroup m_sew m_l8 m_vd m_sew) = (0 : Int32)) → ¬ ((fX11_mayMask m_unmasked m_vd) = (0 : Int32)) → ¬ ((fX11_goes m_vl m_vstart) = (0 : Int32)) → ¬ (m_vl ≤ (LX11_numbers_49 m_choices m_vl m_vtype m_vd m_sew m_unmasked zO (cnt m_vstart m_vl) (m_vstart, zV)).1) → ¬ ((fX11_isActive m_unmasked zO ((LX11_numbers_49 m_choices m_vl m_vtype m_vd m_sew m_unmasked zO (cnt m_vstart m_vl) (m_vstart, zV)).1)) = (0 : Int32)) → okX11_put ((LX11_numbers_49 m_choices m_vl m_vtype m_vd m_sew m_unmasked zO (cnt m_vstart m_vl) (m_vstart, zV)).2) m_vd m_sew ((LX11_numbers_49 m_choices m_vl m_vtype m_vd m_sew m_unmasked zO (cnt m_vstart m_vl) (m_vstart, zV)).1) (Int32.toInt64 ((LX11_numbers_49 m_choices m_vl m_vtype m_vd m_sew m_unmasked zO (cnt m_vstart m_vl) (m_vstart, zV)).1)))
theorem zX11_numbers (m_vd : Int32) (m_vs2 : Int32) (m_sew : Int32) (m_l8 : Int32) (m_unmasked : Int32) : narrow .boolean (.int (fX11_numbers m_vd m_vs2 m_sew m_l8 m_unmasked)) = .int (fX11_numbers m_vd m_vs2 m_sew m_l8 m_unmasked) := by unfold fX11_numbers; exact (kzi (kzi rfl (kzi rfl rfl)) rfl)
set_option maxRecDepth 100000 in
set_option maxHeartbeats 4000000 in
theorem kX11_numbers (l : Launch) (D : va_G) (kI kZ : ClassId) (b_m : Nat) (b_zX : Nat) (b_zV : Nat) (b_zO : Nat) (m_thrown : Int32) (m_memory : Nat) (m_shut : Nat) (m_choices : Int64) (m_vl : Int32) (m_vtype : Int32) (m_vstart : Int32) (m_vxrm : Int32) (m_vxsat : Int32) (m_done : Int32) (m_illegal : Int32) (m_traps : Int32) (m_trapAddress : Int32) (m_word : Int32) (m_vd : Int32) (m_vs1 : Int32) (m_vs2 : Int32) (m_f3 : Int32) (m_f6 : Int32) (m_sew : Int32) (m_l8 : Int32) (m_unmasked : Int32) (zX : Nat → Int32) (zV : Nat → Int32) (zO : Nat → Int32) (hok : okX11_numbers m_choices m_vl m_vtype m_vstart m_vd m_vs2 m_sew m_l8 m_unmasked zV zO) : kM l yX11_numbers cX11_numbers 2 (some .boolean) 4 63 0 0 D [(kI, .int), (kZ, .boolean)] [.ref b_m] [(b_m, .inr (10, [.int m_thrown, .ref b_zX, .ref b_zV, .ref b_zO, .ref m_memory, .ref m_shut, .long m_choices, .int m_vl, .int m_vtype, .int m_vstart, .int m_vxrm, .int m_vxsat, .int m_done, .int m_illegal, .int m_traps, .int m_trapAddress, .int m_word, .int m_vd, .int m_vs1, .int m_vs2, .int m_f3, .int m_f6, .int m_sew, .int m_l8, .int m_unmasked])), (b_zX, .inl (kI, 32, .inl zX)), (b_zV, .inl (kI, 512, .inl zV)), (b_zO, .inl (kI, 512, .inl zO))] (some (.int (fX11_numbers m_vd m_vs2 m_sew m_l8 m_unmasked))) [(b_m, .inr (10, [.int m_thrown, .ref b_zX, .ref b_zV, .ref b_zO, .ref m_memory, .ref m_shut, .long m_choices, .int m_vl, .int m_vtype, .int m_vstart, .int m_vxrm, .int m_vxsat, .int m_done, .int m_illegal, .int m_traps, .int m_trapAddress, .int m_word, .int m_vd, .int m_vs1, .int m_vs2, .int m_f3, .int m_f6, .int m_sew, .int m_l8, .int m_unmasked])), (b_zX, .inl (kI, 32, .inl zX)), (b_zV, .inl (kI, 512, .inl (fX11_numbers__zV m_choices m_vl m_vtype m_vstart m_vd m_vs2 m_sew m_l8 m_unmasked zV zO))), (b_zO, .inl (kI, 512, .inl zO))] := by
  refine kM.of (by decide) rfl ?_
  intro p e R s m args below meth c A X _ _ hRt hLk
  refine k_sub [0] (lv' := [(0, .ref b_m)]) rfl ?_
  unfold okX11_numbers at hok
  refine k_aload_n X dX11_numbers_0 rfl 0 rfl rfl ?_
  refine k_get X i_wsX110 0 19 q27_6 rfl rfl rfl rfl rfl dX11_numbers_1 rfl ?_
  refine k_if_ne (tgt := 33) X dX11_numbers_4 (by decide) rfl (fun c1 => ?_) (fun c1 => ?_)
  · skip
    refine k_aload_n X dX11_numbers_7 rfl 0 rfl rfl ?_
    refine k_aload_n X dX11_numbers_8 rfl 0 rfl rfl ?_
    refine k_get X i_wsX110 0 17 q27_3 rfl rfl rfl rfl rfl dX11_numbers_9 rfl ?_
    refine k_aload_n X dX11_numbers_12 rfl 0 rfl rfl ?_
    refine k_get X i_wsX110 0 22 q27_9 rfl rfl rfl rfl rfl dX11_numbers_13 rfl ?_
    refine k_cV1 (st := []) (ws' := [(b_m, .inr (10, [.int m_thrown, .ref b_zX, .ref b_zV, .ref b_zO, .ref m_memory, .ref m_shut, .long m_choices, .int m_vl, .int m_vtype, .int m_vstart, .int m_vxrm, .int m_vxsat, .int m_done, .int m_illegal, .int m_traps, .int m_trapAddress, .int m_word, .int m_vd, .int m_vs1, .int m_vs2, .int m_f3, .int m_f6, .int m_sew, .int m_l8, .int m_unmasked])), (b_zX, .inl (kI, 32, .inl zX)), (b_zV, .inl (kI, 512, .inl zV)), (b_zO, .inl (kI, 512, .inl zO))]) (wr := [(b_zX, .inl (kI, 32, .inl zX)), (b_zV, .inl (kI, 512, .inl zV)), (b_zO, .inl (kI, 512, .inl zO))]) (ci := 10) (q9 := 0) X [.int m_vd, .int m_sew] 0 [0] [1, 2, 3] [3, 0, 1, 2] (kX11_isGroup l D kI kZ b_m m_thrown b_zX b_zV b_zO m_memory m_shut m_choices m_vl m_vtype m_vstart m_vxrm m_vxsat m_done m_illegal m_traps m_trapAddress m_word m_vd m_vs1 m_vs2 m_f3 m_f6 m_sew m_l8 m_unmasked m_vd m_sew (hok.1 c1)) vX11_isGroup q30_1 dX11_numbers_16 rfl rfl rfl rfl rfl rfl rfl rfl rfl rfl rfl rfl rfl rfl rfl ?_
    refine k_if_eq (tgt := 33) X dX11_numbers_19 (by decide) rfl (fun c2 => ?_) (fun c2 => ?_)
    · skip
      refine k_iconst X dX11_numbers_33 kc_i_0 rfl ?_
      have e11 : (fX11_numbers m_vd m_vs2 m_sew m_l8 m_unmasked) = (0 : Int32) := by rw [fX11_numbers, if_pos c1, if_pos c2]
      have e12 : (fX11_numbers__zV m_choices m_vl m_vtype m_vstart m_vd m_vs2 m_sew m_l8 m_unmasked zV zO) = zV := by rw [fX11_numbers__zV, if_pos c1, if_pos c2]
      exact k_zret9 X hRt hLk rfl e11.symm (by rw [e12]) dX11_numbers_34
    refine k_aload_n X dX11_numbers_22 rfl 0 rfl rfl ?_
    refine k_aload_n X dX11_numbers_23 rfl 0 rfl rfl ?_
    refine k_get X i_wsX110 0 17 q27_3 rfl rfl rfl rfl rfl dX11_numbers_24 rfl ?_
    refine k_cV1 (st := []) (ws' := [(b_m, .inr (10, [.int m_thrown, .ref b_zX, .ref b_zV, .ref b_zO, .ref m_memory, .ref m_shut, .long m_choices, .int m_vl, .int m_vtype, .int m_vstart, .int m_vxrm, .int m_vxsat, .int m_done, .int m_illegal, .int m_traps, .int m_trapAddress, .int m_word, .int m_vd, .int m_vs1, .int m_vs2, .int m_f3, .int m_f6, .int m_sew, .int m_l8, .int m_unmasked])), (b_zX, .inl (kI, 32, .inl zX)), (b_zV, .inl (kI, 512, .inl zV)), (b_zO, .inl (kI, 512, .inl zO))]) (wr := [(b_zX, .inl (kI, 32, .inl zX)), (b_zV, .inl (kI, 512, .inl zV)), (b_zO, .inl (kI, 512, .inl zO))]) (ci := 10) (q9 := 0) X [.int m_vd] 0 [0] [1, 2, 3] [3, 0, 1, 2] (kX11_mayMask l D kI kZ b_m m_thrown b_zX b_zV b_zO m_memory m_shut m_choices m_vl m_vtype m_vstart m_vxrm m_vxsat m_done m_illegal m_traps m_trapAddress m_word m_vd m_vs1 m_vs2 m_f3 m_f6 m_sew m_l8 m_unmasked m_vd) vX11_mayMask q30_16 dX11_numbers_27 rfl rfl rfl rfl rfl rfl rfl rfl rfl rfl rfl rfl rfl rfl rfl ?_
    refine k_if_ne (tgt := 35) X dX11_numbers_30 (by decide) rfl (fun c3 => ?_) (fun c3 => ?_)
    · skip
      refine k_iconst X dX11_numbers_33 kc_i_0 rfl ?_
      have e13 : (fX11_numbers m_vd m_vs2 m_sew m_l8 m_unmasked) = (0 : Int32) := by rw [fX11_numbers, if_pos c1, if_neg c2, if_pos c3]
      have e14 : (fX11_numbers__zV m_choices m_vl m_vtype m_vstart m_vd m_vs2 m_sew m_l8 m_unmasked zV zO) = zV := by rw [fX11_numbers__zV, if_pos c1, if_neg c2, if_pos c3]
      exact k_zret9 X hRt hLk rfl e13.symm (by rw [e14]) dX11_numbers_34
    refine k_aload_n X dX11_numbers_35 rfl 0 rfl rfl ?_
    refine k_cV1 (st := []) (ws' := [(b_m, .inr (10, [.int m_thrown, .ref b_zX, .ref b_zV, .ref b_zO, .ref m_memory, .ref m_shut, .long m_choices, .int m_vl, .int m_vtype, .int m_vstart, .int m_vxrm, .int m_vxsat, .int m_done, .int m_illegal, .int m_traps, .int m_trapAddress, .int m_word, .int m_vd, .int m_vs1, .int m_vs2, .int m_f3, .int m_f6, .int m_sew, .int m_l8, .int m_unmasked])), (b_zX, .inl (kI, 32, .inl zX)), (b_zV, .inl (kI, 512, .inl zV)), (b_zO, .inl (kI, 512, .inl zO))]) (wr := [(b_zX, .inl (kI, 32, .inl zX)), (b_zV, .inl (kI, 512, .inl zV)), (b_zO, .inl (kI, 512, .inl zO))]) (ci := 10) (q9 := 0) X [] 0 [0] [1, 2, 3] [3, 0, 1, 2] (kX11_goes l D kI kZ b_m m_thrown b_zX b_zV b_zO m_memory m_shut m_choices m_vl m_vtype m_vstart m_vxrm m_vxsat m_done m_illegal m_traps m_trapAddress m_word m_vd m_vs1 m_vs2 m_f3 m_f6 m_sew m_l8 m_unmasked) vX11_goes q31_2 dX11_numbers_36 rfl rfl rfl rfl rfl rfl rfl rfl rfl rfl rfl rfl rfl rfl rfl ?_
    refine k_if_ne (tgt := 44) X dX11_numbers_39 (by decide) rfl (fun c4 => ?_) (fun c4 => ?_)
    · skip
      refine k_iconst X dX11_numbers_42 kc_i_1 rfl ?_
      have e15 : (fX11_numbers m_vd m_vs2 m_sew m_l8 m_unmasked) = (1 : Int32) := by rw [fX11_numbers, if_pos c1, if_neg c2, if_neg c3]
      have e16 : (fX11_numbers__zV m_choices m_vl m_vtype m_vstart m_vd m_vs2 m_sew m_l8 m_unmasked zV zO) = zV := by rw [fX11_numbers__zV, if_pos c1, if_neg c2, if_neg c3, if_pos c4]
      exact k_zret9 X hRt hLk rfl e15.symm (by rw [e16]) dX11_numbers_43
    refine k_aload_n X dX11_numbers_44 rfl 0 rfl rfl ?_
    refine k_get X i_wsX110 0 9 q27_14 rfl rfl rfl rfl rfl dX11_numbers_45 rfl ?_
    refine k_istore_n (lv' := [(1, .int m_vstart), (0, .ref b_m)]) X dX11_numbers_48 rfl rfl rfl rfl ?_
    refine k_sub [1, 0] (lv' := [(0, .ref b_m), (1, .int m_vstart)]) rfl ?_
    refine k_loop (KX11_numbers_49 m_choices m_vl m_vtype m_vd m_sew m_unmasked zO) (LX11_numbers_49 m_choices m_vl m_vtype m_vd m_sew m_unmasked zO) (fun s9 => (bX11_numbers_49_L1 m_vl s9.1 s9.2, bX11_numbers_49_zV m_choices m_vl m_vtype m_vd m_sew m_unmasked zO s9.1 s9.2)) (fun s9 => tX11_numbers_49 m_vl s9.1 s9.2 ∧ oX11_numbers_49 m_choices m_vl m_vtype m_vd m_sew m_unmasked zO s9.1 s9.2) (fun s9 => [(b_m, .inr (10, [.int m_thrown, .ref b_zX, .ref b_zV, .ref b_zO, .ref m_memory, .ref m_shut, .long m_choices, .int m_vl, .int m_vtype, .int m_vstart, .int m_vxrm, .int m_vxsat, .int m_done, .int m_illegal, .int m_traps, .int m_trapAddress, .int m_word, .int m_vd, .int m_vs1, .int m_vs2, .int m_f3, .int m_f6, .int m_sew, .int m_l8, .int m_unmasked])), (b_zX, .inl (kI, 32, .inl zX)), (b_zV, .inl (kI, 512, .inl s9.2)), (b_zO, .inl (kI, 512, .inl zO))]) (fun s9 => [(0, .ref b_m), (1, .int s9.1)]) 49 (fun _ => rfl) (fun _ _ => rfl) (fun _ _ h => h) ?_ (cnt m_vstart m_vl) (m_vstart, zV) (hok.2.1 c1 c2 c3 c4) ?_
    · rintro ⟨w_L1, w_zV⟩ ⟨hlat, hob⟩ g0
      try dsimp only at hlat hob g0 ⊢
      unfold oX11_numbers_49 at hob
      refine k_iload_n X dX11_numbers_49 rfl 1 rfl rfl ?_
      refine k_aload_n X dX11_numbers_50 rfl 0 rfl rfl ?_
      refine k_get X i_wsX110 0 7 q28_7 rfl rfl rfl rfl rfl dX11_numbers_51 rfl ?_
      refine k_icmp_ge (tgt := 102) X dX11_numbers_54 (by decide) rfl (fun c5 => ?_) (fun c5 => ?_)
      · skip
        exact absurd hlat (by rw [tX11_numbers_49, if_pos c5]; exact id)
      refine k_aload_n X dX11_numbers_57 rfl 0 rfl rfl ?_
      refine k_iload_n X dX11_numbers_58 rfl 1 rfl rfl ?_
      refine k_cV1 (st := []) (ws' := [(b_m, .inr (10, [.int m_thrown, .ref b_zX, .ref b_zV, .ref b_zO, .ref m_memory, .ref m_shut, .long m_choices, .int m_vl, .int m_vtype, .int m_vstart, .int m_vxrm, .int m_vxsat, .int m_done, .int m_illegal, .int m_traps, .int m_trapAddress, .int m_word, .int m_vd, .int m_vs1, .int m_vs2, .int m_f3, .int m_f6, .int m_sew, .int m_l8, .int m_unmasked])), (b_zX, .inl (kI, 32, .inl zX)), (b_zV, .inl (kI, 512, .inl w_zV)), (b_zO, .inl (kI, 512, .inl zO))]) (wr := [(b_zX, .inl (kI, 32, .inl zX)), (b_zV, .inl (kI, 512, .inl w_zV))]) (ci := 10) (q9 := 0) X [.int w_L1] 0 [0, 3] [1, 2] [2, 0, 1, 3] (kX11_isActive l D kI kZ b_m b_zO m_thrown b_zX b_zV m_memory m_shut m_choices m_vl m_vtype m_vstart m_vxrm m_vxsat m_done m_illegal m_traps m_trapAddress m_word m_vd m_vs1 m_vs2 m_f3 m_f6 m_sew m_l8 m_unmasked zO w_L1 (hob.1 c5)) vX11_isActive q31_6 dX11_numbers_59 rfl rfl rfl rfl rfl rfl rfl rfl rfl rfl rfl rfl rfl rfl rfl ?_
      refine k_mid2 [(b_m, .inr (10, [.int m_thrown, .ref b_zX, .ref b_zV, .ref b_zO, .ref m_memory, .ref m_shut, .long m_choices, .int m_vl, .int m_vtype, .int m_vstart, .int m_vxrm, .int m_vxsat, .int m_done, .int m_illegal, .int m_traps, .int m_trapAddress, .int m_word, .int m_vd, .int m_vs1, .int m_vs2, .int m_f3, .int m_f6, .int m_sew, .int m_l8, .int m_unmasked])), (b_zX, .inl (kI, 32, .inl zX)), (b_zV, .inl (kI, 512, .inl (pX11_numbers_96_zV m_choices m_vtype m_vd m_sew m_unmasked zO w_L1 w_zV))), (b_zO, .inl (kI, 512, .inl zO))] [(0, .ref b_m), (1, .int w_L1)] [] 96 (fun hJ7 => ?_) ?_
      · skip
        refine k_if_eq (tgt := 83) X dX11_numbers_62 (by decide) rfl (fun c6 => ?_) (fun c6 => ?_)
        · skip
          refine k_aload_n X dX11_numbers_83 rfl 0 rfl rfl ?_
          refine k_aload_n X dX11_numbers_84 rfl 0 rfl rfl ?_
          refine k_get X i_wsX110 0 17 q27_3 rfl rfl rfl rfl rfl dX11_numbers_85 rfl ?_
          refine k_aload_n X dX11_numbers_88 rfl 0 rfl rfl ?_
          refine k_get X i_wsX110 0 22 q27_9 rfl rfl rfl rfl rfl dX11_numbers_89 rfl ?_
          refine k_iload_n X dX11_numbers_92 rfl 1 rfl rfl ?_
          refine k_cV0 (st := []) (ws' := [(b_m, .inr (10, [.int m_thrown, .ref b_zX, .ref b_zV, .ref b_zO, .ref m_memory, .ref m_shut, .long m_choices, .int m_vl, .int m_vtype, .int m_vstart, .int m_vxrm, .int m_vxsat, .int m_done, .int m_illegal, .int m_traps, .int m_trapAddress, .int m_word, .int m_vd, .int m_vs1, .int m_vs2, .int m_f3, .int m_f6, .int m_sew, .int m_l8, .int m_unmasked])), (b_zX, .inl (kI, 32, .inl zX)), (b_zV, .inl (kI, 512, .inl (fX11_masked__zV m_choices m_vtype w_zV m_vd m_sew w_L1))), (b_zO, .inl (kI, 512, .inl zO))]) (wr := [(b_zX, .inl (kI, 32, .inl zX)), (b_zO, .inl (kI, 512, .inl zO))]) (ci := 10) (q9 := 0) X [.int m_vd, .int m_sew, .int w_L1] 0 [0, 2] [1, 3] [2, 0, 3, 1] (kX11_masked l D kI kZ b_m b_zV m_thrown b_zX b_zO m_memory m_shut m_choices m_vl m_vtype m_vstart m_vxrm m_vxsat m_done m_illegal m_traps m_trapAddress m_word m_vd m_vs1 m_vs2 m_f3 m_f6 m_sew m_l8 m_unmasked w_zV m_vd m_sew w_L1 (hob.2.1 c5 c6)) vX11_masked q31_14 dX11_numbers_93 rfl rfl rfl rfl rfl rfl rfl rfl rfl rfl rfl rfl rfl rfl rfl ?_
          have e17 : (pX11_numbers_96_zV m_choices m_vtype m_vd m_sew m_unmasked zO w_L1 w_zV) = (fX11_masked__zV m_choices m_vtype w_zV m_vd m_sew w_L1) := by rw [pX11_numbers_96_zV, if_pos c6]
          rw [e17] at hJ7
          exact k_sub [0, 1] rfl hJ7
        refine k_aload_n X dX11_numbers_65 rfl 0 rfl rfl ?_
        refine k_aload_n X dX11_numbers_66 rfl 0 rfl rfl ?_
        refine k_get X i_wsX110 0 17 q27_3 rfl rfl rfl rfl rfl dX11_numbers_67 rfl ?_
        refine k_aload_n X dX11_numbers_70 rfl 0 rfl rfl ?_
        refine k_get X i_wsX110 0 22 q27_9 rfl rfl rfl rfl rfl dX11_numbers_71 rfl ?_
        refine k_iload_n X dX11_numbers_74 rfl 1 rfl rfl ?_
        refine k_iload_n X dX11_numbers_75 rfl 1 rfl rfl ?_
        refine k_i2l X dX11_numbers_76 rfl ?_
        refine k_cV0 (st := []) (ws' := [(b_m, .inr (10, [.int m_thrown, .ref b_zX, .ref b_zV, .ref b_zO, .ref m_memory, .ref m_shut, .long m_choices, .int m_vl, .int m_vtype, .int m_vstart, .int m_vxrm, .int m_vxsat, .int m_done, .int m_illegal, .int m_traps, .int m_trapAddress, .int m_word, .int m_vd, .int m_vs1, .int m_vs2, .int m_f3, .int m_f6, .int m_sew, .int m_l8, .int m_unmasked])), (b_zX, .inl (kI, 32, .inl zX)), (b_zV, .inl (kI, 512, .inl (fX11_put__zV w_zV m_vd m_sew w_L1 (Int32.toInt64 w_L1)))), (b_zO, .inl (kI, 512, .inl zO))]) (wr := [(b_zX, .inl (kI, 32, .inl zX)), (b_zO, .inl (kI, 512, .inl zO))]) (ci := 10) (q9 := 0) X [.int m_vd, .int m_sew, .int w_L1, .long (Int32.toInt64 w_L1)] 0 [0, 2] [1, 3] [2, 0, 3, 1] (kX11_put l D kI kZ b_m b_zV m_thrown b_zX b_zO m_memory m_shut m_choices m_vl m_vtype m_vstart m_vxrm m_vxsat m_done m_illegal m_traps m_trapAddress m_word m_vd m_vs1 m_vs2 m_f3 m_f6 m_sew m_l8 m_unmasked w_zV m_vd m_sew w_L1 (Int32.toInt64 w_L1) (hob.2.2 c5 c6)) vX11_put q32_13 dX11_numbers_77 rfl rfl rfl rfl rfl rfl rfl rfl rfl rfl rfl rfl rfl rfl rfl ?_
        refine k_goto (tgt := 96) X dX11_numbers_80 (by decide) ?_
        have e18 : (pX11_numbers_96_zV m_choices m_vtype m_vd m_sew m_unmasked zO w_L1 w_zV) = (fX11_put__zV w_zV m_vd m_sew w_L1 (Int32.toInt64 w_L1)) := by rw [pX11_numbers_96_zV, if_neg c6]
        rw [e18] at hJ7
        exact k_sub [0, 1] rfl hJ7
      refine k_iinc (lv' := [(1, .int (w_L1 + (1 : Int32))), (0, .ref b_m)]) X dX11_numbers_96 1 rfl kc_i_1 rfl rfl rfl ?_
      refine k_goto (tgt := 49) X dX11_numbers_99 (by decide) ?_
      have e19 : bX11_numbers_49_L1 m_vl w_L1 w_zV = (w_L1 + (1 : Int32)) := by rw [bX11_numbers_49_L1, if_neg c5]
      rw [e19] at g0
      have e20 : bX11_numbers_49_zV m_choices m_vl m_vtype m_vd m_sew m_unmasked zO w_L1 w_zV = (pX11_numbers_96_zV m_choices m_vtype m_vd m_sew m_unmasked zO w_L1 w_zV) := by rw [bX11_numbers_49_zV, if_neg c5]
      rw [e20] at g0
      exact k_sub [1, 0] rfl g0
    try dsimp only
    refine k_iload_n X dX11_numbers_49 rfl 1 rfl rfl ?_
    refine k_aload_n X dX11_numbers_50 rfl 0 rfl rfl ?_
    refine k_get X i_wsX110 0 7 q28_7 rfl rfl rfl rfl rfl dX11_numbers_51 rfl ?_
    refine k_icmp_ge (tgt := 102) X dX11_numbers_54 (by decide) rfl (fun c8 => ?_) (fun c8 => ?_)
    · skip
      refine k_aload_n X dX11_numbers_102 rfl 0 rfl rfl ?_
      refine k_aload_n X dX11_numbers_103 rfl 0 rfl rfl ?_
      refine k_get X i_wsX110 0 17 q27_3 rfl rfl rfl rfl rfl dX11_numbers_104 rfl ?_
      refine k_aload_n X dX11_numbers_107 rfl 0 rfl rfl ?_
      refine k_get X i_wsX110 0 22 q27_9 rfl rfl rfl rfl rfl dX11_numbers_108 rfl ?_
      refine k_aload_n X dX11_numbers_111 rfl 0 rfl rfl ?_
      refine k_get X i_wsX110 0 23 q27_10 rfl rfl rfl rfl rfl dX11_numbers_112 rfl ?_
      refine k_aload_n X dX11_numbers_115 rfl 0 rfl rfl ?_
      refine k_get X i_wsX110 0 7 q28_7 rfl rfl rfl rfl rfl dX11_numbers_116 rfl ?_
      refine k_cV0 (st := []) (ws' := [(b_m, .inr (10, [.int m_thrown, .ref b_zX, .ref b_zV, .ref b_zO, .ref m_memory, .ref m_shut, .long m_choices, .int m_vl, .int m_vtype, .int m_vstart, .int m_vxrm, .int m_vxsat, .int m_done, .int m_illegal, .int m_traps, .int m_trapAddress, .int m_word, .int m_vd, .int m_vs1, .int m_vs2, .int m_f3, .int m_f6, .int m_sew, .int m_l8, .int m_unmasked])), (b_zX, .inl (kI, 32, .inl zX)), (b_zV, .inl (kI, 512, .inl (fX11_tail__zV m_choices m_vtype ((LX11_numbers_49 m_choices m_vl m_vtype m_vd m_sew m_unmasked zO (cnt m_vstart m_vl) (m_vstart, zV)).2) m_vd m_sew m_l8 m_vl))), (b_zO, .inl (kI, 512, .inl zO))]) (wr := [(b_zX, .inl (kI, 32, .inl zX)), (b_zO, .inl (kI, 512, .inl zO))]) (ci := 10) (q9 := 0) X [.int m_vd, .int m_sew, .int m_l8, .int m_vl] 0 [0, 2] [1, 3] [2, 0, 3, 1] (kX11_tail l D kI kZ b_m b_zV m_thrown b_zX b_zO m_memory m_shut m_choices m_vl m_vtype m_vstart m_vxrm m_vxsat m_done m_illegal m_traps m_trapAddress m_word m_vd m_vs1 m_vs2 m_f3 m_f6 m_sew m_l8 m_unmasked ((LX11_numbers_49 m_choices m_vl m_vtype m_vd m_sew m_unmasked zO (cnt m_vstart m_vl) (m_vstart, zV)).2) m_vd m_sew m_l8 m_vl (hok.2.2.2.1 c1 c2 c3 c4 c8)) vX11_tail q34_11 dX11_numbers_119 rfl rfl rfl rfl rfl rfl rfl rfl rfl rfl rfl rfl rfl rfl rfl ?_
      refine k_iconst X dX11_numbers_122 kc_i_1 rfl ?_
      have e21 : (fX11_numbers m_vd m_vs2 m_sew m_l8 m_unmasked) = (1 : Int32) := by rw [fX11_numbers, if_pos c1, if_neg c2, if_neg c3]
      have e22 : (fX11_numbers__zV m_choices m_vl m_vtype m_vstart m_vd m_vs2 m_sew m_l8 m_unmasked zV zO) = (fX11_tail__zV m_choices m_vtype ((LX11_numbers_49 m_choices m_vl m_vtype m_vd m_sew m_unmasked zO (cnt m_vstart m_vl) (m_vstart, zV)).2) m_vd m_sew m_l8 m_vl) := by rw [fX11_numbers__zV, if_pos c1, if_neg c2, if_neg c3, if_neg c4]
      exact k_zret9 X hRt hLk rfl e21.symm (by rw [e22]) dX11_numbers_123
    refine k_aload_n X dX11_numbers_57 rfl 0 rfl rfl ?_
    refine k_iload_n X dX11_numbers_58 rfl 1 rfl rfl ?_
    refine k_cV1 (st := []) (ws' := [(b_m, .inr (10, [.int m_thrown, .ref b_zX, .ref b_zV, .ref b_zO, .ref m_memory, .ref m_shut, .long m_choices, .int m_vl, .int m_vtype, .int m_vstart, .int m_vxrm, .int m_vxsat, .int m_done, .int m_illegal, .int m_traps, .int m_trapAddress, .int m_word, .int m_vd, .int m_vs1, .int m_vs2, .int m_f3, .int m_f6, .int m_sew, .int m_l8, .int m_unmasked])), (b_zX, .inl (kI, 32, .inl zX)), (b_zV, .inl (kI, 512, .inl ((LX11_numbers_49 m_choices m_vl m_vtype m_vd m_sew m_unmasked zO (cnt m_vstart m_vl) (m_vstart, zV)).2))), (b_zO, .inl (kI, 512, .inl zO))]) (wr := [(b_zX, .inl (kI, 32, .inl zX)), (b_zV, .inl (kI, 512, .inl ((LX11_numbers_49 m_choices m_vl m_vtype m_vd m_sew m_unmasked zO (cnt m_vstart m_vl) (m_vstart, zV)).2)))]) (ci := 10) (q9 := 0) X [.int ((LX11_numbers_49 m_choices m_vl m_vtype m_vd m_sew m_unmasked zO (cnt m_vstart m_vl) (m_vstart, zV)).1)] 0 [0, 3] [1, 2] [2, 0, 1, 3] (kX11_isActive l D kI kZ b_m b_zO m_thrown b_zX b_zV m_memory m_shut m_choices m_vl m_vtype m_vstart m_vxrm m_vxsat m_done m_illegal m_traps m_trapAddress m_word m_vd m_vs1 m_vs2 m_f3 m_f6 m_sew m_l8 m_unmasked zO ((LX11_numbers_49 m_choices m_vl m_vtype m_vd m_sew m_unmasked zO (cnt m_vstart m_vl) (m_vstart, zV)).1) (hok.2.2.2.2.1 c1 c2 c3 c4 c8)) vX11_isActive q31_6 dX11_numbers_59 rfl rfl rfl rfl rfl rfl rfl rfl rfl rfl rfl rfl rfl rfl rfl ?_
    refine k_mid2 [(b_m, .inr (10, [.int m_thrown, .ref b_zX, .ref b_zV, .ref b_zO, .ref m_memory, .ref m_shut, .long m_choices, .int m_vl, .int m_vtype, .int m_vstart, .int m_vxrm, .int m_vxsat, .int m_done, .int m_illegal, .int m_traps, .int m_trapAddress, .int m_word, .int m_vd, .int m_vs1, .int m_vs2, .int m_f3, .int m_f6, .int m_sew, .int m_l8, .int m_unmasked])), (b_zX, .inl (kI, 32, .inl zX)), (b_zV, .inl (kI, 512, .inl (pX11_numbers_96_zV m_choices m_vtype m_vd m_sew m_unmasked zO ((LX11_numbers_49 m_choices m_vl m_vtype m_vd m_sew m_unmasked zO (cnt m_vstart m_vl) (m_vstart, zV)).1) ((LX11_numbers_49 m_choices m_vl m_vtype m_vd m_sew m_unmasked zO (cnt m_vstart m_vl) (m_vstart, zV)).2)))), (b_zO, .inl (kI, 512, .inl zO))] [(0, .ref b_m), (1, .int ((LX11_numbers_49 m_choices m_vl m_vtype m_vd m_sew m_unmasked zO (cnt m_vstart m_vl) (m_vstart, zV)).1))] [] 96 (fun hJ10 => ?_) ?_
    · skip
      refine k_if_eq (tgt := 83) X dX11_numbers_62 (by decide) rfl (fun c9 => ?_) (fun c9 => ?_)
      · skip
        refine k_aload_n X dX11_numbers_83 rfl 0 rfl rfl ?_
        refine k_aload_n X dX11_numbers_84 rfl 0 rfl rfl ?_
        refine k_get X i_wsX110 0 17 q27_3 rfl rfl rfl rfl rfl dX11_numbers_85 rfl ?_
        refine k_aload_n X dX11_numbers_88 rfl 0 rfl rfl ?_
        refine k_get X i_wsX110 0 22 q27_9 rfl rfl rfl rfl rfl dX11_numbers_89 rfl ?_
        refine k_iload_n X dX11_numbers_92 rfl 1 rfl rfl ?_
        refine k_cV0 (st := []) (ws' := [(b_m, .inr (10, [.int m_thrown, .ref b_zX, .ref b_zV, .ref b_zO, .ref m_memory, .ref m_shut, .long m_choices, .int m_vl, .int m_vtype, .int m_vstart, .int m_vxrm, .int m_vxsat, .int m_done, .int m_illegal, .int m_traps, .int m_trapAddress, .int m_word, .int m_vd, .int m_vs1, .int m_vs2, .int m_f3, .int m_f6, .int m_sew, .int m_l8, .int m_unmasked])), (b_zX, .inl (kI, 32, .inl zX)), (b_zV, .inl (kI, 512, .inl (fX11_masked__zV m_choices m_vtype ((LX11_numbers_49 m_choices m_vl m_vtype m_vd m_sew m_unmasked zO (cnt m_vstart m_vl) (m_vstart, zV)).2) m_vd m_sew ((LX11_numbers_49 m_choices m_vl m_vtype m_vd m_sew m_unmasked zO (cnt m_vstart m_vl) (m_vstart, zV)).1)))), (b_zO, .inl (kI, 512, .inl zO))]) (wr := [(b_zX, .inl (kI, 32, .inl zX)), (b_zO, .inl (kI, 512, .inl zO))]) (ci := 10) (q9 := 0) X [.int m_vd, .int m_sew, .int ((LX11_numbers_49 m_choices m_vl m_vtype m_vd m_sew m_unmasked zO (cnt m_vstart m_vl) (m_vstart, zV)).1)] 0 [0, 2] [1, 3] [2, 0, 3, 1] (kX11_masked l D kI kZ b_m b_zV m_thrown b_zX b_zO m_memory m_shut m_choices m_vl m_vtype m_vstart m_vxrm m_vxsat m_done m_illegal m_traps m_trapAddress m_word m_vd m_vs1 m_vs2 m_f3 m_f6 m_sew m_l8 m_unmasked ((LX11_numbers_49 m_choices m_vl m_vtype m_vd m_sew m_unmasked zO (cnt m_vstart m_vl) (m_vstart, zV)).2) m_vd m_sew ((LX11_numbers_49 m_choices m_vl m_vtype m_vd m_sew m_unmasked zO (cnt m_vstart m_vl) (m_vstart, zV)).1) (hok.2.2.2.2.2.1 c1 c2 c3 c4 c8 c9)) vX11_masked q31_14 dX11_numbers_93 rfl rfl rfl rfl rfl rfl rfl rfl rfl rfl rfl rfl rfl rfl rfl ?_
        have e23 : (pX11_numbers_96_zV m_choices m_vtype m_vd m_sew m_unmasked zO ((LX11_numbers_49 m_choices m_vl m_vtype m_vd m_sew m_unmasked zO (cnt m_vstart m_vl) (m_vstart, zV)).1) ((LX11_numbers_49 m_choices m_vl m_vtype m_vd m_sew m_unmasked zO (cnt m_vstart m_vl) (m_vstart, zV)).2)) = (fX11_masked__zV m_choices m_vtype ((LX11_numbers_49 m_choices m_vl m_vtype m_vd m_sew m_unmasked zO (cnt m_vstart m_vl) (m_vstart, zV)).2) m_vd m_sew ((LX11_numbers_49 m_choices m_vl m_vtype m_vd m_sew m_unmasked zO (cnt m_vstart m_vl) (m_vstart, zV)).1)) := by rw [pX11_numbers_96_zV, if_pos c9]
        rw [e23] at hJ10
        exact k_sub [0, 1] rfl hJ10
      refine k_aload_n X dX11_numbers_65 rfl 0 rfl rfl ?_
      refine k_aload_n X dX11_numbers_66 rfl 0 rfl rfl ?_
      refine k_get X i_wsX110 0 17 q27_3 rfl rfl rfl rfl rfl dX11_numbers_67 rfl ?_
      refine k_aload_n X dX11_numbers_70 rfl 0 rfl rfl ?_
      refine k_get X i_wsX110 0 22 q27_9 rfl rfl rfl rfl rfl dX11_numbers_71 rfl ?_
      refine k_iload_n X dX11_numbers_74 rfl 1 rfl rfl ?_
      refine k_iload_n X dX11_numbers_75 rfl 1 rfl rfl ?_
      refine k_i2l X dX11_numbers_76 rfl ?_
      refine k_cV0 (st := []) (ws' := [(b_m, .inr (10, [.int m_thrown, .ref b_zX, .ref b_zV, .ref b_zO, .ref m_memory, .ref m_shut, .long m_choices, .int m_vl, .int m_vtype, .int m_vstart, .int m_vxrm, .int m_vxsat, .int m_done, .int m_illegal, .int m_traps, .int m_trapAddress, .int m_word, .int m_vd, .int m_vs1, .int m_vs2, .int m_f3, .int m_f6, .int m_sew, .int m_l8, .int m_unmasked])), (b_zX, .inl (kI, 32, .inl zX)), (b_zV, .inl (kI, 512, .inl (fX11_put__zV ((LX11_numbers_49 m_choices m_vl m_vtype m_vd m_sew m_unmasked zO (cnt m_vstart m_vl) (m_vstart, zV)).2) m_vd m_sew ((LX11_numbers_49 m_choices m_vl m_vtype m_vd m_sew m_unmasked zO (cnt m_vstart m_vl) (m_vstart, zV)).1) (Int32.toInt64 ((LX11_numbers_49 m_choices m_vl m_vtype m_vd m_sew m_unmasked zO (cnt m_vstart m_vl) (m_vstart, zV)).1))))), (b_zO, .inl (kI, 512, .inl zO))]) (wr := [(b_zX, .inl (kI, 32, .inl zX)), (b_zO, .inl (kI, 512, .inl zO))]) (ci := 10) (q9 := 0) X [.int m_vd, .int m_sew, .int ((LX11_numbers_49 m_choices m_vl m_vtype m_vd m_sew m_unmasked zO (cnt m_vstart m_vl) (m_vstart, zV)).1), .long (Int32.toInt64 ((LX11_numbers_49 m_choices m_vl m_vtype m_vd m_sew m_unmasked zO (cnt m_vstart m_vl) (m_vstart, zV)).1))] 0 [0, 2] [1, 3] [2, 0, 3, 1] (kX11_put l D kI kZ b_m b_zV m_thrown b_zX b_zO m_memory m_shut m_choices m_vl m_vtype m_vstart m_vxrm m_vxsat m_done m_illegal m_traps m_trapAddress m_word m_vd m_vs1 m_vs2 m_f3 m_f6 m_sew m_l8 m_unmasked ((LX11_numbers_49 m_choices m_vl m_vtype m_vd m_sew m_unmasked zO (cnt m_vstart m_vl) (m_vstart, zV)).2) m_vd m_sew ((LX11_numbers_49 m_choices m_vl m_vtype m_vd m_sew m_unmasked zO (cnt m_vstart m_vl) (m_vstart, zV)).1) (Int32.toInt64 ((LX11_numbers_49 m_choices m_vl m_vtype m_vd m_sew m_unmasked zO (cnt m_vstart m_vl) (m_vstart, zV)).1)) (hok.2.2.2.2.2.2 c1 c2 c3 c4 c8 c9)) vX11_put q32_13 dX11_numbers_77 rfl rfl rfl rfl rfl rfl rfl rfl rfl rfl rfl rfl rfl rfl rfl ?_
      refine k_goto (tgt := 96) X dX11_numbers_80 (by decide) ?_
      have e24 : (pX11_numbers_96_zV m_choices m_vtype m_vd m_sew m_unmasked zO ((LX11_numbers_49 m_choices m_vl m_vtype m_vd m_sew m_unmasked zO (cnt m_vstart m_vl) (m_vstart, zV)).1) ((LX11_numbers_49 m_choices m_vl m_vtype m_vd m_sew m_unmasked zO (cnt m_vstart m_vl) (m_vstart, zV)).2)) = (fX11_put__zV ((LX11_numbers_49 m_choices m_vl m_vtype m_vd m_sew m_unmasked zO (cnt m_vstart m_vl) (m_vstart, zV)).2) m_vd m_sew ((LX11_numbers_49 m_choices m_vl m_vtype m_vd m_sew m_unmasked zO (cnt m_vstart m_vl) (m_vstart, zV)).1) (Int32.toInt64 ((LX11_numbers_49 m_choices m_vl m_vtype m_vd m_sew m_unmasked zO (cnt m_vstart m_vl) (m_vstart, zV)).1))) := by rw [pX11_numbers_96_zV, if_neg c9]
      rw [e24] at hJ10
      exact k_sub [0, 1] rfl hJ10
    refine k_iinc (lv' := [(1, .int ((LX11_numbers_49 m_choices m_vl m_vtype m_vd m_sew m_unmasked zO (cnt m_vstart m_vl) (m_vstart, zV)).1 + (1 : Int32))), (0, .ref b_m)]) X dX11_numbers_96 1 rfl kc_i_1 rfl rfl rfl ?_
    refine k_goto (tgt := 49) X dX11_numbers_99 (by decide) ?_
    exact absurd (show tX11_numbers_49 m_vl ((LX11_numbers_49 m_choices m_vl m_vtype m_vd m_sew m_unmasked zO (cnt m_vstart m_vl) (m_vstart, zV)).1) ((LX11_numbers_49 m_choices m_vl m_vtype m_vd m_sew m_unmasked zO (cnt m_vstart m_vl) (m_vstart, zV)).2) from by rw [tX11_numbers_49, if_neg c8]; exact True.intro) (hok.2.2.1 c1 c2 c3 c4)
  refine k_iconst X dX11_numbers_33 kc_i_0 rfl ?_
  have e25 : (fX11_numbers m_vd m_vs2 m_sew m_l8 m_unmasked) = (0 : Int32) := by rw [fX11_numbers, if_neg c1]
  have e26 : (fX11_numbers__zV m_choices m_vl m_vtype m_vstart m_vd m_vs2 m_sew m_l8 m_unmasked zV zO) = zV := by rw [fX11_numbers__zV, if_neg c1]
  exact k_zret9 X hRt hLk rfl e25.symm (by rw [e26]) dX11_numbers_34
theorem vX11_numbers : kVi yX11_numbers cX11_numbers 2 (some .boolean) 0 := ⟨q38_14, q1_5, q38_12, q38_13, by decide, by decide +kernel⟩
noncomputable def eX11_toX_37 (m_vs2 : Int32) (m_sew : Int32) (zO : Nat → Int32) : Int32 := (Int64.toInt32 (fX11_signed (fX11_get zO m_vs2 m_sew (0 : Int32)) m_sew))
noncomputable def pX11_toX_116_L3 (w_L4 : Int32) (w_L3 : Int32) : Int32 := (if (0 : Int32) ≤ w_L3 then w_L3 else w_L4)
noncomputable def pX11_toX_119_L2 (m_vs2 : Int32) (m_unmasked : Int32) (zO : Nat → Int32) (w_L4 : Int32) (w_L2 : Int32) : Int32 := (if (fX11_isActive m_unmasked zO w_L4) = (0 : Int32) then w_L2 else (if (fX11_bit zO m_vs2 w_L4) = (0 : Int32) then w_L2 else (w_L2 + (1 : Int32))))
noncomputable def pX11_toX_119_L3 (m_vs2 : Int32) (m_unmasked : Int32) (zO : Nat → Int32) (w_L4 : Int32) (w_L3 : Int32) : Int32 := (if (fX11_isActive m_unmasked zO w_L4) = (0 : Int32) then w_L3 else (if (fX11_bit zO m_vs2 w_L4) = (0 : Int32) then w_L3 else (pX11_toX_116_L3 w_L4 w_L3)))
noncomputable def tX11_toX_75 (m_vl : Int32) (w_L4 : Int32) (w_L2 : Int32) (w_L3 : Int32) : Prop := (if m_vl ≤ w_L4 then False else True)
noncomputable def bX11_toX_75_L4 (m_vl : Int32) (w_L4 : Int32) (w_L2 : Int32) (w_L3 : Int32) : Int32 := (if m_vl ≤ w_L4 then w_L4 else (w_L4 + (1 : Int32)))
noncomputable def bX11_toX_75_L2 (m_vl : Int32) (m_vs2 : Int32) (m_unmasked : Int32) (zO : Nat → Int32) (w_L4 : Int32) (w_L2 : Int32) (w_L3 : Int32) : Int32 := (if m_vl ≤ w_L4 then w_L2 else (pX11_toX_119_L2 m_vs2 m_unmasked zO w_L4 w_L2))
noncomputable def bX11_toX_75_L3 (m_vl : Int32) (m_vs2 : Int32) (m_unmasked : Int32) (zO : Nat → Int32) (w_L4 : Int32) (w_L2 : Int32) (w_L3 : Int32) : Int32 := (if m_vl ≤ w_L4 then w_L3 else (pX11_toX_119_L3 m_vs2 m_unmasked zO w_L4 w_L3))
noncomputable def LX11_toX_75 (m_vl : Int32) (m_vs2 : Int32) (m_unmasked : Int32) (zO : Nat → Int32) : Nat → Int32 × Int32 × Int32 → Int32 × Int32 × Int32
  | 0, s => s
  | n + 1, s => LX11_toX_75 m_vl m_vs2 m_unmasked zO n ((bX11_toX_75_L4 m_vl s.1 s.2.1 s.2.2), (bX11_toX_75_L2 m_vl m_vs2 m_unmasked zO s.1 s.2.1 s.2.2), (bX11_toX_75_L3 m_vl m_vs2 m_unmasked zO s.1 s.2.1 s.2.2))
noncomputable def oX11_toX_75 (m_vl : Int32) (m_vs2 : Int32) (m_unmasked : Int32) (zO : Nat → Int32) (w_L4 : Int32) (w_L2 : Int32) (w_L3 : Int32) : Prop := (¬ (m_vl ≤ w_L4) → okX11_isActive m_unmasked w_L4) ∧ (¬ (m_vl ≤ w_L4) → ¬ ((fX11_isActive m_unmasked zO w_L4) = (0 : Int32)) → okX11_bit m_vs2 w_L4)
noncomputable def KX11_toX_75 (m_vl : Int32) (m_vs2 : Int32) (m_unmasked : Int32) (zO : Nat → Int32) : Nat → Int32 × Int32 × Int32 → Prop
  | 0, _ => True
  | n + 1, s => (tX11_toX_75 m_vl s.1 s.2.1 s.2.2 ∧ oX11_toX_75 m_vl m_vs2 m_unmasked zO s.1 s.2.1 s.2.2) ∧ KX11_toX_75 m_vl m_vs2 m_unmasked zO n ((bX11_toX_75_L4 m_vl s.1 s.2.1 s.2.2), (bX11_toX_75_L2 m_vl m_vs2 m_unmasked zO s.1 s.2.1 s.2.2), (bX11_toX_75_L3 m_vl m_vs2 m_unmasked zO s.1 s.2.1 s.2.2))
theorem itX11_toX_75 (m_vl : Int32) (m_vs2 : Int32) (m_unmasked : Int32) (zO : Nat → Int32) {b9 : Nat} (h9 : m_vl = nI b9) (hb9 : b9 < 2147483648) : ∀ (n a : Nat) (w_L2 : Int32) (w_L3 : Int32), a + n ≤ b9 → LX11_toX_75 m_vl m_vs2 m_unmasked zO n (nI a, w_L2, w_L3) = (nI (a + n), itr (fun k s => ((pX11_toX_119_L2 m_vs2 m_unmasked zO (nI k) s.1), (pX11_toX_119_L3 m_vs2 m_unmasked zO (nI k) s.2))) n a (w_L2, w_L3))
  | 0, a, w_L2, w_L3, _ => rfl
  | n + 1, a, w_L2, w_L3, h => by
    have hc : ¬ (m_vl ≤ nI a) := by rw [h9]; exact nI_ge (by omega) hb9
    have e0 : bX11_toX_75_L4 m_vl (nI a) w_L2 w_L3 = nI (a + 1) := by rw [bX11_toX_75_L4, if_neg hc, nI_1]
    have e1 : bX11_toX_75_L2 m_vl m_vs2 m_unmasked zO (nI a) w_L2 w_L3 = (pX11_toX_119_L2 m_vs2 m_unmasked zO (nI a) w_L2) := by rw [bX11_toX_75_L2, if_neg hc]
    have e2 : bX11_toX_75_L3 m_vl m_vs2 m_unmasked zO (nI a) w_L2 w_L3 = (pX11_toX_119_L3 m_vs2 m_unmasked zO (nI a) w_L3) := by rw [bX11_toX_75_L3, if_neg hc]
    show LX11_toX_75 m_vl m_vs2 m_unmasked zO n (bX11_toX_75_L4 m_vl (nI a) w_L2 w_L3, bX11_toX_75_L2 m_vl m_vs2 m_unmasked zO (nI a) w_L2 w_L3, bX11_toX_75_L3 m_vl m_vs2 m_unmasked zO (nI a) w_L2 w_L3) = _
    rw [e0, e1, e2, itX11_toX_75 m_vl m_vs2 m_unmasked zO h9 hb9 n (a + 1) _ _ (by omega), show a + (n + 1) = a + 1 + n by omega]; rfl
theorem ktX11_toX_75 (m_vl : Int32) (m_vs2 : Int32) (m_unmasked : Int32) (zO : Nat → Int32) {b9 : Nat} (h9 : m_vl = nI b9) (hb9 : b9 < 2147483648) (I : Nat → Int32 × Int32 → Prop) (hI : ∀ (a : Nat) (w_L2 : Int32) (w_L3 : Int32), I a (w_L2, w_L3) → a < b9 → oX11_toX_75 m_vl m_vs2 m_unmasked zO (nI a) w_L2 w_L3 ∧ I (a + 1) ((pX11_toX_119_L2 m_vs2 m_unmasked zO (nI a) w_L2), (pX11_toX_119_L3 m_vs2 m_unmasked zO (nI a) w_L3))) : ∀ (n a : Nat) (w_L2 : Int32) (w_L3 : Int32), a + n ≤ b9 → I a (w_L2, w_L3) → KX11_toX_75 m_vl m_vs2 m_unmasked zO n (nI a, w_L2, w_L3)
  | 0, a, w_L2, w_L3, _, _ => True.intro
  | n + 1, a, w_L2, w_L3, h, hi => by
    have hc : ¬ (m_vl ≤ nI a) := by rw [h9]; exact nI_ge (by omega) hb9
    have e0 : bX11_toX_75_L4 m_vl (nI a) w_L2 w_L3 = nI (a + 1) := by rw [bX11_toX_75_L4, if_neg hc, nI_1]
    have e1 : bX11_toX_75_L2 m_vl m_vs2 m_unmasked zO (nI a) w_L2 w_L3 = (pX11_toX_119_L2 m_vs2 m_unmasked zO (nI a) w_L2) := by rw [bX11_toX_75_L2, if_neg hc]
    have e2 : bX11_toX_75_L3 m_vl m_vs2 m_unmasked zO (nI a) w_L2 w_L3 = (pX11_toX_119_L3 m_vs2 m_unmasked zO (nI a) w_L3) := by rw [bX11_toX_75_L3, if_neg hc]
    obtain ⟨h1, h2⟩ := hI a w_L2 w_L3 hi (by omega)
    show (tX11_toX_75 m_vl (nI a) w_L2 w_L3 ∧ oX11_toX_75 m_vl m_vs2 m_unmasked zO (nI a) w_L2 w_L3) ∧ KX11_toX_75 m_vl m_vs2 m_unmasked zO n (bX11_toX_75_L4 m_vl (nI a) w_L2 w_L3, bX11_toX_75_L2 m_vl m_vs2 m_unmasked zO (nI a) w_L2 w_L3, bX11_toX_75_L3 m_vl m_vs2 m_unmasked zO (nI a) w_L2 w_L3)
    refine ⟨⟨by rw [tX11_toX_75, if_neg hc]; exact True.intro, h1⟩, ?_⟩
    rw [e0, e1, e2]; exact ktX11_toX_75 m_vl m_vs2 m_unmasked zO h9 hb9 I hI n (a + 1) _ _ (by omega) h2
theorem ntX11_toX_75 (m_vl : Int32) (m_vs2 : Int32) (m_unmasked : Int32) (zO : Nat → Int32) {b9 : Nat} (h9 : m_vl = nI b9) (hb9 : b9 < 2147483648) (w_L2 : Int32) (w_L3 : Int32) : ¬ tX11_toX_75 m_vl (nI b9) w_L2 w_L3 := by rw [tX11_toX_75, if_pos (by rw [h9]; exact Int32.le_refl _)]; exact id
noncomputable def pX11_toX_139_S1 (m_vl : Int32) (m_vs1 : Int32) (m_vs2 : Int32) (m_unmasked : Int32) (zO : Nat → Int32) : Int32 := (if m_vs1 = (16 : Int32) then (LX11_toX_75 m_vl m_vs2 m_unmasked zO (cnt (0 : Int32) m_vl) ((0 : Int32), (0 : Int32), (-1 : Int32))).2.1 else (LX11_toX_75 m_vl m_vs2 m_unmasked zO (cnt (0 : Int32) m_vl) ((0 : Int32), (0 : Int32), (-1 : Int32))).2.2)
noncomputable def pX11_toX_145_L1 (m_vl : Int32) (m_vstart : Int32) (m_vs1 : Int32) (m_vs2 : Int32) (m_sew : Int32) (m_unmasked : Int32) (zO : Nat → Int32) : Int32 := (if m_vs1 = (0 : Int32) then (eX11_toX_37 m_vs2 m_sew zO) else (if m_vs1 = (16 : Int32) then (if m_vstart = (0 : Int32) then (if m_vl ≤ (LX11_toX_75 m_vl m_vs2 m_unmasked zO (cnt (0 : Int32) m_vl) ((0 : Int32), (0 : Int32), (-1 : Int32))).1 then (pX11_toX_139_S1 m_vl m_vs1 m_vs2 m_unmasked zO) else (eX11_toX_37 m_vs2 m_sew zO)) else (eX11_toX_37 m_vs2 m_sew zO)) else (if m_vs1 = (17 : Int32) then (if m_vstart = (0 : Int32) then (if m_vl ≤ (LX11_toX_75 m_vl m_vs2 m_unmasked zO (cnt (0 : Int32) m_vl) ((0 : Int32), (0 : Int32), (-1 : Int32))).1 then (pX11_toX_139_S1 m_vl m_vs1 m_vs2 m_unmasked zO) else (eX11_toX_37 m_vs2 m_sew zO)) else (eX11_toX_37 m_vs2 m_sew zO)) else (eX11_toX_37 m_vs2 m_sew zO))))
noncomputable def pX11_toX_162_zX (m_vl : Int32) (m_vstart : Int32) (m_vd : Int32) (m_vs1 : Int32) (m_vs2 : Int32) (m_sew : Int32) (m_unmasked : Int32) (zX : Nat → Int32) (zO : Nat → Int32) : Nat → Int32 := (if m_vd ≤ (0 : Int32) then zX else (upd zX (Int32.toNatClampNeg m_vd) (pX11_toX_145_L1 m_vl m_vstart m_vs1 m_vs2 m_sew m_unmasked zO)))
noncomputable def rX11_toX_145 : Int32 := (1 : Int32)
noncomputable def fX11_toX (m_vstart : Int32) (m_vs1 : Int32) (m_unmasked : Int32) : Int32 := (if m_vs1 = (0 : Int32) then (if m_unmasked = (0 : Int32) then (0 : Int32) else rX11_toX_145) else (if m_vs1 = (16 : Int32) then (if m_vstart = (0 : Int32) then rX11_toX_145 else (0 : Int32)) else (if m_vs1 = (17 : Int32) then (if m_vstart = (0 : Int32) then rX11_toX_145 else (0 : Int32)) else (0 : Int32))))
noncomputable def rX11_toX_145__zX (m_vl : Int32) (m_vstart : Int32) (m_vd : Int32) (m_vs1 : Int32) (m_vs2 : Int32) (m_sew : Int32) (m_unmasked : Int32) (zX : Nat → Int32) (zO : Nat → Int32) : Nat → Int32 := (pX11_toX_162_zX m_vl m_vstart m_vd m_vs1 m_vs2 m_sew m_unmasked zX zO)
noncomputable def fX11_toX__zX (m_vl : Int32) (m_vstart : Int32) (m_vd : Int32) (m_vs1 : Int32) (m_vs2 : Int32) (m_sew : Int32) (m_unmasked : Int32) (zX : Nat → Int32) (zO : Nat → Int32) : Nat → Int32 := (if m_vs1 = (0 : Int32) then (if m_unmasked = (0 : Int32) then zX else (rX11_toX_145__zX m_vl m_vstart m_vd m_vs1 m_vs2 m_sew m_unmasked zX zO)) else (if m_vs1 = (16 : Int32) then (if m_vstart = (0 : Int32) then (rX11_toX_145__zX m_vl m_vstart m_vd m_vs1 m_vs2 m_sew m_unmasked zX zO) else zX) else (if m_vs1 = (17 : Int32) then (if m_vstart = (0 : Int32) then (rX11_toX_145__zX m_vl m_vstart m_vd m_vs1 m_vs2 m_sew m_unmasked zX zO) else zX) else zX)))
noncomputable def okX11_toX (m_vl : Int32) (m_vstart : Int32) (m_vd : Int32) (m_vs1 : Int32) (m_vs2 : Int32) (m_sew : Int32) (m_unmasked : Int32) (zO : Nat → Int32) : Prop := ((m_vs1 = (0 : Int32)) → ¬ (m_unmasked = (0 : Int32)) → okX11_get zO m_vs2 m_sew (0 : Int32)) ∧ (¬ (m_vs1 = (0 : Int32)) → (m_vs1 = (16 : Int32)) → (m_vstart = (0 : Int32)) → KX11_toX_75 m_vl m_vs2 m_unmasked zO (cnt (0 : Int32) m_vl) ((0 : Int32), (0 : Int32), (-1 : Int32))) ∧ (¬ (m_vs1 = (0 : Int32)) → (m_vs1 = (16 : Int32)) → (m_vstart = (0 : Int32)) → ¬ (tX11_toX_75 m_vl ((LX11_toX_75 m_vl m_vs2 m_unmasked zO (cnt (0 : Int32) m_vl) ((0 : Int32), (0 : Int32), (-1 : Int32))).1) ((LX11_toX_75 m_vl m_vs2 m_unmasked zO (cnt (0 : Int32) m_vl) ((0 : Int32), (0 : Int32), (-1 : Int32))).2.1) ((LX11_toX_75 m_vl m_vs2 m_unmasked zO (cnt (0 : Int32) m_vl) ((0 : Int32), (0 : Int32), (-1 : Int32))).2.2))) ∧ (¬ (m_vs1 = (0 : Int32)) → (m_vs1 = (16 : Int32)) → (m_vstart = (0 : Int32)) → ¬ (m_vl ≤ (LX11_toX_75 m_vl m_vs2 m_unmasked zO (cnt (0 : Int32) m_vl) ((0 : Int32), (0 : Int32), (-1 : Int32))).1) → okX11_isActive m_unmasked ((LX11_toX_75 m_vl m_vs2 m_unmasked zO (cnt (0 : Int32) m_vl) ((0 : Int32), (0 : Int32), (-1 : Int32))).1)) ∧ (¬ (m_vs1 = (0 : Int32)) → (m_vs1 = (16 : Int32)) → (m_vstart = (0 : Int32)) → ¬ (m_vl ≤ (LX11_toX_75 m_vl m_vs2 m_unmasked zO (cnt (0 : Int32) m_vl) ((0 : Int32), (0 : Int32), (-1 : Int32))).1) → ¬ ((fX11_isActive m_unmasked zO ((LX11_toX_75 m_vl m_vs2 m_unmasked zO (cnt (0 : Int32) m_vl) ((0 : Int32), (0 : Int32), (-1 : Int32))).1)) = (0 : Int32)) → okX11_bit m_vs2 ((LX11_toX_75 m_vl m_vs2 m_unmasked zO (cnt (0 : Int32) m_vl) ((0 : Int32), (0 : Int32), (-1 : Int32))).1)) ∧ (¬ (m_vs1 = (0 : Int32)) → ¬ (m_vs1 = (16 : Int32)) → (m_vs1 = (17 : Int32)) → (m_vstart = (0 : Int32)) → KX11_toX_75 m_vl m_vs2 m_unmasked zO (cnt (0 : Int32) m_vl) ((0 : Int32), (0 : Int32), (-1 : Int32))) ∧ (¬ (m_vs1 = (0 : Int32)) → ¬ (m_vs1 = (16 : Int32)) → (m_vs1 = (17 : Int32)) → (m_vstart = (0 : Int32)) → ¬ (tX11_toX_75 m_vl ((LX11_toX_75 m_vl m_vs2 m_unmasked zO (cnt (0 : Int32) m_vl) ((0 : Int32), (0 : Int32), (-1 : Int32))).1) ((LX11_toX_75 m_vl m_vs2 m_unmasked zO (cnt (0 : Int32) m_vl) ((0 : Int32), (0 : Int32), (-1 : Int32))).2.1) ((LX11_toX_75 m_vl m_vs2 m_unmasked zO (cnt (0 : Int32) m_vl) ((0 : Int32), (0 : Int32), (-1 : Int32))).2.2))) ∧ (¬ (m_vs1 = (0 : Int32)) → ¬ (m_vs1 = (16 : Int32)) → (m_vs1 = (17 : Int32)) → (m_vstart = (0 : Int32)) → ¬ (m_vl ≤ (LX11_toX_75 m_vl m_vs2 m_unmasked zO (cnt (0 : Int32) m_vl) ((0 : Int32), (0 : Int32), (-1 : Int32))).1) → okX11_isActive m_unmasked ((LX11_toX_75 m_vl m_vs2 m_unmasked zO (cnt (0 : Int32) m_vl) ((0 : Int32), (0 : Int32), (-1 : Int32))).1)) ∧ (¬ (m_vs1 = (0 : Int32)) → ¬ (m_vs1 = (16 : Int32)) → (m_vs1 = (17 : Int32)) → (m_vstart = (0 : Int32)) → ¬ (m_vl ≤ (LX11_toX_75 m_vl m_vs2 m_unmasked zO (cnt (0 : Int32) m_vl) ((0 : Int32), (0 : Int32), (-1 : Int32))).1) → ¬ ((fX11_isActive m_unmasked zO ((LX11_toX_75 m_vl m_vs2 m_unmasked zO (cnt (0 : Int32) m_vl) ((0 : Int32), (0 : Int32), (-1 : Int32))).1)) = (0 : Int32)) → okX11_bit m_vs2 ((LX11_toX_75 m_vl m_vs2 m_unmasked zO (cnt (0 : Int32) m_vl) ((0 : Int32), (0 : Int32), (-1 : Int32))).1)) ∧ (¬ (m_vd ≤ (0 : Int32)) → vp_in m_vd 32)
theorem zrX11_toX_145 : narrow .boolean (.int rX11_toX_145) = .int rX11_toX_145 := by unfold rX11_toX_145; exact rfl
theorem zX11_toX (m_vstart : Int32) (m_vs1 : Int32) (m_unmasked : Int32) : narrow .boolean (.int (fX11_toX m_vstart m_vs1 m_unmasked)) = .int (fX11_toX m_vstart m_vs1 m_unmasked) := by unfold fX11_toX; exact (kzi (kzi rfl (zrX11_toX_145)) (kzi (kzi (zrX11_toX_145) rfl) (kzi (kzi (zrX11_toX_145) rfl) rfl)))
set_option maxRecDepth 100000 in
set_option maxHeartbeats 4000000 in
theorem kX11_toX (l : Launch) (D : va_G) (kI kZ : ClassId) (b_m : Nat) (b_zX : Nat) (b_zV : Nat) (b_zO : Nat) (m_thrown : Int32) (m_memory : Nat) (m_shut : Nat) (m_choices : Int64) (m_vl : Int32) (m_vtype : Int32) (m_vstart : Int32) (m_vxrm : Int32) (m_vxsat : Int32) (m_done : Int32) (m_illegal : Int32) (m_traps : Int32) (m_trapAddress : Int32) (m_word : Int32) (m_vd : Int32) (m_vs1 : Int32) (m_vs2 : Int32) (m_f3 : Int32) (m_f6 : Int32) (m_sew : Int32) (m_l8 : Int32) (m_unmasked : Int32) (zX : Nat → Int32) (zV : Nat → Int32) (zO : Nat → Int32) (hok : okX11_toX m_vl m_vstart m_vd m_vs1 m_vs2 m_sew m_unmasked zO) : kM l yX11_toX cX11_toX 5 (some .boolean) 2 27 0 0 D [(kI, .int), (kZ, .boolean)] [.ref b_m] [(b_m, .inr (10, [.int m_thrown, .ref b_zX, .ref b_zV, .ref b_zO, .ref m_memory, .ref m_shut, .long m_choices, .int m_vl, .int m_vtype, .int m_vstart, .int m_vxrm, .int m_vxsat, .int m_done, .int m_illegal, .int m_traps, .int m_trapAddress, .int m_word, .int m_vd, .int m_vs1, .int m_vs2, .int m_f3, .int m_f6, .int m_sew, .int m_l8, .int m_unmasked])), (b_zX, .inl (kI, 32, .inl zX)), (b_zV, .inl (kI, 512, .inl zV)), (b_zO, .inl (kI, 512, .inl zO))] (some (.int (fX11_toX m_vstart m_vs1 m_unmasked))) [(b_m, .inr (10, [.int m_thrown, .ref b_zX, .ref b_zV, .ref b_zO, .ref m_memory, .ref m_shut, .long m_choices, .int m_vl, .int m_vtype, .int m_vstart, .int m_vxrm, .int m_vxsat, .int m_done, .int m_illegal, .int m_traps, .int m_trapAddress, .int m_word, .int m_vd, .int m_vs1, .int m_vs2, .int m_f3, .int m_f6, .int m_sew, .int m_l8, .int m_unmasked])), (b_zX, .inl (kI, 32, .inl (fX11_toX__zX m_vl m_vstart m_vd m_vs1 m_vs2 m_sew m_unmasked zX zO))), (b_zV, .inl (kI, 512, .inl zV)), (b_zO, .inl (kI, 512, .inl zO))] := by
  refine kM.of (by decide) rfl ?_
  intro p e R s m args below meth c A X _ _ hRt hLk
  refine k_sub [0] (lv' := [(0, .ref b_m)]) rfl ?_
  unfold okX11_toX at hok
  refine k_aload_n X dX11_toX_0 rfl 0 rfl rfl ?_
  refine k_get X i_wsX110 0 18 q27_5 rfl rfl rfl rfl rfl dX11_toX_1 rfl ?_
  refine k_midR (some (.int rX11_toX_145)) [(b_m, .inr (10, [.int m_thrown, .ref b_zX, .ref b_zV, .ref b_zO, .ref m_memory, .ref m_shut, .long m_choices, .int m_vl, .int m_vtype, .int m_vstart, .int m_vxrm, .int m_vxsat, .int m_done, .int m_illegal, .int m_traps, .int m_trapAddress, .int m_word, .int m_vd, .int m_vs1, .int m_vs2, .int m_f3, .int m_f6, .int m_sew, .int m_l8, .int m_unmasked])), (b_zX, .inl (kI, 32, .inl (rX11_toX_145__zX m_vl m_vstart m_vd m_vs1 m_vs2 m_sew m_unmasked zX zO))), (b_zV, .inl (kI, 512, .inl zV)), (b_zO, .inl (kI, 512, .inl zO))] [(b_m, .inr (10, [.int m_thrown, .ref b_zX, .ref b_zV, .ref b_zO, .ref m_memory, .ref m_shut, .long m_choices, .int m_vl, .int m_vtype, .int m_vstart, .int m_vxrm, .int m_vxsat, .int m_done, .int m_illegal, .int m_traps, .int m_trapAddress, .int m_word, .int m_vd, .int m_vs1, .int m_vs2, .int m_f3, .int m_f6, .int m_sew, .int m_l8, .int m_unmasked])), (b_zX, .inl (kI, 32, .inl zX)), (b_zV, .inl (kI, 512, .inl zV)), (b_zO, .inl (kI, 512, .inl zO))] [(0, .ref b_m), (1, .int (pX11_toX_145_L1 m_vl m_vstart m_vs1 m_vs2 m_sew m_unmasked zO))] [] 145 (fun hJ35 => ?_) ?_
  · skip
    refine k_if_ne (tgt := 41) X dX11_toX_4 (by decide) rfl (fun c1 => ?_) (fun c1 => ?_)
    · skip
      refine k_aload_n X dX11_toX_7 rfl 0 rfl rfl ?_
      refine k_get X i_wsX110 0 24 q27_7 rfl rfl rfl rfl rfl dX11_toX_8 rfl ?_
      refine k_if_ne (tgt := 16) X dX11_toX_11 (by decide) rfl (fun c2 => ?_) (fun c2 => ?_)
      · skip
        refine k_iconst X dX11_toX_14 kc_i_0 rfl ?_
        have e38 : (fX11_toX m_vstart m_vs1 m_unmasked) = (0 : Int32) := by rw [fX11_toX, if_pos c1, if_pos c2]
        have e39 : (fX11_toX__zX m_vl m_vstart m_vd m_vs1 m_vs2 m_sew m_unmasked zX zO) = zX := by rw [fX11_toX__zX, if_pos c1, if_pos c2]
        exact k_zret9 X hRt hLk rfl e38.symm (by rw [e39]) dX11_toX_15
      refine k_aload_n X dX11_toX_16 rfl 0 rfl rfl ?_
      refine k_aload_n X dX11_toX_17 rfl 0 rfl rfl ?_
      refine k_get X i_wsX110 0 19 q27_6 rfl rfl rfl rfl rfl dX11_toX_18 rfl ?_
      refine k_aload_n X dX11_toX_21 rfl 0 rfl rfl ?_
      refine k_get X i_wsX110 0 22 q27_9 rfl rfl rfl rfl rfl dX11_toX_22 rfl ?_
      refine k_iconst X dX11_toX_25 kc_i_0 rfl ?_
      refine k_cV1 (st := []) (ws' := [(b_m, .inr (10, [.int m_thrown, .ref b_zX, .ref b_zV, .ref b_zO, .ref m_memory, .ref m_shut, .long m_choices, .int m_vl, .int m_vtype, .int m_vstart, .int m_vxrm, .int m_vxsat, .int m_done, .int m_illegal, .int m_traps, .int m_trapAddress, .int m_word, .int m_vd, .int m_vs1, .int m_vs2, .int m_f3, .int m_f6, .int m_sew, .int m_l8, .int m_unmasked])), (b_zX, .inl (kI, 32, .inl zX)), (b_zV, .inl (kI, 512, .inl zV)), (b_zO, .inl (kI, 512, .inl zO))]) (wr := [(b_zX, .inl (kI, 32, .inl zX)), (b_zV, .inl (kI, 512, .inl zV))]) (ci := 10) (q9 := 0) X [.int m_vs2, .int m_sew, .int (0 : Int32)] 0 [0, 3] [1, 2] [2, 0, 1, 3] (kX11_get l D kI kZ b_m b_zO m_thrown b_zX b_zV m_memory m_shut m_choices m_vl m_vtype m_vstart m_vxrm m_vxsat m_done m_illegal m_traps m_trapAddress m_word m_vd m_vs1 m_vs2 m_f3 m_f6 m_sew m_l8 m_unmasked zO m_vs2 m_sew (0 : Int32) (hok.1 c1 c2)) vX11_get q32_21 dX11_toX_26 rfl rfl rfl rfl rfl rfl rfl rfl rfl rfl rfl rfl rfl rfl rfl ?_
      refine k_aload_n X dX11_toX_29 rfl 0 rfl rfl ?_
      refine k_get X i_wsX110 0 22 q27_9 rfl rfl rfl rfl rfl dX11_toX_30 rfl ?_
      refine k_cS1 (st := []) (ws' := [(b_m, .inr (10, [.int m_thrown, .ref b_zX, .ref b_zV, .ref b_zO, .ref m_memory, .ref m_shut, .long m_choices, .int m_vl, .int m_vtype, .int m_vstart, .int m_vxrm, .int m_vxsat, .int m_done, .int m_illegal, .int m_traps, .int m_trapAddress, .int m_word, .int m_vd, .int m_vs1, .int m_vs2, .int m_f3, .int m_f6, .int m_sew, .int m_l8, .int m_unmasked])), (b_zX, .inl (kI, 32, .inl zX)), (b_zV, .inl (kI, 512, .inl zV)), (b_zO, .inl (kI, 512, .inl zO))]) (wr := [(b_m, .inr (10, [.int m_thrown, .ref b_zX, .ref b_zV, .ref b_zO, .ref m_memory, .ref m_shut, .long m_choices, .int m_vl, .int m_vtype, .int m_vstart, .int m_vxrm, .int m_vxsat, .int m_done, .int m_illegal, .int m_traps, .int m_trapAddress, .int m_word, .int m_vd, .int m_vs1, .int m_vs2, .int m_f3, .int m_f6, .int m_sew, .int m_l8, .int m_unmasked])), (b_zX, .inl (kI, 32, .inl zX)), (b_zV, .inl (kI, 512, .inl zV)), (b_zO, .inl (kI, 512, .inl zO))]) X [.long (fX11_get zO m_vs2 m_sew (0 : Int32)), .int m_sew] 0 [] [0, 1, 2, 3] [0, 1, 2, 3] (kX11_signed l D kI kZ (fX11_get zO m_vs2 m_sew (0 : Int32)) m_sew) vX11_signed q33_20 dX11_toX_33 rfl rfl rfl rfl rfl rfl rfl rfl rfl rfl rfl rfl rfl ?_
      refine k_l2i X dX11_toX_36 rfl ?_
      refine k_foldi (v := (eX11_toX_37 m_vs2 m_sew zO)) rfl ?_
      refine k_istore_n (lv' := [(1, .int (eX11_toX_37 m_vs2 m_sew zO)), (0, .ref b_m)]) X dX11_toX_37 rfl rfl rfl rfl ?_
      refine k_goto (tgt := 145) X dX11_toX_38 (by decide) ?_
      have e40 : (fX11_toX m_vstart m_vs1 m_unmasked) = rX11_toX_145 := by rw [fX11_toX, if_pos c1, if_neg c2]
      have e41 : (fX11_toX__zX m_vl m_vstart m_vd m_vs1 m_vs2 m_sew m_unmasked zX zO) = (rX11_toX_145__zX m_vl m_vstart m_vd m_vs1 m_vs2 m_sew m_unmasked zX zO) := by rw [fX11_toX__zX, if_pos c1, if_neg c2]
      rw [e40, e41]
      have e42 : (pX11_toX_145_L1 m_vl m_vstart m_vs1 m_vs2 m_sew m_unmasked zO) = (eX11_toX_37 m_vs2 m_sew zO) := by rw [pX11_toX_145_L1, if_pos c1]
      rw [e42] at hJ35
      exact k_sub [1, 0] rfl hJ35
    refine k_aload_n X dX11_toX_41 rfl 0 rfl rfl ?_
    refine k_get X i_wsX110 0 18 q27_5 rfl rfl rfl rfl rfl dX11_toX_42 rfl ?_
    refine k_bipush X dX11_toX_45 kc_b_16 rfl ?_
    refine k_icmp_eq (tgt := 59) X dX11_toX_47 (by decide) rfl (fun c3 => ?_) (fun c3 => ?_)
    · skip
      refine k_aload_n X dX11_toX_59 rfl 0 rfl rfl ?_
      refine k_get X i_wsX110 0 9 q27_14 rfl rfl rfl rfl rfl dX11_toX_60 rfl ?_
      refine k_if_eq (tgt := 68) X dX11_toX_63 (by decide) rfl (fun c4 => ?_) (fun c4 => ?_)
      · skip
        refine k_iconst X dX11_toX_68 kc_i_0 rfl ?_
        refine k_istore_n (lv' := [(2, .int (0 : Int32)), (0, .ref b_m)]) X dX11_toX_69 rfl rfl rfl rfl ?_
        refine k_iconst X dX11_toX_70 kc_i_m1 rfl ?_
        refine k_istore_n (lv' := [(3, .int (-1 : Int32)), (2, .int (0 : Int32)), (0, .ref b_m)]) X dX11_toX_71 rfl rfl rfl rfl ?_
        refine k_iconst X dX11_toX_72 kc_i_0 rfl ?_
        refine k_istore (lv' := [(4, .int (0 : Int32)), (3, .int (-1 : Int32)), (2, .int (0 : Int32)), (0, .ref b_m)]) X dX11_toX_73 rfl rfl rfl ?_
        refine k_sub [3, 2, 1, 0] (lv' := [(0, .ref b_m), (2, .int (0 : Int32)), (3, .int (-1 : Int32)), (4, .int (0 : Int32))]) rfl ?_
        refine k_loop (KX11_toX_75 m_vl m_vs2 m_unmasked zO) (LX11_toX_75 m_vl m_vs2 m_unmasked zO) (fun s9 => (bX11_toX_75_L4 m_vl s9.1 s9.2.1 s9.2.2, bX11_toX_75_L2 m_vl m_vs2 m_unmasked zO s9.1 s9.2.1 s9.2.2, bX11_toX_75_L3 m_vl m_vs2 m_unmasked zO s9.1 s9.2.1 s9.2.2)) (fun s9 => tX11_toX_75 m_vl s9.1 s9.2.1 s9.2.2 ∧ oX11_toX_75 m_vl m_vs2 m_unmasked zO s9.1 s9.2.1 s9.2.2) (fun s9 => [(b_m, .inr (10, [.int m_thrown, .ref b_zX, .ref b_zV, .ref b_zO, .ref m_memory, .ref m_shut, .long m_choices, .int m_vl, .int m_vtype, .int m_vstart, .int m_vxrm, .int m_vxsat, .int m_done, .int m_illegal, .int m_traps, .int m_trapAddress, .int m_word, .int m_vd, .int m_vs1, .int m_vs2, .int m_f3, .int m_f6, .int m_sew, .int m_l8, .int m_unmasked])), (b_zX, .inl (kI, 32, .inl zX)), (b_zV, .inl (kI, 512, .inl zV)), (b_zO, .inl (kI, 512, .inl zO))]) (fun s9 => [(0, .ref b_m), (2, .int s9.2.1), (3, .int s9.2.2), (4, .int s9.1)]) 75 (fun _ => rfl) (fun _ _ => rfl) (fun _ _ h => h) ?_ (cnt (0 : Int32) m_vl) ((0 : Int32), (0 : Int32), (-1 : Int32)) (hok.2.1 c1 c3 c4) ?_
        · rintro ⟨w_L4, w_L2, w_L3⟩ ⟨hlat, hob⟩ g0
          try dsimp only at hlat hob g0 ⊢
          unfold oX11_toX_75 at hob
          refine k_iload X dX11_toX_75 3 rfl rfl ?_
          refine k_aload_n X dX11_toX_77 rfl 0 rfl rfl ?_
          refine k_get X i_wsX110 0 7 q28_7 rfl rfl rfl rfl rfl dX11_toX_78 rfl ?_
          refine k_icmp_ge (tgt := 125) X dX11_toX_81 (by decide) rfl (fun c5 => ?_) (fun c5 => ?_)
          · skip
            exact absurd hlat (by rw [tX11_toX_75, if_pos c5]; exact id)
          refine k_aload_n X dX11_toX_84 rfl 0 rfl rfl ?_
          refine k_iload X dX11_toX_85 3 rfl rfl ?_
          refine k_cV1 (st := []) (ws' := [(b_m, .inr (10, [.int m_thrown, .ref b_zX, .ref b_zV, .ref b_zO, .ref m_memory, .ref m_shut, .long m_choices, .int m_vl, .int m_vtype, .int m_vstart, .int m_vxrm, .int m_vxsat, .int m_done, .int m_illegal, .int m_traps, .int m_trapAddress, .int m_word, .int m_vd, .int m_vs1, .int m_vs2, .int m_f3, .int m_f6, .int m_sew, .int m_l8, .int m_unmasked])), (b_zX, .inl (kI, 32, .inl zX)), (b_zV, .inl (kI, 512, .inl zV)), (b_zO, .inl (kI, 512, .inl zO))]) (wr := [(b_zX, .inl (kI, 32, .inl zX)), (b_zV, .inl (kI, 512, .inl zV))]) (ci := 10) (q9 := 0) X [.int w_L4] 0 [0, 3] [1, 2] [2, 0, 1, 3] (kX11_isActive l D kI kZ b_m b_zO m_thrown b_zX b_zV m_memory m_shut m_choices m_vl m_vtype m_vstart m_vxrm m_vxsat m_done m_illegal m_traps m_trapAddress m_word m_vd m_vs1 m_vs2 m_f3 m_f6 m_sew m_l8 m_unmasked zO w_L4 (hob.1 c5)) vX11_isActive q31_6 dX11_toX_87 rfl rfl rfl rfl rfl rfl rfl rfl rfl rfl rfl rfl rfl rfl rfl ?_
          refine k_mid2 [(b_m, .inr (10, [.int m_thrown, .ref b_zX, .ref b_zV, .ref b_zO, .ref m_memory, .ref m_shut, .long m_choices, .int m_vl, .int m_vtype, .int m_vstart, .int m_vxrm, .int m_vxsat, .int m_done, .int m_illegal, .int m_traps, .int m_trapAddress, .int m_word, .int m_vd, .int m_vs1, .int m_vs2, .int m_f3, .int m_f6, .int m_sew, .int m_l8, .int m_unmasked])), (b_zX, .inl (kI, 32, .inl zX)), (b_zV, .inl (kI, 512, .inl zV)), (b_zO, .inl (kI, 512, .inl zO))] [(0, .ref b_m), (2, .int (pX11_toX_119_L2 m_vs2 m_unmasked zO w_L4 w_L2)), (3, .int (pX11_toX_119_L3 m_vs2 m_unmasked zO w_L4 w_L3)), (4, .int w_L4)] [] 119 (fun hJ10 => ?_) ?_
          · skip
            refine k_if_eq (tgt := 119) X dX11_toX_90 (by decide) rfl (fun c6 => ?_) (fun c6 => ?_)
            · skip
              have e43 : (pX11_toX_119_L2 m_vs2 m_unmasked zO w_L4 w_L2) = w_L2 := by rw [pX11_toX_119_L2, if_pos c6]
              rw [e43] at hJ10
              have e44 : (pX11_toX_119_L3 m_vs2 m_unmasked zO w_L4 w_L3) = w_L3 := by rw [pX11_toX_119_L3, if_pos c6]
              rw [e44] at hJ10
              exact k_sub [0, 1, 2, 3] rfl hJ10
            refine k_aload_n X dX11_toX_93 rfl 0 rfl rfl ?_
            refine k_aload_n X dX11_toX_94 rfl 0 rfl rfl ?_
            refine k_get X i_wsX110 0 19 q27_6 rfl rfl rfl rfl rfl dX11_toX_95 rfl ?_
            refine k_iload X dX11_toX_98 3 rfl rfl ?_
            refine k_cV1 (st := []) (ws' := [(b_m, .inr (10, [.int m_thrown, .ref b_zX, .ref b_zV, .ref b_zO, .ref m_memory, .ref m_shut, .long m_choices, .int m_vl, .int m_vtype, .int m_vstart, .int m_vxrm, .int m_vxsat, .int m_done, .int m_illegal, .int m_traps, .int m_trapAddress, .int m_word, .int m_vd, .int m_vs1, .int m_vs2, .int m_f3, .int m_f6, .int m_sew, .int m_l8, .int m_unmasked])), (b_zX, .inl (kI, 32, .inl zX)), (b_zV, .inl (kI, 512, .inl zV)), (b_zO, .inl (kI, 512, .inl zO))]) (wr := [(b_zX, .inl (kI, 32, .inl zX)), (b_zV, .inl (kI, 512, .inl zV))]) (ci := 10) (q9 := 0) X [.int m_vs2, .int w_L4] 0 [0, 3] [1, 2] [2, 0, 1, 3] (kX11_bit l D kI kZ b_m b_zO m_thrown b_zX b_zV m_memory m_shut m_choices m_vl m_vtype m_vstart m_vxrm m_vxsat m_done m_illegal m_traps m_trapAddress m_word m_vd m_vs1 m_vs2 m_f3 m_f6 m_sew m_l8 m_unmasked zO m_vs2 w_L4 (hob.2 c5 c6)) vX11_bit q31_10 dX11_toX_100 rfl rfl rfl rfl rfl rfl rfl rfl rfl rfl rfl rfl rfl rfl rfl ?_
            refine k_if_ne (tgt := 109) X dX11_toX_103 (by decide) rfl (fun c7 => ?_) (fun c7 => ?_)
            · skip
              refine k_goto (tgt := 119) X dX11_toX_106 (by decide) ?_
              have e45 : (pX11_toX_119_L2 m_vs2 m_unmasked zO w_L4 w_L2) = w_L2 := by rw [pX11_toX_119_L2, if_neg c6, if_pos c7]
              rw [e45] at hJ10
              have e46 : (pX11_toX_119_L3 m_vs2 m_unmasked zO w_L4 w_L3) = w_L3 := by rw [pX11_toX_119_L3, if_neg c6, if_pos c7]
              rw [e46] at hJ10
              exact k_sub [0, 1, 2, 3] rfl hJ10
            refine k_iload_n X dX11_toX_109 rfl 2 rfl rfl ?_
            refine k_mid2 [(b_m, .inr (10, [.int m_thrown, .ref b_zX, .ref b_zV, .ref b_zO, .ref m_memory, .ref m_shut, .long m_choices, .int m_vl, .int m_vtype, .int m_vstart, .int m_vxrm, .int m_vxsat, .int m_done, .int m_illegal, .int m_traps, .int m_trapAddress, .int m_word, .int m_vd, .int m_vs1, .int m_vs2, .int m_f3, .int m_f6, .int m_sew, .int m_l8, .int m_unmasked])), (b_zX, .inl (kI, 32, .inl zX)), (b_zV, .inl (kI, 512, .inl zV)), (b_zO, .inl (kI, 512, .inl zO))] [(0, .ref b_m), (2, .int w_L2), (3, .int (pX11_toX_116_L3 w_L4 w_L3)), (4, .int w_L4)] [] 116 (fun hJ9 => ?_) ?_
            · skip
              refine k_if_ge (tgt := 116) X dX11_toX_110 (by decide) rfl (fun c8 => ?_) (fun c8 => ?_)
              · skip
                have e47 : (pX11_toX_116_L3 w_L4 w_L3) = w_L3 := by rw [pX11_toX_116_L3, if_pos c8]
                rw [e47] at hJ9
                exact k_sub [0, 1, 2, 3] rfl hJ9
              refine k_iload X dX11_toX_113 3 rfl rfl ?_
              refine k_istore_n (lv' := [(3, .int w_L4), (0, .ref b_m), (2, .int w_L2), (4, .int w_L4)]) X dX11_toX_115 rfl rfl rfl rfl ?_
              have e48 : (pX11_toX_116_L3 w_L4 w_L3) = w_L4 := by rw [pX11_toX_116_L3, if_neg c8]
              rw [e48] at hJ9
              exact k_sub [1, 2, 0, 3] rfl hJ9
            refine k_iinc (lv' := [(2, .int (w_L2 + (1 : Int32))), (0, .ref b_m), (3, .int (pX11_toX_116_L3 w_L4 w_L3)), (4, .int w_L4)]) X dX11_toX_116 1 rfl kc_i_1 rfl rfl rfl ?_
            have e49 : (pX11_toX_119_L2 m_vs2 m_unmasked zO w_L4 w_L2) = (w_L2 + (1 : Int32)) := by rw [pX11_toX_119_L2, if_neg c6, if_neg c7]
            rw [e49] at hJ10
            have e50 : (pX11_toX_119_L3 m_vs2 m_unmasked zO w_L4 w_L3) = (pX11_toX_116_L3 w_L4 w_L3) := by rw [pX11_toX_119_L3, if_neg c6, if_neg c7]
            rw [e50] at hJ10
            exact k_sub [1, 0, 2, 3] rfl hJ10
          refine k_iinc (lv' := [(4, .int (w_L4 + (1 : Int32))), (0, .ref b_m), (2, .int (pX11_toX_119_L2 m_vs2 m_unmasked zO w_L4 w_L2)), (3, .int (pX11_toX_119_L3 m_vs2 m_unmasked zO w_L4 w_L3))]) X dX11_toX_119 3 rfl kc_i_1 rfl rfl rfl ?_
          refine k_goto (tgt := 75) X dX11_toX_122 (by decide) ?_
          have e51 : bX11_toX_75_L4 m_vl w_L4 w_L2 w_L3 = (w_L4 + (1 : Int32)) := by rw [bX11_toX_75_L4, if_neg c5]
          rw [e51] at g0
          have e52 : bX11_toX_75_L2 m_vl m_vs2 m_unmasked zO w_L4 w_L2 w_L3 = (pX11_toX_119_L2 m_vs2 m_unmasked zO w_L4 w_L2) := by rw [bX11_toX_75_L2, if_neg c5]
          rw [e52] at g0
          have e53 : bX11_toX_75_L3 m_vl m_vs2 m_unmasked zO w_L4 w_L2 w_L3 = (pX11_toX_119_L3 m_vs2 m_unmasked zO w_L4 w_L3) := by rw [bX11_toX_75_L3, if_neg c5]
          rw [e53] at g0
          exact k_sub [1, 2, 3, 0] rfl g0
        try dsimp only
        refine k_iload X dX11_toX_75 3 rfl rfl ?_
        refine k_aload_n X dX11_toX_77 rfl 0 rfl rfl ?_
        refine k_get X i_wsX110 0 7 q28_7 rfl rfl rfl rfl rfl dX11_toX_78 rfl ?_
        refine k_icmp_ge (tgt := 125) X dX11_toX_81 (by decide) rfl (fun c11 => ?_) (fun c11 => ?_)
        · skip
          refine k_aload_n X dX11_toX_125 rfl 0 rfl rfl ?_
          refine k_get X i_wsX110 0 18 q27_5 rfl rfl rfl rfl rfl dX11_toX_126 rfl ?_
          refine k_bipush X dX11_toX_129 kc_b_16 rfl ?_
          refine k_mid2 [(b_m, .inr (10, [.int m_thrown, .ref b_zX, .ref b_zV, .ref b_zO, .ref m_memory, .ref m_shut, .long m_choices, .int m_vl, .int m_vtype, .int m_vstart, .int m_vxrm, .int m_vxsat, .int m_done, .int m_illegal, .int m_traps, .int m_trapAddress, .int m_word, .int m_vd, .int m_vs1, .int m_vs2, .int m_f3, .int m_f6, .int m_sew, .int m_l8, .int m_unmasked])), (b_zX, .inl (kI, 32, .inl zX)), (b_zV, .inl (kI, 512, .inl zV)), (b_zO, .inl (kI, 512, .inl zO))] [(0, .ref b_m), (2, .int ((LX11_toX_75 m_vl m_vs2 m_unmasked zO (cnt (0 : Int32) m_vl) ((0 : Int32), (0 : Int32), (-1 : Int32))).2.1)), (3, .int ((LX11_toX_75 m_vl m_vs2 m_unmasked zO (cnt (0 : Int32) m_vl) ((0 : Int32), (0 : Int32), (-1 : Int32))).2.2)), (4, .int ((LX11_toX_75 m_vl m_vs2 m_unmasked zO (cnt (0 : Int32) m_vl) ((0 : Int32), (0 : Int32), (-1 : Int32))).1))] [.int (pX11_toX_139_S1 m_vl m_vs1 m_vs2 m_unmasked zO)] 139 (fun hJ13 => ?_) ?_
          · skip
            refine k_icmp_ne (tgt := 138) X dX11_toX_131 (by decide) rfl (fun c12 => ?_) (fun c12 => ?_)
            · skip
              refine k_iload_n X dX11_toX_134 rfl 1 rfl rfl ?_
              refine k_goto (tgt := 139) X dX11_toX_135 (by decide) ?_
              have e54 : (pX11_toX_139_S1 m_vl m_vs1 m_vs2 m_unmasked zO) = (LX11_toX_75 m_vl m_vs2 m_unmasked zO (cnt (0 : Int32) m_vl) ((0 : Int32), (0 : Int32), (-1 : Int32))).2.1 := by rw [pX11_toX_139_S1, if_pos c12]
              rw [e54] at hJ13
              exact k_sub [0, 1, 2, 3] rfl hJ13
            refine k_iload_n X dX11_toX_138 rfl 2 rfl rfl ?_
            have e55 : (pX11_toX_139_S1 m_vl m_vs1 m_vs2 m_unmasked zO) = (LX11_toX_75 m_vl m_vs2 m_unmasked zO (cnt (0 : Int32) m_vl) ((0 : Int32), (0 : Int32), (-1 : Int32))).2.2 := by rw [pX11_toX_139_S1, if_neg c12]
            rw [e55] at hJ13
            exact k_sub [0, 1, 2, 3] rfl hJ13
          refine k_istore_n (lv' := [(1, .int (pX11_toX_139_S1 m_vl m_vs1 m_vs2 m_unmasked zO)), (0, .ref b_m), (2, .int ((LX11_toX_75 m_vl m_vs2 m_unmasked zO (cnt (0 : Int32) m_vl) ((0 : Int32), (0 : Int32), (-1 : Int32))).2.1)), (3, .int ((LX11_toX_75 m_vl m_vs2 m_unmasked zO (cnt (0 : Int32) m_vl) ((0 : Int32), (0 : Int32), (-1 : Int32))).2.2)), (4, .int ((LX11_toX_75 m_vl m_vs2 m_unmasked zO (cnt (0 : Int32) m_vl) ((0 : Int32), (0 : Int32), (-1 : Int32))).1))]) X dX11_toX_139 rfl rfl rfl rfl ?_
          refine k_goto (tgt := 145) X dX11_toX_140 (by decide) ?_
          have e56 : (fX11_toX m_vstart m_vs1 m_unmasked) = rX11_toX_145 := by rw [fX11_toX, if_neg c1, if_pos c3, if_pos c4]
          have e57 : (fX11_toX__zX m_vl m_vstart m_vd m_vs1 m_vs2 m_sew m_unmasked zX zO) = (rX11_toX_145__zX m_vl m_vstart m_vd m_vs1 m_vs2 m_sew m_unmasked zX zO) := by rw [fX11_toX__zX, if_neg c1, if_pos c3, if_pos c4]
          rw [e56, e57]
          have e58 : (pX11_toX_145_L1 m_vl m_vstart m_vs1 m_vs2 m_sew m_unmasked zO) = (pX11_toX_139_S1 m_vl m_vs1 m_vs2 m_unmasked zO) := by rw [pX11_toX_145_L1, if_neg c1, if_pos c3, if_pos c4, if_pos c11]
          rw [e58] at hJ35
          exact k_sub [1, 0] rfl hJ35
        refine k_aload_n X dX11_toX_84 rfl 0 rfl rfl ?_
        refine k_iload X dX11_toX_85 3 rfl rfl ?_
        refine k_cV1 (st := []) (ws' := [(b_m, .inr (10, [.int m_thrown, .ref b_zX, .ref b_zV, .ref b_zO, .ref m_memory, .ref m_shut, .long m_choices, .int m_vl, .int m_vtype, .int m_vstart, .int m_vxrm, .int m_vxsat, .int m_done, .int m_illegal, .int m_traps, .int m_trapAddress, .int m_word, .int m_vd, .int m_vs1, .int m_vs2, .int m_f3, .int m_f6, .int m_sew, .int m_l8, .int m_unmasked])), (b_zX, .inl (kI, 32, .inl zX)), (b_zV, .inl (kI, 512, .inl zV)), (b_zO, .inl (kI, 512, .inl zO))]) (wr := [(b_zX, .inl (kI, 32, .inl zX)), (b_zV, .inl (kI, 512, .inl zV))]) (ci := 10) (q9 := 0) X [.int ((LX11_toX_75 m_vl m_vs2 m_unmasked zO (cnt (0 : Int32) m_vl) ((0 : Int32), (0 : Int32), (-1 : Int32))).1)] 0 [0, 3] [1, 2] [2, 0, 1, 3] (kX11_isActive l D kI kZ b_m b_zO m_thrown b_zX b_zV m_memory m_shut m_choices m_vl m_vtype m_vstart m_vxrm m_vxsat m_done m_illegal m_traps m_trapAddress m_word m_vd m_vs1 m_vs2 m_f3 m_f6 m_sew m_l8 m_unmasked zO ((LX11_toX_75 m_vl m_vs2 m_unmasked zO (cnt (0 : Int32) m_vl) ((0 : Int32), (0 : Int32), (-1 : Int32))).1) (hok.2.2.2.1 c1 c3 c4 c11)) vX11_isActive q31_6 dX11_toX_87 rfl rfl rfl rfl rfl rfl rfl rfl rfl rfl rfl rfl rfl rfl rfl ?_
        refine k_mid2 [(b_m, .inr (10, [.int m_thrown, .ref b_zX, .ref b_zV, .ref b_zO, .ref m_memory, .ref m_shut, .long m_choices, .int m_vl, .int m_vtype, .int m_vstart, .int m_vxrm, .int m_vxsat, .int m_done, .int m_illegal, .int m_traps, .int m_trapAddress, .int m_word, .int m_vd, .int m_vs1, .int m_vs2, .int m_f3, .int m_f6, .int m_sew, .int m_l8, .int m_unmasked])), (b_zX, .inl (kI, 32, .inl zX)), (b_zV, .inl (kI, 512, .inl zV)), (b_zO, .inl (kI, 512, .inl zO))] [(0, .ref b_m), (2, .int (pX11_toX_119_L2 m_vs2 m_unmasked zO ((LX11_toX_75 m_vl m_vs2 m_unmasked zO (cnt (0 : Int32) m_vl) ((0 : Int32), (0 : Int32), (-1 : Int32))).1) ((LX11_toX_75 m_vl m_vs2 m_unmasked zO (cnt (0 : Int32) m_vl) ((0 : Int32), (0 : Int32), (-1 : Int32))).2.1))), (3, .int (pX11_toX_119_L3 m_vs2 m_unmasked zO ((LX11_toX_75 m_vl m_vs2 m_unmasked zO (cnt (0 : Int32) m_vl) ((0 : Int32), (0 : Int32), (-1 : Int32))).1) ((LX11_toX_75 m_vl m_vs2 m_unmasked zO (cnt (0 : Int32) m_vl) ((0 : Int32), (0 : Int32), (-1 : Int32))).2.2))), (4, .int ((LX11_toX_75 m_vl m_vs2 m_unmasked zO (cnt (0 : Int32) m_vl) ((0 : Int32), (0 : Int32), (-1 : Int32))).1))] [] 119 (fun hJ18 => ?_) ?_
        · skip
          refine k_if_eq (tgt := 119) X dX11_toX_90 (by decide) rfl (fun c14 => ?_) (fun c14 => ?_)
          · skip
            have e59 : (pX11_toX_119_L2 m_vs2 m_unmasked zO ((LX11_toX_75 m_vl m_vs2 m_unmasked zO (cnt (0 : Int32) m_vl) ((0 : Int32), (0 : Int32), (-1 : Int32))).1) ((LX11_toX_75 m_vl m_vs2 m_unmasked zO (cnt (0 : Int32) m_vl) ((0 : Int32), (0 : Int32), (-1 : Int32))).2.1)) = (LX11_toX_75 m_vl m_vs2 m_unmasked zO (cnt (0 : Int32) m_vl) ((0 : Int32), (0 : Int32), (-1 : Int32))).2.1 := by rw [pX11_toX_119_L2, if_pos c14]
            rw [e59] at hJ18
            have e60 : (pX11_toX_119_L3 m_vs2 m_unmasked zO ((LX11_toX_75 m_vl m_vs2 m_unmasked zO (cnt (0 : Int32) m_vl) ((0 : Int32), (0 : Int32), (-1 : Int32))).1) ((LX11_toX_75 m_vl m_vs2 m_unmasked zO (cnt (0 : Int32) m_vl) ((0 : Int32), (0 : Int32), (-1 : Int32))).2.2)) = (LX11_toX_75 m_vl m_vs2 m_unmasked zO (cnt (0 : Int32) m_vl) ((0 : Int32), (0 : Int32), (-1 : Int32))).2.2 := by rw [pX11_toX_119_L3, if_pos c14]
            rw [e60] at hJ18
            exact k_sub [0, 1, 2, 3] rfl hJ18
          refine k_aload_n X dX11_toX_93 rfl 0 rfl rfl ?_
          refine k_aload_n X dX11_toX_94 rfl 0 rfl rfl ?_
          refine k_get X i_wsX110 0 19 q27_6 rfl rfl rfl rfl rfl dX11_toX_95 rfl ?_
          refine k_iload X dX11_toX_98 3 rfl rfl ?_
          refine k_cV1 (st := []) (ws' := [(b_m, .inr (10, [.int m_thrown, .ref b_zX, .ref b_zV, .ref b_zO, .ref m_memory, .ref m_shut, .long m_choices, .int m_vl, .int m_vtype, .int m_vstart, .int m_vxrm, .int m_vxsat, .int m_done, .int m_illegal, .int m_traps, .int m_trapAddress, .int m_word, .int m_vd, .int m_vs1, .int m_vs2, .int m_f3, .int m_f6, .int m_sew, .int m_l8, .int m_unmasked])), (b_zX, .inl (kI, 32, .inl zX)), (b_zV, .inl (kI, 512, .inl zV)), (b_zO, .inl (kI, 512, .inl zO))]) (wr := [(b_zX, .inl (kI, 32, .inl zX)), (b_zV, .inl (kI, 512, .inl zV))]) (ci := 10) (q9 := 0) X [.int m_vs2, .int ((LX11_toX_75 m_vl m_vs2 m_unmasked zO (cnt (0 : Int32) m_vl) ((0 : Int32), (0 : Int32), (-1 : Int32))).1)] 0 [0, 3] [1, 2] [2, 0, 1, 3] (kX11_bit l D kI kZ b_m b_zO m_thrown b_zX b_zV m_memory m_shut m_choices m_vl m_vtype m_vstart m_vxrm m_vxsat m_done m_illegal m_traps m_trapAddress m_word m_vd m_vs1 m_vs2 m_f3 m_f6 m_sew m_l8 m_unmasked zO m_vs2 ((LX11_toX_75 m_vl m_vs2 m_unmasked zO (cnt (0 : Int32) m_vl) ((0 : Int32), (0 : Int32), (-1 : Int32))).1) (hok.2.2.2.2.1 c1 c3 c4 c11 c14)) vX11_bit q31_10 dX11_toX_100 rfl rfl rfl rfl rfl rfl rfl rfl rfl rfl rfl rfl rfl rfl rfl ?_
          refine k_if_ne (tgt := 109) X dX11_toX_103 (by decide) rfl (fun c15 => ?_) (fun c15 => ?_)
          · skip
            refine k_goto (tgt := 119) X dX11_toX_106 (by decide) ?_
            have e61 : (pX11_toX_119_L2 m_vs2 m_unmasked zO ((LX11_toX_75 m_vl m_vs2 m_unmasked zO (cnt (0 : Int32) m_vl) ((0 : Int32), (0 : Int32), (-1 : Int32))).1) ((LX11_toX_75 m_vl m_vs2 m_unmasked zO (cnt (0 : Int32) m_vl) ((0 : Int32), (0 : Int32), (-1 : Int32))).2.1)) = (LX11_toX_75 m_vl m_vs2 m_unmasked zO (cnt (0 : Int32) m_vl) ((0 : Int32), (0 : Int32), (-1 : Int32))).2.1 := by rw [pX11_toX_119_L2, if_neg c14, if_pos c15]
            rw [e61] at hJ18
            have e62 : (pX11_toX_119_L3 m_vs2 m_unmasked zO ((LX11_toX_75 m_vl m_vs2 m_unmasked zO (cnt (0 : Int32) m_vl) ((0 : Int32), (0 : Int32), (-1 : Int32))).1) ((LX11_toX_75 m_vl m_vs2 m_unmasked zO (cnt (0 : Int32) m_vl) ((0 : Int32), (0 : Int32), (-1 : Int32))).2.2)) = (LX11_toX_75 m_vl m_vs2 m_unmasked zO (cnt (0 : Int32) m_vl) ((0 : Int32), (0 : Int32), (-1 : Int32))).2.2 := by rw [pX11_toX_119_L3, if_neg c14, if_pos c15]
            rw [e62] at hJ18
            exact k_sub [0, 1, 2, 3] rfl hJ18
          refine k_iload_n X dX11_toX_109 rfl 2 rfl rfl ?_
          refine k_mid2 [(b_m, .inr (10, [.int m_thrown, .ref b_zX, .ref b_zV, .ref b_zO, .ref m_memory, .ref m_shut, .long m_choices, .int m_vl, .int m_vtype, .int m_vstart, .int m_vxrm, .int m_vxsat, .int m_done, .int m_illegal, .int m_traps, .int m_trapAddress, .int m_word, .int m_vd, .int m_vs1, .int m_vs2, .int m_f3, .int m_f6, .int m_sew, .int m_l8, .int m_unmasked])), (b_zX, .inl (kI, 32, .inl zX)), (b_zV, .inl (kI, 512, .inl zV)), (b_zO, .inl (kI, 512, .inl zO))] [(0, .ref b_m), (2, .int ((LX11_toX_75 m_vl m_vs2 m_unmasked zO (cnt (0 : Int32) m_vl) ((0 : Int32), (0 : Int32), (-1 : Int32))).2.1)), (3, .int (pX11_toX_116_L3 ((LX11_toX_75 m_vl m_vs2 m_unmasked zO (cnt (0 : Int32) m_vl) ((0 : Int32), (0 : Int32), (-1 : Int32))).1) ((LX11_toX_75 m_vl m_vs2 m_unmasked zO (cnt (0 : Int32) m_vl) ((0 : Int32), (0 : Int32), (-1 : Int32))).2.2))), (4, .int ((LX11_toX_75 m_vl m_vs2 m_unmasked zO (cnt (0 : Int32) m_vl) ((0 : Int32), (0 : Int32), (-1 : Int32))).1))] [] 116 (fun hJ17 => ?_) ?_
          · skip
            refine k_if_ge (tgt := 116) X dX11_toX_110 (by decide) rfl (fun c16 => ?_) (fun c16 => ?_)
            · skip
              have e63 : (pX11_toX_116_L3 ((LX11_toX_75 m_vl m_vs2 m_unmasked zO (cnt (0 : Int32) m_vl) ((0 : Int32), (0 : Int32), (-1 : Int32))).1) ((LX11_toX_75 m_vl m_vs2 m_unmasked zO (cnt (0 : Int32) m_vl) ((0 : Int32), (0 : Int32), (-1 : Int32))).2.2)) = (LX11_toX_75 m_vl m_vs2 m_unmasked zO (cnt (0 : Int32) m_vl) ((0 : Int32), (0 : Int32), (-1 : Int32))).2.2 := by rw [pX11_toX_116_L3, if_pos c16]
              rw [e63] at hJ17
              exact k_sub [0, 1, 2, 3] rfl hJ17
            refine k_iload X dX11_toX_113 3 rfl rfl ?_
            refine k_istore_n (lv' := [(3, .int ((LX11_toX_75 m_vl m_vs2 m_unmasked zO (cnt (0 : Int32) m_vl) ((0 : Int32), (0 : Int32), (-1 : Int32))).1)), (0, .ref b_m), (2, .int ((LX11_toX_75 m_vl m_vs2 m_unmasked zO (cnt (0 : Int32) m_vl) ((0 : Int32), (0 : Int32), (-1 : Int32))).2.1)), (4, .int ((LX11_toX_75 m_vl m_vs2 m_unmasked zO (cnt (0 : Int32) m_vl) ((0 : Int32), (0 : Int32), (-1 : Int32))).1))]) X dX11_toX_115 rfl rfl rfl rfl ?_
            have e64 : (pX11_toX_116_L3 ((LX11_toX_75 m_vl m_vs2 m_unmasked zO (cnt (0 : Int32) m_vl) ((0 : Int32), (0 : Int32), (-1 : Int32))).1) ((LX11_toX_75 m_vl m_vs2 m_unmasked zO (cnt (0 : Int32) m_vl) ((0 : Int32), (0 : Int32), (-1 : Int32))).2.2)) = (LX11_toX_75 m_vl m_vs2 m_unmasked zO (cnt (0 : Int32) m_vl) ((0 : Int32), (0 : Int32), (-1 : Int32))).1 := by rw [pX11_toX_116_L3, if_neg c16]
            rw [e64] at hJ17
            exact k_sub [1, 2, 0, 3] rfl hJ17
          refine k_iinc (lv' := [(2, .int ((LX11_toX_75 m_vl m_vs2 m_unmasked zO (cnt (0 : Int32) m_vl) ((0 : Int32), (0 : Int32), (-1 : Int32))).2.1 + (1 : Int32))), (0, .ref b_m), (3, .int (pX11_toX_116_L3 ((LX11_toX_75 m_vl m_vs2 m_unmasked zO (cnt (0 : Int32) m_vl) ((0 : Int32), (0 : Int32), (-1 : Int32))).1) ((LX11_toX_75 m_vl m_vs2 m_unmasked zO (cnt (0 : Int32) m_vl) ((0 : Int32), (0 : Int32), (-1 : Int32))).2.2))), (4, .int ((LX11_toX_75 m_vl m_vs2 m_unmasked zO (cnt (0 : Int32) m_vl) ((0 : Int32), (0 : Int32), (-1 : Int32))).1))]) X dX11_toX_116 1 rfl kc_i_1 rfl rfl rfl ?_
          have e65 : (pX11_toX_119_L2 m_vs2 m_unmasked zO ((LX11_toX_75 m_vl m_vs2 m_unmasked zO (cnt (0 : Int32) m_vl) ((0 : Int32), (0 : Int32), (-1 : Int32))).1) ((LX11_toX_75 m_vl m_vs2 m_unmasked zO (cnt (0 : Int32) m_vl) ((0 : Int32), (0 : Int32), (-1 : Int32))).2.1)) = ((LX11_toX_75 m_vl m_vs2 m_unmasked zO (cnt (0 : Int32) m_vl) ((0 : Int32), (0 : Int32), (-1 : Int32))).2.1 + (1 : Int32)) := by rw [pX11_toX_119_L2, if_neg c14, if_neg c15]
          rw [e65] at hJ18
          have e66 : (pX11_toX_119_L3 m_vs2 m_unmasked zO ((LX11_toX_75 m_vl m_vs2 m_unmasked zO (cnt (0 : Int32) m_vl) ((0 : Int32), (0 : Int32), (-1 : Int32))).1) ((LX11_toX_75 m_vl m_vs2 m_unmasked zO (cnt (0 : Int32) m_vl) ((0 : Int32), (0 : Int32), (-1 : Int32))).2.2)) = (pX11_toX_116_L3 ((LX11_toX_75 m_vl m_vs2 m_unmasked zO (cnt (0 : Int32) m_vl) ((0 : Int32), (0 : Int32), (-1 : Int32))).1) ((LX11_toX_75 m_vl m_vs2 m_unmasked zO (cnt (0 : Int32) m_vl) ((0 : Int32), (0 : Int32), (-1 : Int32))).2.2)) := by rw [pX11_toX_119_L3, if_neg c14, if_neg c15]
          rw [e66] at hJ18
          exact k_sub [1, 0, 2, 3] rfl hJ18
        refine k_iinc (lv' := [(4, .int ((LX11_toX_75 m_vl m_vs2 m_unmasked zO (cnt (0 : Int32) m_vl) ((0 : Int32), (0 : Int32), (-1 : Int32))).1 + (1 : Int32))), (0, .ref b_m), (2, .int (pX11_toX_119_L2 m_vs2 m_unmasked zO ((LX11_toX_75 m_vl m_vs2 m_unmasked zO (cnt (0 : Int32) m_vl) ((0 : Int32), (0 : Int32), (-1 : Int32))).1) ((LX11_toX_75 m_vl m_vs2 m_unmasked zO (cnt (0 : Int32) m_vl) ((0 : Int32), (0 : Int32), (-1 : Int32))).2.1))), (3, .int (pX11_toX_119_L3 m_vs2 m_unmasked zO ((LX11_toX_75 m_vl m_vs2 m_unmasked zO (cnt (0 : Int32) m_vl) ((0 : Int32), (0 : Int32), (-1 : Int32))).1) ((LX11_toX_75 m_vl m_vs2 m_unmasked zO (cnt (0 : Int32) m_vl) ((0 : Int32), (0 : Int32), (-1 : Int32))).2.2)))]) X dX11_toX_119 3 rfl kc_i_1 rfl rfl rfl ?_
        refine k_goto (tgt := 75) X dX11_toX_122 (by decide) ?_
        exact absurd (show tX11_toX_75 m_vl ((LX11_toX_75 m_vl m_vs2 m_unmasked zO (cnt (0 : Int32) m_vl) ((0 : Int32), (0 : Int32), (-1 : Int32))).1) ((LX11_toX_75 m_vl m_vs2 m_unmasked zO (cnt (0 : Int32) m_vl) ((0 : Int32), (0 : Int32), (-1 : Int32))).2.1) ((LX11_toX_75 m_vl m_vs2 m_unmasked zO (cnt (0 : Int32) m_vl) ((0 : Int32), (0 : Int32), (-1 : Int32))).2.2) from by rw [tX11_toX_75, if_neg c11]; exact True.intro) (hok.2.2.1 c1 c3 c4)
      refine k_iconst X dX11_toX_66 kc_i_0 rfl ?_
      have e67 : (fX11_toX m_vstart m_vs1 m_unmasked) = (0 : Int32) := by rw [fX11_toX, if_neg c1, if_pos c3, if_neg c4]
      have e68 : (fX11_toX__zX m_vl m_vstart m_vd m_vs1 m_vs2 m_sew m_unmasked zX zO) = zX := by rw [fX11_toX__zX, if_neg c1, if_pos c3, if_neg c4]
      exact k_zret9 X hRt hLk rfl e67.symm (by rw [e68]) dX11_toX_67
    refine k_aload_n X dX11_toX_50 rfl 0 rfl rfl ?_
    refine k_get X i_wsX110 0 18 q27_5 rfl rfl rfl rfl rfl dX11_toX_51 rfl ?_
    refine k_bipush X dX11_toX_54 kc_b_17 rfl ?_
    refine k_icmp_ne (tgt := 143) X dX11_toX_56 (by decide) rfl (fun c19 => ?_) (fun c19 => ?_)
    · skip
      refine k_aload_n X dX11_toX_59 rfl 0 rfl rfl ?_
      refine k_get X i_wsX110 0 9 q27_14 rfl rfl rfl rfl rfl dX11_toX_60 rfl ?_
      refine k_if_eq (tgt := 68) X dX11_toX_63 (by decide) rfl (fun c20 => ?_) (fun c20 => ?_)
      · skip
        refine k_iconst X dX11_toX_68 kc_i_0 rfl ?_
        refine k_istore_n (lv' := [(2, .int (0 : Int32)), (0, .ref b_m)]) X dX11_toX_69 rfl rfl rfl rfl ?_
        refine k_iconst X dX11_toX_70 kc_i_m1 rfl ?_
        refine k_istore_n (lv' := [(3, .int (-1 : Int32)), (2, .int (0 : Int32)), (0, .ref b_m)]) X dX11_toX_71 rfl rfl rfl rfl ?_
        refine k_iconst X dX11_toX_72 kc_i_0 rfl ?_
        refine k_istore (lv' := [(4, .int (0 : Int32)), (3, .int (-1 : Int32)), (2, .int (0 : Int32)), (0, .ref b_m)]) X dX11_toX_73 rfl rfl rfl ?_
        refine k_sub [3, 2, 1, 0] (lv' := [(0, .ref b_m), (2, .int (0 : Int32)), (3, .int (-1 : Int32)), (4, .int (0 : Int32))]) rfl ?_
        refine k_loop (KX11_toX_75 m_vl m_vs2 m_unmasked zO) (LX11_toX_75 m_vl m_vs2 m_unmasked zO) (fun s9 => (bX11_toX_75_L4 m_vl s9.1 s9.2.1 s9.2.2, bX11_toX_75_L2 m_vl m_vs2 m_unmasked zO s9.1 s9.2.1 s9.2.2, bX11_toX_75_L3 m_vl m_vs2 m_unmasked zO s9.1 s9.2.1 s9.2.2)) (fun s9 => tX11_toX_75 m_vl s9.1 s9.2.1 s9.2.2 ∧ oX11_toX_75 m_vl m_vs2 m_unmasked zO s9.1 s9.2.1 s9.2.2) (fun s9 => [(b_m, .inr (10, [.int m_thrown, .ref b_zX, .ref b_zV, .ref b_zO, .ref m_memory, .ref m_shut, .long m_choices, .int m_vl, .int m_vtype, .int m_vstart, .int m_vxrm, .int m_vxsat, .int m_done, .int m_illegal, .int m_traps, .int m_trapAddress, .int m_word, .int m_vd, .int m_vs1, .int m_vs2, .int m_f3, .int m_f6, .int m_sew, .int m_l8, .int m_unmasked])), (b_zX, .inl (kI, 32, .inl zX)), (b_zV, .inl (kI, 512, .inl zV)), (b_zO, .inl (kI, 512, .inl zO))]) (fun s9 => [(0, .ref b_m), (2, .int s9.2.1), (3, .int s9.2.2), (4, .int s9.1)]) 75 (fun _ => rfl) (fun _ _ => rfl) (fun _ _ h => h) ?_ (cnt (0 : Int32) m_vl) ((0 : Int32), (0 : Int32), (-1 : Int32)) (hok.2.2.2.2.2.1 c1 c3 c19 c20) ?_
        · rintro ⟨w_L4, w_L2, w_L3⟩ ⟨hlat, hob⟩ g0
          try dsimp only at hlat hob g0 ⊢
          unfold oX11_toX_75 at hob
          refine k_iload X dX11_toX_75 3 rfl rfl ?_
          refine k_aload_n X dX11_toX_77 rfl 0 rfl rfl ?_
          refine k_get X i_wsX110 0 7 q28_7 rfl rfl rfl rfl rfl dX11_toX_78 rfl ?_
          refine k_icmp_ge (tgt := 125) X dX11_toX_81 (by decide) rfl (fun c21 => ?_) (fun c21 => ?_)
          · skip
            exact absurd hlat (by rw [tX11_toX_75, if_pos c21]; exact id)
          refine k_aload_n X dX11_toX_84 rfl 0 rfl rfl ?_
          refine k_iload X dX11_toX_85 3 rfl rfl ?_
          refine k_cV1 (st := []) (ws' := [(b_m, .inr (10, [.int m_thrown, .ref b_zX, .ref b_zV, .ref b_zO, .ref m_memory, .ref m_shut, .long m_choices, .int m_vl, .int m_vtype, .int m_vstart, .int m_vxrm, .int m_vxsat, .int m_done, .int m_illegal, .int m_traps, .int m_trapAddress, .int m_word, .int m_vd, .int m_vs1, .int m_vs2, .int m_f3, .int m_f6, .int m_sew, .int m_l8, .int m_unmasked])), (b_zX, .inl (kI, 32, .inl zX)), (b_zV, .inl (kI, 512, .inl zV)), (b_zO, .inl (kI, 512, .inl zO))]) (wr := [(b_zX, .inl (kI, 32, .inl zX)), (b_zV, .inl (kI, 512, .inl zV))]) (ci := 10) (q9 := 0) X [.int w_L4] 0 [0, 3] [1, 2] [2, 0, 1, 3] (kX11_isActive l D kI kZ b_m b_zO m_thrown b_zX b_zV m_memory m_shut m_choices m_vl m_vtype m_vstart m_vxrm m_vxsat m_done m_illegal m_traps m_trapAddress m_word m_vd m_vs1 m_vs2 m_f3 m_f6 m_sew m_l8 m_unmasked zO w_L4 (hob.1 c21)) vX11_isActive q31_6 dX11_toX_87 rfl rfl rfl rfl rfl rfl rfl rfl rfl rfl rfl rfl rfl rfl rfl ?_
          refine k_mid2 [(b_m, .inr (10, [.int m_thrown, .ref b_zX, .ref b_zV, .ref b_zO, .ref m_memory, .ref m_shut, .long m_choices, .int m_vl, .int m_vtype, .int m_vstart, .int m_vxrm, .int m_vxsat, .int m_done, .int m_illegal, .int m_traps, .int m_trapAddress, .int m_word, .int m_vd, .int m_vs1, .int m_vs2, .int m_f3, .int m_f6, .int m_sew, .int m_l8, .int m_unmasked])), (b_zX, .inl (kI, 32, .inl zX)), (b_zV, .inl (kI, 512, .inl zV)), (b_zO, .inl (kI, 512, .inl zO))] [(0, .ref b_m), (2, .int (pX11_toX_119_L2 m_vs2 m_unmasked zO w_L4 w_L2)), (3, .int (pX11_toX_119_L3 m_vs2 m_unmasked zO w_L4 w_L3)), (4, .int w_L4)] [] 119 (fun hJ26 => ?_) ?_
          · skip
            refine k_if_eq (tgt := 119) X dX11_toX_90 (by decide) rfl (fun c22 => ?_) (fun c22 => ?_)
            · skip
              have e69 : (pX11_toX_119_L2 m_vs2 m_unmasked zO w_L4 w_L2) = w_L2 := by rw [pX11_toX_119_L2, if_pos c22]
              rw [e69] at hJ26
              have e70 : (pX11_toX_119_L3 m_vs2 m_unmasked zO w_L4 w_L3) = w_L3 := by rw [pX11_toX_119_L3, if_pos c22]
              rw [e70] at hJ26
              exact k_sub [0, 1, 2, 3] rfl hJ26
            refine k_aload_n X dX11_toX_93 rfl 0 rfl rfl ?_
            refine k_aload_n X dX11_toX_94 rfl 0 rfl rfl ?_
            refine k_get X i_wsX110 0 19 q27_6 rfl rfl rfl rfl rfl dX11_toX_95 rfl ?_
            refine k_iload X dX11_toX_98 3 rfl rfl ?_
            refine k_cV1 (st := []) (ws' := [(b_m, .inr (10, [.int m_thrown, .ref b_zX, .ref b_zV, .ref b_zO, .ref m_memory, .ref m_shut, .long m_choices, .int m_vl, .int m_vtype, .int m_vstart, .int m_vxrm, .int m_vxsat, .int m_done, .int m_illegal, .int m_traps, .int m_trapAddress, .int m_word, .int m_vd, .int m_vs1, .int m_vs2, .int m_f3, .int m_f6, .int m_sew, .int m_l8, .int m_unmasked])), (b_zX, .inl (kI, 32, .inl zX)), (b_zV, .inl (kI, 512, .inl zV)), (b_zO, .inl (kI, 512, .inl zO))]) (wr := [(b_zX, .inl (kI, 32, .inl zX)), (b_zV, .inl (kI, 512, .inl zV))]) (ci := 10) (q9 := 0) X [.int m_vs2, .int w_L4] 0 [0, 3] [1, 2] [2, 0, 1, 3] (kX11_bit l D kI kZ b_m b_zO m_thrown b_zX b_zV m_memory m_shut m_choices m_vl m_vtype m_vstart m_vxrm m_vxsat m_done m_illegal m_traps m_trapAddress m_word m_vd m_vs1 m_vs2 m_f3 m_f6 m_sew m_l8 m_unmasked zO m_vs2 w_L4 (hob.2 c21 c22)) vX11_bit q31_10 dX11_toX_100 rfl rfl rfl rfl rfl rfl rfl rfl rfl rfl rfl rfl rfl rfl rfl ?_
            refine k_if_ne (tgt := 109) X dX11_toX_103 (by decide) rfl (fun c23 => ?_) (fun c23 => ?_)
            · skip
              refine k_goto (tgt := 119) X dX11_toX_106 (by decide) ?_
              have e71 : (pX11_toX_119_L2 m_vs2 m_unmasked zO w_L4 w_L2) = w_L2 := by rw [pX11_toX_119_L2, if_neg c22, if_pos c23]
              rw [e71] at hJ26
              have e72 : (pX11_toX_119_L3 m_vs2 m_unmasked zO w_L4 w_L3) = w_L3 := by rw [pX11_toX_119_L3, if_neg c22, if_pos c23]
              rw [e72] at hJ26
              exact k_sub [0, 1, 2, 3] rfl hJ26
            refine k_iload_n X dX11_toX_109 rfl 2 rfl rfl ?_
            refine k_mid2 [(b_m, .inr (10, [.int m_thrown, .ref b_zX, .ref b_zV, .ref b_zO, .ref m_memory, .ref m_shut, .long m_choices, .int m_vl, .int m_vtype, .int m_vstart, .int m_vxrm, .int m_vxsat, .int m_done, .int m_illegal, .int m_traps, .int m_trapAddress, .int m_word, .int m_vd, .int m_vs1, .int m_vs2, .int m_f3, .int m_f6, .int m_sew, .int m_l8, .int m_unmasked])), (b_zX, .inl (kI, 32, .inl zX)), (b_zV, .inl (kI, 512, .inl zV)), (b_zO, .inl (kI, 512, .inl zO))] [(0, .ref b_m), (2, .int w_L2), (3, .int (pX11_toX_116_L3 w_L4 w_L3)), (4, .int w_L4)] [] 116 (fun hJ25 => ?_) ?_
            · skip
              refine k_if_ge (tgt := 116) X dX11_toX_110 (by decide) rfl (fun c24 => ?_) (fun c24 => ?_)
              · skip
                have e73 : (pX11_toX_116_L3 w_L4 w_L3) = w_L3 := by rw [pX11_toX_116_L3, if_pos c24]
                rw [e73] at hJ25
                exact k_sub [0, 1, 2, 3] rfl hJ25
              refine k_iload X dX11_toX_113 3 rfl rfl ?_
              refine k_istore_n (lv' := [(3, .int w_L4), (0, .ref b_m), (2, .int w_L2), (4, .int w_L4)]) X dX11_toX_115 rfl rfl rfl rfl ?_
              have e74 : (pX11_toX_116_L3 w_L4 w_L3) = w_L4 := by rw [pX11_toX_116_L3, if_neg c24]
              rw [e74] at hJ25
              exact k_sub [1, 2, 0, 3] rfl hJ25
            refine k_iinc (lv' := [(2, .int (w_L2 + (1 : Int32))), (0, .ref b_m), (3, .int (pX11_toX_116_L3 w_L4 w_L3)), (4, .int w_L4)]) X dX11_toX_116 1 rfl kc_i_1 rfl rfl rfl ?_
            have e75 : (pX11_toX_119_L2 m_vs2 m_unmasked zO w_L4 w_L2) = (w_L2 + (1 : Int32)) := by rw [pX11_toX_119_L2, if_neg c22, if_neg c23]
            rw [e75] at hJ26
            have e76 : (pX11_toX_119_L3 m_vs2 m_unmasked zO w_L4 w_L3) = (pX11_toX_116_L3 w_L4 w_L3) := by rw [pX11_toX_119_L3, if_neg c22, if_neg c23]
            rw [e76] at hJ26
            exact k_sub [1, 0, 2, 3] rfl hJ26
          refine k_iinc (lv' := [(4, .int (w_L4 + (1 : Int32))), (0, .ref b_m), (2, .int (pX11_toX_119_L2 m_vs2 m_unmasked zO w_L4 w_L2)), (3, .int (pX11_toX_119_L3 m_vs2 m_unmasked zO w_L4 w_L3))]) X dX11_toX_119 3 rfl kc_i_1 rfl rfl rfl ?_
          refine k_goto (tgt := 75) X dX11_toX_122 (by decide) ?_
          have e77 : bX11_toX_75_L4 m_vl w_L4 w_L2 w_L3 = (w_L4 + (1 : Int32)) := by rw [bX11_toX_75_L4, if_neg c21]
          rw [e77] at g0
          have e78 : bX11_toX_75_L2 m_vl m_vs2 m_unmasked zO w_L4 w_L2 w_L3 = (pX11_toX_119_L2 m_vs2 m_unmasked zO w_L4 w_L2) := by rw [bX11_toX_75_L2, if_neg c21]
          rw [e78] at g0
          have e79 : bX11_toX_75_L3 m_vl m_vs2 m_unmasked zO w_L4 w_L2 w_L3 = (pX11_toX_119_L3 m_vs2 m_unmasked zO w_L4 w_L3) := by rw [bX11_toX_75_L3, if_neg c21]
          rw [e79] at g0
          exact k_sub [1, 2, 3, 0] rfl g0
        try dsimp only
        refine k_iload X dX11_toX_75 3 rfl rfl ?_
        refine k_aload_n X dX11_toX_77 rfl 0 rfl rfl ?_
        refine k_get X i_wsX110 0 7 q28_7 rfl rfl rfl rfl rfl dX11_toX_78 rfl ?_
        refine k_icmp_ge (tgt := 125) X dX11_toX_81 (by decide) rfl (fun c27 => ?_) (fun c27 => ?_)
        · skip
          refine k_aload_n X dX11_toX_125 rfl 0 rfl rfl ?_
          refine k_get X i_wsX110 0 18 q27_5 rfl rfl rfl rfl rfl dX11_toX_126 rfl ?_
          refine k_bipush X dX11_toX_129 kc_b_16 rfl ?_
          refine k_mid2 [(b_m, .inr (10, [.int m_thrown, .ref b_zX, .ref b_zV, .ref b_zO, .ref m_memory, .ref m_shut, .long m_choices, .int m_vl, .int m_vtype, .int m_vstart, .int m_vxrm, .int m_vxsat, .int m_done, .int m_illegal, .int m_traps, .int m_trapAddress, .int m_word, .int m_vd, .int m_vs1, .int m_vs2, .int m_f3, .int m_f6, .int m_sew, .int m_l8, .int m_unmasked])), (b_zX, .inl (kI, 32, .inl zX)), (b_zV, .inl (kI, 512, .inl zV)), (b_zO, .inl (kI, 512, .inl zO))] [(0, .ref b_m), (2, .int ((LX11_toX_75 m_vl m_vs2 m_unmasked zO (cnt (0 : Int32) m_vl) ((0 : Int32), (0 : Int32), (-1 : Int32))).2.1)), (3, .int ((LX11_toX_75 m_vl m_vs2 m_unmasked zO (cnt (0 : Int32) m_vl) ((0 : Int32), (0 : Int32), (-1 : Int32))).2.2)), (4, .int ((LX11_toX_75 m_vl m_vs2 m_unmasked zO (cnt (0 : Int32) m_vl) ((0 : Int32), (0 : Int32), (-1 : Int32))).1))] [.int (pX11_toX_139_S1 m_vl m_vs1 m_vs2 m_unmasked zO)] 139 (fun hJ29 => ?_) ?_
          · skip
            refine k_icmp_ne (tgt := 138) X dX11_toX_131 (by decide) rfl (fun c28 => ?_) (fun c28 => ?_)
            · skip
              refine k_iload_n X dX11_toX_134 rfl 1 rfl rfl ?_
              refine k_goto (tgt := 139) X dX11_toX_135 (by decide) ?_
              have e80 : (pX11_toX_139_S1 m_vl m_vs1 m_vs2 m_unmasked zO) = (LX11_toX_75 m_vl m_vs2 m_unmasked zO (cnt (0 : Int32) m_vl) ((0 : Int32), (0 : Int32), (-1 : Int32))).2.1 := by rw [pX11_toX_139_S1, if_pos c28]
              rw [e80] at hJ29
              exact k_sub [0, 1, 2, 3] rfl hJ29
            refine k_iload_n X dX11_toX_138 rfl 2 rfl rfl ?_
            have e81 : (pX11_toX_139_S1 m_vl m_vs1 m_vs2 m_unmasked zO) = (LX11_toX_75 m_vl m_vs2 m_unmasked zO (cnt (0 : Int32) m_vl) ((0 : Int32), (0 : Int32), (-1 : Int32))).2.2 := by rw [pX11_toX_139_S1, if_neg c28]
            rw [e81] at hJ29
            exact k_sub [0, 1, 2, 3] rfl hJ29
          refine k_istore_n (lv' := [(1, .int (pX11_toX_139_S1 m_vl m_vs1 m_vs2 m_unmasked zO)), (0, .ref b_m), (2, .int ((LX11_toX_75 m_vl m_vs2 m_unmasked zO (cnt (0 : Int32) m_vl) ((0 : Int32), (0 : Int32), (-1 : Int32))).2.1)), (3, .int ((LX11_toX_75 m_vl m_vs2 m_unmasked zO (cnt (0 : Int32) m_vl) ((0 : Int32), (0 : Int32), (-1 : Int32))).2.2)), (4, .int ((LX11_toX_75 m_vl m_vs2 m_unmasked zO (cnt (0 : Int32) m_vl) ((0 : Int32), (0 : Int32), (-1 : Int32))).1))]) X dX11_toX_139 rfl rfl rfl rfl ?_
          refine k_goto (tgt := 145) X dX11_toX_140 (by decide) ?_
          have e82 : (fX11_toX m_vstart m_vs1 m_unmasked) = rX11_toX_145 := by rw [fX11_toX, if_neg c1, if_neg c3, if_pos c19, if_pos c20]
          have e83 : (fX11_toX__zX m_vl m_vstart m_vd m_vs1 m_vs2 m_sew m_unmasked zX zO) = (rX11_toX_145__zX m_vl m_vstart m_vd m_vs1 m_vs2 m_sew m_unmasked zX zO) := by rw [fX11_toX__zX, if_neg c1, if_neg c3, if_pos c19, if_pos c20]
          rw [e82, e83]
          have e84 : (pX11_toX_145_L1 m_vl m_vstart m_vs1 m_vs2 m_sew m_unmasked zO) = (pX11_toX_139_S1 m_vl m_vs1 m_vs2 m_unmasked zO) := by rw [pX11_toX_145_L1, if_neg c1, if_neg c3, if_pos c19, if_pos c20, if_pos c27]
          rw [e84] at hJ35
          exact k_sub [1, 0] rfl hJ35
        refine k_aload_n X dX11_toX_84 rfl 0 rfl rfl ?_
        refine k_iload X dX11_toX_85 3 rfl rfl ?_
        refine k_cV1 (st := []) (ws' := [(b_m, .inr (10, [.int m_thrown, .ref b_zX, .ref b_zV, .ref b_zO, .ref m_memory, .ref m_shut, .long m_choices, .int m_vl, .int m_vtype, .int m_vstart, .int m_vxrm, .int m_vxsat, .int m_done, .int m_illegal, .int m_traps, .int m_trapAddress, .int m_word, .int m_vd, .int m_vs1, .int m_vs2, .int m_f3, .int m_f6, .int m_sew, .int m_l8, .int m_unmasked])), (b_zX, .inl (kI, 32, .inl zX)), (b_zV, .inl (kI, 512, .inl zV)), (b_zO, .inl (kI, 512, .inl zO))]) (wr := [(b_zX, .inl (kI, 32, .inl zX)), (b_zV, .inl (kI, 512, .inl zV))]) (ci := 10) (q9 := 0) X [.int ((LX11_toX_75 m_vl m_vs2 m_unmasked zO (cnt (0 : Int32) m_vl) ((0 : Int32), (0 : Int32), (-1 : Int32))).1)] 0 [0, 3] [1, 2] [2, 0, 1, 3] (kX11_isActive l D kI kZ b_m b_zO m_thrown b_zX b_zV m_memory m_shut m_choices m_vl m_vtype m_vstart m_vxrm m_vxsat m_done m_illegal m_traps m_trapAddress m_word m_vd m_vs1 m_vs2 m_f3 m_f6 m_sew m_l8 m_unmasked zO ((LX11_toX_75 m_vl m_vs2 m_unmasked zO (cnt (0 : Int32) m_vl) ((0 : Int32), (0 : Int32), (-1 : Int32))).1) (hok.2.2.2.2.2.2.2.1 c1 c3 c19 c20 c27)) vX11_isActive q31_6 dX11_toX_87 rfl rfl rfl rfl rfl rfl rfl rfl rfl rfl rfl rfl rfl rfl rfl ?_
        refine k_mid2 [(b_m, .inr (10, [.int m_thrown, .ref b_zX, .ref b_zV, .ref b_zO, .ref m_memory, .ref m_shut, .long m_choices, .int m_vl, .int m_vtype, .int m_vstart, .int m_vxrm, .int m_vxsat, .int m_done, .int m_illegal, .int m_traps, .int m_trapAddress, .int m_word, .int m_vd, .int m_vs1, .int m_vs2, .int m_f3, .int m_f6, .int m_sew, .int m_l8, .int m_unmasked])), (b_zX, .inl (kI, 32, .inl zX)), (b_zV, .inl (kI, 512, .inl zV)), (b_zO, .inl (kI, 512, .inl zO))] [(0, .ref b_m), (2, .int (pX11_toX_119_L2 m_vs2 m_unmasked zO ((LX11_toX_75 m_vl m_vs2 m_unmasked zO (cnt (0 : Int32) m_vl) ((0 : Int32), (0 : Int32), (-1 : Int32))).1) ((LX11_toX_75 m_vl m_vs2 m_unmasked zO (cnt (0 : Int32) m_vl) ((0 : Int32), (0 : Int32), (-1 : Int32))).2.1))), (3, .int (pX11_toX_119_L3 m_vs2 m_unmasked zO ((LX11_toX_75 m_vl m_vs2 m_unmasked zO (cnt (0 : Int32) m_vl) ((0 : Int32), (0 : Int32), (-1 : Int32))).1) ((LX11_toX_75 m_vl m_vs2 m_unmasked zO (cnt (0 : Int32) m_vl) ((0 : Int32), (0 : Int32), (-1 : Int32))).2.2))), (4, .int ((LX11_toX_75 m_vl m_vs2 m_unmasked zO (cnt (0 : Int32) m_vl) ((0 : Int32), (0 : Int32), (-1 : Int32))).1))] [] 119 (fun hJ34 => ?_) ?_
        · skip
          refine k_if_eq (tgt := 119) X dX11_toX_90 (by decide) rfl (fun c30 => ?_) (fun c30 => ?_)
          · skip
            have e85 : (pX11_toX_119_L2 m_vs2 m_unmasked zO ((LX11_toX_75 m_vl m_vs2 m_unmasked zO (cnt (0 : Int32) m_vl) ((0 : Int32), (0 : Int32), (-1 : Int32))).1) ((LX11_toX_75 m_vl m_vs2 m_unmasked zO (cnt (0 : Int32) m_vl) ((0 : Int32), (0 : Int32), (-1 : Int32))).2.1)) = (LX11_toX_75 m_vl m_vs2 m_unmasked zO (cnt (0 : Int32) m_vl) ((0 : Int32), (0 : Int32), (-1 : Int32))).2.1 := by rw [pX11_toX_119_L2, if_pos c30]
            rw [e85] at hJ34
            have e86 : (pX11_toX_119_L3 m_vs2 m_unmasked zO ((LX11_toX_75 m_vl m_vs2 m_unmasked zO (cnt (0 : Int32) m_vl) ((0 : Int32), (0 : Int32), (-1 : Int32))).1) ((LX11_toX_75 m_vl m_vs2 m_unmasked zO (cnt (0 : Int32) m_vl) ((0 : Int32), (0 : Int32), (-1 : Int32))).2.2)) = (LX11_toX_75 m_vl m_vs2 m_unmasked zO (cnt (0 : Int32) m_vl) ((0 : Int32), (0 : Int32), (-1 : Int32))).2.2 := by rw [pX11_toX_119_L3, if_pos c30]
            rw [e86] at hJ34
            exact k_sub [0, 1, 2, 3] rfl hJ34
          refine k_aload_n X dX11_toX_93 rfl 0 rfl rfl ?_
          refine k_aload_n X dX11_toX_94 rfl 0 rfl rfl ?_
          refine k_get X i_wsX110 0 19 q27_6 rfl rfl rfl rfl rfl dX11_toX_95 rfl ?_
          refine k_iload X dX11_toX_98 3 rfl rfl ?_
          refine k_cV1 (st := []) (ws' := [(b_m, .inr (10, [.int m_thrown, .ref b_zX, .ref b_zV, .ref b_zO, .ref m_memory, .ref m_shut, .long m_choices, .int m_vl, .int m_vtype, .int m_vstart, .int m_vxrm, .int m_vxsat, .int m_done, .int m_illegal, .int m_traps, .int m_trapAddress, .int m_word, .int m_vd, .int m_vs1, .int m_vs2, .int m_f3, .int m_f6, .int m_sew, .int m_l8, .int m_unmasked])), (b_zX, .inl (kI, 32, .inl zX)), (b_zV, .inl (kI, 512, .inl zV)), (b_zO, .inl (kI, 512, .inl zO))]) (wr := [(b_zX, .inl (kI, 32, .inl zX)), (b_zV, .inl (kI, 512, .inl zV))]) (ci := 10) (q9 := 0) X [.int m_vs2, .int ((LX11_toX_75 m_vl m_vs2 m_unmasked zO (cnt (0 : Int32) m_vl) ((0 : Int32), (0 : Int32), (-1 : Int32))).1)] 0 [0, 3] [1, 2] [2, 0, 1, 3] (kX11_bit l D kI kZ b_m b_zO m_thrown b_zX b_zV m_memory m_shut m_choices m_vl m_vtype m_vstart m_vxrm m_vxsat m_done m_illegal m_traps m_trapAddress m_word m_vd m_vs1 m_vs2 m_f3 m_f6 m_sew m_l8 m_unmasked zO m_vs2 ((LX11_toX_75 m_vl m_vs2 m_unmasked zO (cnt (0 : Int32) m_vl) ((0 : Int32), (0 : Int32), (-1 : Int32))).1) (hok.2.2.2.2.2.2.2.2.1 c1 c3 c19 c20 c27 c30)) vX11_bit q31_10 dX11_toX_100 rfl rfl rfl rfl rfl rfl rfl rfl rfl rfl rfl rfl rfl rfl rfl ?_
          refine k_if_ne (tgt := 109) X dX11_toX_103 (by decide) rfl (fun c31 => ?_) (fun c31 => ?_)
          · skip
            refine k_goto (tgt := 119) X dX11_toX_106 (by decide) ?_
            have e87 : (pX11_toX_119_L2 m_vs2 m_unmasked zO ((LX11_toX_75 m_vl m_vs2 m_unmasked zO (cnt (0 : Int32) m_vl) ((0 : Int32), (0 : Int32), (-1 : Int32))).1) ((LX11_toX_75 m_vl m_vs2 m_unmasked zO (cnt (0 : Int32) m_vl) ((0 : Int32), (0 : Int32), (-1 : Int32))).2.1)) = (LX11_toX_75 m_vl m_vs2 m_unmasked zO (cnt (0 : Int32) m_vl) ((0 : Int32), (0 : Int32), (-1 : Int32))).2.1 := by rw [pX11_toX_119_L2, if_neg c30, if_pos c31]
            rw [e87] at hJ34
            have e88 : (pX11_toX_119_L3 m_vs2 m_unmasked zO ((LX11_toX_75 m_vl m_vs2 m_unmasked zO (cnt (0 : Int32) m_vl) ((0 : Int32), (0 : Int32), (-1 : Int32))).1) ((LX11_toX_75 m_vl m_vs2 m_unmasked zO (cnt (0 : Int32) m_vl) ((0 : Int32), (0 : Int32), (-1 : Int32))).2.2)) = (LX11_toX_75 m_vl m_vs2 m_unmasked zO (cnt (0 : Int32) m_vl) ((0 : Int32), (0 : Int32), (-1 : Int32))).2.2 := by rw [pX11_toX_119_L3, if_neg c30, if_pos c31]
            rw [e88] at hJ34
            exact k_sub [0, 1, 2, 3] rfl hJ34
          refine k_iload_n X dX11_toX_109 rfl 2 rfl rfl ?_
          refine k_mid2 [(b_m, .inr (10, [.int m_thrown, .ref b_zX, .ref b_zV, .ref b_zO, .ref m_memory, .ref m_shut, .long m_choices, .int m_vl, .int m_vtype, .int m_vstart, .int m_vxrm, .int m_vxsat, .int m_done, .int m_illegal, .int m_traps, .int m_trapAddress, .int m_word, .int m_vd, .int m_vs1, .int m_vs2, .int m_f3, .int m_f6, .int m_sew, .int m_l8, .int m_unmasked])), (b_zX, .inl (kI, 32, .inl zX)), (b_zV, .inl (kI, 512, .inl zV)), (b_zO, .inl (kI, 512, .inl zO))] [(0, .ref b_m), (2, .int ((LX11_toX_75 m_vl m_vs2 m_unmasked zO (cnt (0 : Int32) m_vl) ((0 : Int32), (0 : Int32), (-1 : Int32))).2.1)), (3, .int (pX11_toX_116_L3 ((LX11_toX_75 m_vl m_vs2 m_unmasked zO (cnt (0 : Int32) m_vl) ((0 : Int32), (0 : Int32), (-1 : Int32))).1) ((LX11_toX_75 m_vl m_vs2 m_unmasked zO (cnt (0 : Int32) m_vl) ((0 : Int32), (0 : Int32), (-1 : Int32))).2.2))), (4, .int ((LX11_toX_75 m_vl m_vs2 m_unmasked zO (cnt (0 : Int32) m_vl) ((0 : Int32), (0 : Int32), (-1 : Int32))).1))] [] 116 (fun hJ33 => ?_) ?_
          · skip
            refine k_if_ge (tgt := 116) X dX11_toX_110 (by decide) rfl (fun c32 => ?_) (fun c32 => ?_)
            · skip
              have e89 : (pX11_toX_116_L3 ((LX11_toX_75 m_vl m_vs2 m_unmasked zO (cnt (0 : Int32) m_vl) ((0 : Int32), (0 : Int32), (-1 : Int32))).1) ((LX11_toX_75 m_vl m_vs2 m_unmasked zO (cnt (0 : Int32) m_vl) ((0 : Int32), (0 : Int32), (-1 : Int32))).2.2)) = (LX11_toX_75 m_vl m_vs2 m_unmasked zO (cnt (0 : Int32) m_vl) ((0 : Int32), (0 : Int32), (-1 : Int32))).2.2 := by rw [pX11_toX_116_L3, if_pos c32]
              rw [e89] at hJ33
              exact k_sub [0, 1, 2, 3] rfl hJ33
            refine k_iload X dX11_toX_113 3 rfl rfl ?_
            refine k_istore_n (lv' := [(3, .int ((LX11_toX_75 m_vl m_vs2 m_unmasked zO (cnt (0 : Int32) m_vl) ((0 : Int32), (0 : Int32), (-1 : Int32))).1)), (0, .ref b_m), (2, .int ((LX11_toX_75 m_vl m_vs2 m_unmasked zO (cnt (0 : Int32) m_vl) ((0 : Int32), (0 : Int32), (-1 : Int32))).2.1)), (4, .int ((LX11_toX_75 m_vl m_vs2 m_unmasked zO (cnt (0 : Int32) m_vl) ((0 : Int32), (0 : Int32), (-1 : Int32))).1))]) X dX11_toX_115 rfl rfl rfl rfl ?_
            have e90 : (pX11_toX_116_L3 ((LX11_toX_75 m_vl m_vs2 m_unmasked zO (cnt (0 : Int32) m_vl) ((0 : Int32), (0 : Int32), (-1 : Int32))).1) ((LX11_toX_75 m_vl m_vs2 m_unmasked zO (cnt (0 : Int32) m_vl) ((0 : Int32), (0 : Int32), (-1 : Int32))).2.2)) = (LX11_toX_75 m_vl m_vs2 m_unmasked zO (cnt (0 : Int32) m_vl) ((0 : Int32), (0 : Int32), (-1 : Int32))).1 := by rw [pX11_toX_116_L3, if_neg c32]
            rw [e90] at hJ33
            exact k_sub [1, 2, 0, 3] rfl hJ33
          refine k_iinc (lv' := [(2, .int ((LX11_toX_75 m_vl m_vs2 m_unmasked zO (cnt (0 : Int32) m_vl) ((0 : Int32), (0 : Int32), (-1 : Int32))).2.1 + (1 : Int32))), (0, .ref b_m), (3, .int (pX11_toX_116_L3 ((LX11_toX_75 m_vl m_vs2 m_unmasked zO (cnt (0 : Int32) m_vl) ((0 : Int32), (0 : Int32), (-1 : Int32))).1) ((LX11_toX_75 m_vl m_vs2 m_unmasked zO (cnt (0 : Int32) m_vl) ((0 : Int32), (0 : Int32), (-1 : Int32))).2.2))), (4, .int ((LX11_toX_75 m_vl m_vs2 m_unmasked zO (cnt (0 : Int32) m_vl) ((0 : Int32), (0 : Int32), (-1 : Int32))).1))]) X dX11_toX_116 1 rfl kc_i_1 rfl rfl rfl ?_
          have e91 : (pX11_toX_119_L2 m_vs2 m_unmasked zO ((LX11_toX_75 m_vl m_vs2 m_unmasked zO (cnt (0 : Int32) m_vl) ((0 : Int32), (0 : Int32), (-1 : Int32))).1) ((LX11_toX_75 m_vl m_vs2 m_unmasked zO (cnt (0 : Int32) m_vl) ((0 : Int32), (0 : Int32), (-1 : Int32))).2.1)) = ((LX11_toX_75 m_vl m_vs2 m_unmasked zO (cnt (0 : Int32) m_vl) ((0 : Int32), (0 : Int32), (-1 : Int32))).2.1 + (1 : Int32)) := by rw [pX11_toX_119_L2, if_neg c30, if_neg c31]
          rw [e91] at hJ34
          have e92 : (pX11_toX_119_L3 m_vs2 m_unmasked zO ((LX11_toX_75 m_vl m_vs2 m_unmasked zO (cnt (0 : Int32) m_vl) ((0 : Int32), (0 : Int32), (-1 : Int32))).1) ((LX11_toX_75 m_vl m_vs2 m_unmasked zO (cnt (0 : Int32) m_vl) ((0 : Int32), (0 : Int32), (-1 : Int32))).2.2)) = (pX11_toX_116_L3 ((LX11_toX_75 m_vl m_vs2 m_unmasked zO (cnt (0 : Int32) m_vl) ((0 : Int32), (0 : Int32), (-1 : Int32))).1) ((LX11_toX_75 m_vl m_vs2 m_unmasked zO (cnt (0 : Int32) m_vl) ((0 : Int32), (0 : Int32), (-1 : Int32))).2.2)) := by rw [pX11_toX_119_L3, if_neg c30, if_neg c31]
          rw [e92] at hJ34
          exact k_sub [1, 0, 2, 3] rfl hJ34
        refine k_iinc (lv' := [(4, .int ((LX11_toX_75 m_vl m_vs2 m_unmasked zO (cnt (0 : Int32) m_vl) ((0 : Int32), (0 : Int32), (-1 : Int32))).1 + (1 : Int32))), (0, .ref b_m), (2, .int (pX11_toX_119_L2 m_vs2 m_unmasked zO ((LX11_toX_75 m_vl m_vs2 m_unmasked zO (cnt (0 : Int32) m_vl) ((0 : Int32), (0 : Int32), (-1 : Int32))).1) ((LX11_toX_75 m_vl m_vs2 m_unmasked zO (cnt (0 : Int32) m_vl) ((0 : Int32), (0 : Int32), (-1 : Int32))).2.1))), (3, .int (pX11_toX_119_L3 m_vs2 m_unmasked zO ((LX11_toX_75 m_vl m_vs2 m_unmasked zO (cnt (0 : Int32) m_vl) ((0 : Int32), (0 : Int32), (-1 : Int32))).1) ((LX11_toX_75 m_vl m_vs2 m_unmasked zO (cnt (0 : Int32) m_vl) ((0 : Int32), (0 : Int32), (-1 : Int32))).2.2)))]) X dX11_toX_119 3 rfl kc_i_1 rfl rfl rfl ?_
        refine k_goto (tgt := 75) X dX11_toX_122 (by decide) ?_
        exact absurd (show tX11_toX_75 m_vl ((LX11_toX_75 m_vl m_vs2 m_unmasked zO (cnt (0 : Int32) m_vl) ((0 : Int32), (0 : Int32), (-1 : Int32))).1) ((LX11_toX_75 m_vl m_vs2 m_unmasked zO (cnt (0 : Int32) m_vl) ((0 : Int32), (0 : Int32), (-1 : Int32))).2.1) ((LX11_toX_75 m_vl m_vs2 m_unmasked zO (cnt (0 : Int32) m_vl) ((0 : Int32), (0 : Int32), (-1 : Int32))).2.2) from by rw [tX11_toX_75, if_neg c27]; exact True.intro) (hok.2.2.2.2.2.2.1 c1 c3 c19 c20)
      refine k_iconst X dX11_toX_66 kc_i_0 rfl ?_
      have e93 : (fX11_toX m_vstart m_vs1 m_unmasked) = (0 : Int32) := by rw [fX11_toX, if_neg c1, if_neg c3, if_pos c19, if_neg c20]
      have e94 : (fX11_toX__zX m_vl m_vstart m_vd m_vs1 m_vs2 m_sew m_unmasked zX zO) = zX := by rw [fX11_toX__zX, if_neg c1, if_neg c3, if_pos c19, if_neg c20]
      exact k_zret9 X hRt hLk rfl e93.symm (by rw [e94]) dX11_toX_67
    refine k_iconst X dX11_toX_143 kc_i_0 rfl ?_
    have e95 : (fX11_toX m_vstart m_vs1 m_unmasked) = (0 : Int32) := by rw [fX11_toX, if_neg c1, if_neg c3, if_neg c19]
    have e96 : (fX11_toX__zX m_vl m_vstart m_vd m_vs1 m_vs2 m_sew m_unmasked zX zO) = zX := by rw [fX11_toX__zX, if_neg c1, if_neg c3, if_neg c19]
    exact k_zret9 X hRt hLk rfl e95.symm (by rw [e96]) dX11_toX_144
  refine k_aload_n X dX11_toX_145 rfl 0 rfl rfl ?_
  refine k_get X i_wsX110 0 17 q27_3 rfl rfl rfl rfl rfl dX11_toX_146 rfl ?_
  refine k_mid2 [(b_m, .inr (10, [.int m_thrown, .ref b_zX, .ref b_zV, .ref b_zO, .ref m_memory, .ref m_shut, .long m_choices, .int m_vl, .int m_vtype, .int m_vstart, .int m_vxrm, .int m_vxsat, .int m_done, .int m_illegal, .int m_traps, .int m_trapAddress, .int m_word, .int m_vd, .int m_vs1, .int m_vs2, .int m_f3, .int m_f6, .int m_sew, .int m_l8, .int m_unmasked])), (b_zX, .inl (kI, 32, .inl (pX11_toX_162_zX m_vl m_vstart m_vd m_vs1 m_vs2 m_sew m_unmasked zX zO))), (b_zV, .inl (kI, 512, .inl zV)), (b_zO, .inl (kI, 512, .inl zO))] [(0, .ref b_m), (1, .int (pX11_toX_145_L1 m_vl m_vstart m_vs1 m_vs2 m_sew m_unmasked zO))] [] 162 (fun hJ37 => ?_) ?_
  · skip
    refine k_if_le (tgt := 162) X dX11_toX_149 (by decide) rfl (fun c36 => ?_) (fun c36 => ?_)
    · skip
      have e97 : (pX11_toX_162_zX m_vl m_vstart m_vd m_vs1 m_vs2 m_sew m_unmasked zX zO) = zX := by rw [pX11_toX_162_zX, if_pos c36]
      rw [e97] at hJ37
      exact k_sub [0, 1] rfl hJ37
    refine k_aload_n X dX11_toX_152 rfl 0 rfl rfl ?_
    refine k_get X i_wsX110 0 1 q5_17 rfl rfl rfl rfl rfl dX11_toX_153 rfl ?_
    refine k_aload_n X dX11_toX_156 rfl 0 rfl rfl ?_
    refine k_get X i_wsX110 0 17 q27_3 rfl rfl rfl rfl rfl dX11_toX_157 rfl ?_
    refine k_iload_n X dX11_toX_160 rfl 1 rfl rfl ?_
    refine k_iast (ws' := [(b_m, .inr (10, [.int m_thrown, .ref b_zX, .ref b_zV, .ref b_zO, .ref m_memory, .ref m_shut, .long m_choices, .int m_vl, .int m_vtype, .int m_vstart, .int m_vxrm, .int m_vxsat, .int m_done, .int m_illegal, .int m_traps, .int m_trapAddress, .int m_word, .int m_vd, .int m_vs1, .int m_vs2, .int m_f3, .int m_f6, .int m_sew, .int m_l8, .int m_unmasked])), (b_zX, .inl (kI, 32, .inl (upd zX (Int32.toNatClampNeg m_vd) (pX11_toX_145_L1 m_vl m_vstart m_vs1 m_vs2 m_sew m_unmasked zO)))), (b_zV, .inl (kI, 512, .inl zV)), (b_zO, .inl (kI, 512, .inl zO))]) X 1 0 rfl rfl (hok.2.2.2.2.2.2.2.2.2 c36) rfl dX11_toX_161 rfl ?_
    have e98 : (pX11_toX_162_zX m_vl m_vstart m_vd m_vs1 m_vs2 m_sew m_unmasked zX zO) = (upd zX (Int32.toNatClampNeg m_vd) (pX11_toX_145_L1 m_vl m_vstart m_vs1 m_vs2 m_sew m_unmasked zO)) := by rw [pX11_toX_162_zX, if_neg c36]
    rw [e98] at hJ37
    exact k_sub [0, 1] rfl hJ37
  refine k_iconst X dX11_toX_162 kc_i_1 rfl ?_
  have e99 : rX11_toX_145 = (1 : Int32) := by rw [rX11_toX_145]
  have e100 : (rX11_toX_145__zX m_vl m_vstart m_vd m_vs1 m_vs2 m_sew m_unmasked zX zO) = (pX11_toX_162_zX m_vl m_vstart m_vd m_vs1 m_vs2 m_sew m_unmasked zX zO) := by rw [rX11_toX_145__zX]
  exact k_zret9 X hRt hLk rfl e99.symm (by rw [e100]) dX11_toX_163
theorem vX11_toX : kVi yX11_toX cX11_toX 5 (some .boolean) 0 := ⟨q37_18, q1_5, q37_16, q37_17, by decide, by decide +kernel⟩
noncomputable def fX11_fromX (m_vs2 : Int32) (m_unmasked : Int32) : Int32 := (if m_unmasked = (0 : Int32) then (0 : Int32) else (if m_vs2 = (0 : Int32) then (1 : Int32) else (0 : Int32)))
noncomputable def fX11_fromX__zV (m_choices : Int64) (m_vl : Int32) (m_vtype : Int32) (m_vstart : Int32) (m_vd : Int32) (m_vs1 : Int32) (m_vs2 : Int32) (m_sew : Int32) (m_unmasked : Int32) (zX : Nat → Int32) (zV : Nat → Int32) : Nat → Int32 := (if m_unmasked = (0 : Int32) then zV else (if m_vs2 = (0 : Int32) then (if (fX11_goes m_vl m_vstart) = (0 : Int32) then zV else (fX11_tail__zV m_choices m_vtype (fX11_put__zV zV m_vd m_sew (0 : Int32) (Int32.toInt64 (zX (Int32.toNatClampNeg m_vs1)))) m_vd m_sew (8 : Int32) (1 : Int32))) else zV))
noncomputable def okX11_fromX (m_choices : Int64) (m_vl : Int32) (m_vtype : Int32) (m_vstart : Int32) (m_vd : Int32) (m_vs1 : Int32) (m_vs2 : Int32) (m_sew : Int32) (m_unmasked : Int32) (zX : Nat → Int32) (zV : Nat → Int32) : Prop := (¬ (m_unmasked = (0 : Int32)) → (m_vs2 = (0 : Int32)) → ¬ ((fX11_goes m_vl m_vstart) = (0 : Int32)) → vp_in m_vs1 32) ∧ (¬ (m_unmasked = (0 : Int32)) → (m_vs2 = (0 : Int32)) → ¬ ((fX11_goes m_vl m_vstart) = (0 : Int32)) → okX11_put zV m_vd m_sew (0 : Int32) (Int32.toInt64 (zX (Int32.toNatClampNeg m_vs1)))) ∧ (¬ (m_unmasked = (0 : Int32)) → (m_vs2 = (0 : Int32)) → ¬ ((fX11_goes m_vl m_vstart) = (0 : Int32)) → okX11_tail m_choices m_vtype (fX11_put__zV zV m_vd m_sew (0 : Int32) (Int32.toInt64 (zX (Int32.toNatClampNeg m_vs1)))) m_vd m_sew (8 : Int32) (1 : Int32))
theorem zX11_fromX (m_vs2 : Int32) (m_unmasked : Int32) : narrow .boolean (.int (fX11_fromX m_vs2 m_unmasked)) = .int (fX11_fromX m_vs2 m_unmasked) := by unfold fX11_fromX; exact (kzi rfl (kzi rfl rfl))
set_option maxRecDepth 100000 in
set_option maxHeartbeats 4000000 in
theorem kX11_fromX (l : Launch) (D : va_G) (kI kZ : ClassId) (b_m : Nat) (b_zX : Nat) (b_zV : Nat) (b_zO : Nat) (m_thrown : Int32) (m_memory : Nat) (m_shut : Nat) (m_choices : Int64) (m_vl : Int32) (m_vtype : Int32) (m_vstart : Int32) (m_vxrm : Int32) (m_vxsat : Int32) (m_done : Int32) (m_illegal : Int32) (m_traps : Int32) (m_trapAddress : Int32) (m_word : Int32) (m_vd : Int32) (m_vs1 : Int32) (m_vs2 : Int32) (m_f3 : Int32) (m_f6 : Int32) (m_sew : Int32) (m_l8 : Int32) (m_unmasked : Int32) (zX : Nat → Int32) (zV : Nat → Int32) (zO : Nat → Int32) (hok : okX11_fromX m_choices m_vl m_vtype m_vstart m_vd m_vs1 m_vs2 m_sew m_unmasked zX zV) : kM l yX11_fromX cX11_fromX 1 (some .boolean) 4 63 0 0 D [(kI, .int), (kZ, .boolean)] [.ref b_m] [(b_m, .inr (10, [.int m_thrown, .ref b_zX, .ref b_zV, .ref b_zO, .ref m_memory, .ref m_shut, .long m_choices, .int m_vl, .int m_vtype, .int m_vstart, .int m_vxrm, .int m_vxsat, .int m_done, .int m_illegal, .int m_traps, .int m_trapAddress, .int m_word, .int m_vd, .int m_vs1, .int m_vs2, .int m_f3, .int m_f6, .int m_sew, .int m_l8, .int m_unmasked])), (b_zX, .inl (kI, 32, .inl zX)), (b_zV, .inl (kI, 512, .inl zV)), (b_zO, .inl (kI, 512, .inl zO))] (some (.int (fX11_fromX m_vs2 m_unmasked))) [(b_m, .inr (10, [.int m_thrown, .ref b_zX, .ref b_zV, .ref b_zO, .ref m_memory, .ref m_shut, .long m_choices, .int m_vl, .int m_vtype, .int m_vstart, .int m_vxrm, .int m_vxsat, .int m_done, .int m_illegal, .int m_traps, .int m_trapAddress, .int m_word, .int m_vd, .int m_vs1, .int m_vs2, .int m_f3, .int m_f6, .int m_sew, .int m_l8, .int m_unmasked])), (b_zX, .inl (kI, 32, .inl zX)), (b_zV, .inl (kI, 512, .inl (fX11_fromX__zV m_choices m_vl m_vtype m_vstart m_vd m_vs1 m_vs2 m_sew m_unmasked zX zV))), (b_zO, .inl (kI, 512, .inl zO))] := by
  refine kM.of (by decide) rfl ?_
  intro p e R s m args below meth c A X _ _ hRt hLk
  refine k_sub [0] (lv' := [(0, .ref b_m)]) rfl ?_
  unfold okX11_fromX at hok
  refine k_aload_n X dX11_fromX_0 rfl 0 rfl rfl ?_
  refine k_get X i_wsX110 0 24 q27_7 rfl rfl rfl rfl rfl dX11_fromX_1 rfl ?_
  refine k_if_eq (tgt := 14) X dX11_fromX_4 (by decide) rfl (fun c1 => ?_) (fun c1 => ?_)
  · skip
    refine k_iconst X dX11_fromX_14 kc_i_0 rfl ?_
    have e4 : (fX11_fromX m_vs2 m_unmasked) = (0 : Int32) := by rw [fX11_fromX, if_pos c1]
    have e5 : (fX11_fromX__zV m_choices m_vl m_vtype m_vstart m_vd m_vs1 m_vs2 m_sew m_unmasked zX zV) = zV := by rw [fX11_fromX__zV, if_pos c1]
    exact k_zret9 X hRt hLk rfl e4.symm (by rw [e5]) dX11_fromX_15
  refine k_aload_n X dX11_fromX_7 rfl 0 rfl rfl ?_
  refine k_get X i_wsX110 0 19 q27_6 rfl rfl rfl rfl rfl dX11_fromX_8 rfl ?_
  refine k_if_eq (tgt := 16) X dX11_fromX_11 (by decide) rfl (fun c2 => ?_) (fun c2 => ?_)
  · skip
    refine k_aload_n X dX11_fromX_16 rfl 0 rfl rfl ?_
    refine k_cV1 (st := []) (ws' := [(b_m, .inr (10, [.int m_thrown, .ref b_zX, .ref b_zV, .ref b_zO, .ref m_memory, .ref m_shut, .long m_choices, .int m_vl, .int m_vtype, .int m_vstart, .int m_vxrm, .int m_vxsat, .int m_done, .int m_illegal, .int m_traps, .int m_trapAddress, .int m_word, .int m_vd, .int m_vs1, .int m_vs2, .int m_f3, .int m_f6, .int m_sew, .int m_l8, .int m_unmasked])), (b_zX, .inl (kI, 32, .inl zX)), (b_zV, .inl (kI, 512, .inl zV)), (b_zO, .inl (kI, 512, .inl zO))]) (wr := [(b_zX, .inl (kI, 32, .inl zX)), (b_zV, .inl (kI, 512, .inl zV)), (b_zO, .inl (kI, 512, .inl zO))]) (ci := 10) (q9 := 0) X [] 0 [0] [1, 2, 3] [3, 0, 1, 2] (kX11_goes l D kI kZ b_m m_thrown b_zX b_zV b_zO m_memory m_shut m_choices m_vl m_vtype m_vstart m_vxrm m_vxsat m_done m_illegal m_traps m_trapAddress m_word m_vd m_vs1 m_vs2 m_f3 m_f6 m_sew m_l8 m_unmasked) vX11_goes q31_2 dX11_fromX_17 rfl rfl rfl rfl rfl rfl rfl rfl rfl rfl rfl rfl rfl rfl rfl ?_
    refine k_if_ne (tgt := 25) X dX11_fromX_20 (by decide) rfl (fun c3 => ?_) (fun c3 => ?_)
    · skip
      refine k_iconst X dX11_fromX_23 kc_i_1 rfl ?_
      have e6 : (fX11_fromX m_vs2 m_unmasked) = (1 : Int32) := by rw [fX11_fromX, if_neg c1, if_pos c2]
      have e7 : (fX11_fromX__zV m_choices m_vl m_vtype m_vstart m_vd m_vs1 m_vs2 m_sew m_unmasked zX zV) = zV := by rw [fX11_fromX__zV, if_neg c1, if_pos c2, if_pos c3]
      exact k_zret9 X hRt hLk rfl e6.symm (by rw [e7]) dX11_fromX_24
    refine k_aload_n X dX11_fromX_25 rfl 0 rfl rfl ?_
    refine k_aload_n X dX11_fromX_26 rfl 0 rfl rfl ?_
    refine k_get X i_wsX110 0 17 q27_3 rfl rfl rfl rfl rfl dX11_fromX_27 rfl ?_
    refine k_aload_n X dX11_fromX_30 rfl 0 rfl rfl ?_
    refine k_get X i_wsX110 0 22 q27_9 rfl rfl rfl rfl rfl dX11_fromX_31 rfl ?_
    refine k_iconst X dX11_fromX_34 kc_i_0 rfl ?_
    refine k_aload_n X dX11_fromX_35 rfl 0 rfl rfl ?_
    refine k_get X i_wsX110 0 1 q5_17 rfl rfl rfl rfl rfl dX11_fromX_36 rfl ?_
    refine k_aload_n X dX11_fromX_39 rfl 0 rfl rfl ?_
    refine k_get X i_wsX110 0 18 q27_5 rfl rfl rfl rfl rfl dX11_fromX_40 rfl ?_
    refine k_iald X 1 0 rfl rfl (hok.1 c1 c2 c3) dX11_fromX_43 rfl ?_
    refine k_i2l X dX11_fromX_44 rfl ?_
    refine k_cV0 (st := []) (ws' := [(b_m, .inr (10, [.int m_thrown, .ref b_zX, .ref b_zV, .ref b_zO, .ref m_memory, .ref m_shut, .long m_choices, .int m_vl, .int m_vtype, .int m_vstart, .int m_vxrm, .int m_vxsat, .int m_done, .int m_illegal, .int m_traps, .int m_trapAddress, .int m_word, .int m_vd, .int m_vs1, .int m_vs2, .int m_f3, .int m_f6, .int m_sew, .int m_l8, .int m_unmasked])), (b_zX, .inl (kI, 32, .inl zX)), (b_zV, .inl (kI, 512, .inl (fX11_put__zV zV m_vd m_sew (0 : Int32) (Int32.toInt64 (zX (Int32.toNatClampNeg m_vs1)))))), (b_zO, .inl (kI, 512, .inl zO))]) (wr := [(b_zX, .inl (kI, 32, .inl zX)), (b_zO, .inl (kI, 512, .inl zO))]) (ci := 10) (q9 := 0) X [.int m_vd, .int m_sew, .int (0 : Int32), .long (Int32.toInt64 (zX (Int32.toNatClampNeg m_vs1)))] 0 [0, 2] [1, 3] [2, 0, 3, 1] (kX11_put l D kI kZ b_m b_zV m_thrown b_zX b_zO m_memory m_shut m_choices m_vl m_vtype m_vstart m_vxrm m_vxsat m_done m_illegal m_traps m_trapAddress m_word m_vd m_vs1 m_vs2 m_f3 m_f6 m_sew m_l8 m_unmasked zV m_vd m_sew (0 : Int32) (Int32.toInt64 (zX (Int32.toNatClampNeg m_vs1))) (hok.2.1 c1 c2 c3)) vX11_put q32_13 dX11_fromX_45 rfl rfl rfl rfl rfl rfl rfl rfl rfl rfl rfl rfl rfl rfl rfl ?_
    refine k_aload_n X dX11_fromX_48 rfl 0 rfl rfl ?_
    refine k_aload_n X dX11_fromX_49 rfl 0 rfl rfl ?_
    refine k_get X i_wsX110 0 17 q27_3 rfl rfl rfl rfl rfl dX11_fromX_50 rfl ?_
    refine k_aload_n X dX11_fromX_53 rfl 0 rfl rfl ?_
    refine k_get X i_wsX110 0 22 q27_9 rfl rfl rfl rfl rfl dX11_fromX_54 rfl ?_
    refine k_bipush X dX11_fromX_57 kc_b_8 rfl ?_
    refine k_iconst X dX11_fromX_59 kc_i_1 rfl ?_
    refine k_cV0 (st := []) (ws' := [(b_m, .inr (10, [.int m_thrown, .ref b_zX, .ref b_zV, .ref b_zO, .ref m_memory, .ref m_shut, .long m_choices, .int m_vl, .int m_vtype, .int m_vstart, .int m_vxrm, .int m_vxsat, .int m_done, .int m_illegal, .int m_traps, .int m_trapAddress, .int m_word, .int m_vd, .int m_vs1, .int m_vs2, .int m_f3, .int m_f6, .int m_sew, .int m_l8, .int m_unmasked])), (b_zX, .inl (kI, 32, .inl zX)), (b_zV, .inl (kI, 512, .inl (fX11_tail__zV m_choices m_vtype (fX11_put__zV zV m_vd m_sew (0 : Int32) (Int32.toInt64 (zX (Int32.toNatClampNeg m_vs1)))) m_vd m_sew (8 : Int32) (1 : Int32)))), (b_zO, .inl (kI, 512, .inl zO))]) (wr := [(b_zX, .inl (kI, 32, .inl zX)), (b_zO, .inl (kI, 512, .inl zO))]) (ci := 10) (q9 := 0) X [.int m_vd, .int m_sew, .int (8 : Int32), .int (1 : Int32)] 0 [0, 2] [1, 3] [2, 0, 3, 1] (kX11_tail l D kI kZ b_m b_zV m_thrown b_zX b_zO m_memory m_shut m_choices m_vl m_vtype m_vstart m_vxrm m_vxsat m_done m_illegal m_traps m_trapAddress m_word m_vd m_vs1 m_vs2 m_f3 m_f6 m_sew m_l8 m_unmasked (fX11_put__zV zV m_vd m_sew (0 : Int32) (Int32.toInt64 (zX (Int32.toNatClampNeg m_vs1)))) m_vd m_sew (8 : Int32) (1 : Int32) (hok.2.2 c1 c2 c3)) vX11_tail q34_11 dX11_fromX_60 rfl rfl rfl rfl rfl rfl rfl rfl rfl rfl rfl rfl rfl rfl rfl ?_
    refine k_iconst X dX11_fromX_63 kc_i_1 rfl ?_
    have e8 : (fX11_fromX m_vs2 m_unmasked) = (1 : Int32) := by rw [fX11_fromX, if_neg c1, if_pos c2]
    have e9 : (fX11_fromX__zV m_choices m_vl m_vtype m_vstart m_vd m_vs1 m_vs2 m_sew m_unmasked zX zV) = (fX11_tail__zV m_choices m_vtype (fX11_put__zV zV m_vd m_sew (0 : Int32) (Int32.toInt64 (zX (Int32.toNatClampNeg m_vs1)))) m_vd m_sew (8 : Int32) (1 : Int32)) := by rw [fX11_fromX__zV, if_neg c1, if_pos c2, if_neg c3]
    exact k_zret9 X hRt hLk rfl e8.symm (by rw [e9]) dX11_fromX_64
  refine k_iconst X dX11_fromX_14 kc_i_0 rfl ?_
  have e10 : (fX11_fromX m_vs2 m_unmasked) = (0 : Int32) := by rw [fX11_fromX, if_neg c1, if_neg c2]
  have e11 : (fX11_fromX__zV m_choices m_vl m_vtype m_vstart m_vd m_vs1 m_vs2 m_sew m_unmasked zX zV) = zV := by rw [fX11_fromX__zV, if_neg c1, if_neg c2]
  exact k_zret9 X hRt hLk rfl e10.symm (by rw [e11]) dX11_fromX_15
theorem vX11_fromX : kVi yX11_fromX cX11_fromX 1 (some .boolean) 0 := ⟨q37_22, q1_5, q37_20, q37_21, by decide, by decide +kernel⟩
