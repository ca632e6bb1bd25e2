/-! ===== runElements of the class over groups in numbers; the family alike ===== -/
noncomputable abbrev cBody (kd o sel len isM hr : Int32) (sec off : Int64) (md : Int32) (c : Int64) (tm mo : Int32) (S d w l lw r rw : Nat) : Nat → Int32 × Int32 × (Nat → Int32) → Int32 × Int32 × (Nat → Int32) := fun k s => ((pX4_runElements_97_n_passed kd isM (nI l) (nI lw) (fX10_ones (nI lw)) (nI 0) (nI 1) (fX10_ones (nI 1)) (nI k) s.1 s.2.2), (pX4_runElements_97_r_saturated kd o isM hr sec md (nI S) (fX10_ones (nI S)) (lshr (fX10_ones (nI S)) (1 : Int32)) ((-(lshr (fX10_ones (nI S)) (1 : Int32))) - (1 : Int64)) (nI l) (nI lw) (fX10_ones (nI lw)) (nI r) (nI rw) (fX10_ones (nI rw)) (nI 0) (nI 1) (fX10_ones (nI 1)) (nI k) s.2.1 s.2.2), (pX4_runElements_97_xV kd o sel len isM hr sec off md c tm mo (nI S) (fX10_ones (nI S)) (lshr (fX10_ones (nI S)) (1 : Int32)) ((-(lshr (fX10_ones (nI S)) (1 : Int32))) - (1 : Int64)) (nI d) (nI w) (fX10_ones (nI w)) (nI l) (nI lw) (fX10_ones (nI lw)) (nI r) (nI rw) (fX10_ones (nI rw)) (nI 0) (nI 1) (fX10_ones (nI 1)) (nI k) s.1 s.2.2))
noncomputable abbrev cRun (kd o sel len isM hr : Int32) (sec off : Int64) (ps st md sat : Int32) (c : Int64) (tm tt mo : Int32) (x : Nat → Int32) (S d w g l lw r rw : Nat) : Nat → Int32 := fX4_runElements__xV kd o sel len isM hr sec off ps st md sat c tm tt mo x (nI S) (fX10_ones (nI S)) (lshr (fX10_ones (nI S)) (1 : Int32)) ((-(lshr (fX10_ones (nI S)) (1 : Int32))) - (1 : Int64)) (nI d) (nI w) (nI g) (fX10_ones (nI w)) (nI l) (nI lw) (fX10_ones (nI lw)) (nI r) (nI rw) (fX10_ones (nI rw)) (nI 0) (nI 1) (fX10_ones (nI 1))
noncomputable abbrev cSat (kd o sel len isM hr : Int32) (sec off : Int64) (ps st md sat : Int32) (c : Int64) (tm mo : Int32) (x : Nat → Int32) (S d w l lw r rw : Nat) : Int32 := fX4_runElements__r_saturated kd o sel len isM hr sec off ps st md sat c tm mo x (nI S) (fX10_ones (nI S)) (lshr (fX10_ones (nI S)) (1 : Int32)) ((-(lshr (fX10_ones (nI S)) (1 : Int32))) - (1 : Int64)) (nI d) (nI w) (fX10_ones (nI w)) (nI l) (nI lw) (fX10_ones (nI lw)) (nI r) (nI rw) (fX10_ones (nI rw)) (nI 0) (nI 1) (fX10_ones (nI 1))
theorem cRun_stop {kd o sel isM hr : Int32} {sec off : Int64} {ps md sat : Int32} {c : Int64} {tm tt mo : Int32} {x : Nat → Int32} {S d w g l lw r rw st vl : Nat} (hs : st < 2 ^ 31) (hv : vl ≤ st) : cRun kd o sel (nI vl) isM hr sec off ps (nI st) md sat c tm tt mo x S d w g l lw r rw = x ∧ cSat kd o sel (nI vl) isM hr sec off ps (nI st) md sat c tm mo x S d w l lw r rw = sat := by
  have h : ¬ (nI st < nI vl) := nI_nlt hv hs
  unfold cRun cSat fX4_runElements__xV fX4_runElements__r_saturated
  rw [if_neg h, if_neg h]; exact ⟨rfl, rfl⟩
theorem cRun_go {kd o sel isM hr : Int32} {sec off : Int64} {ps md sat : Int32} {c : Int64} {tm tt mo : Int32} {x : Nat → Int32} {S d w g l lw r rw st vl : Nat} (hk : ¬ kd = 25) (hf : fX4_firstElement kd (nI vl) off (nI st) = nI st) (hs : st < vl) (hv : vl < 2 ^ 31) :
    cRun kd o sel (nI vl) isM hr sec off ps (nI st) md sat c tm tt mo x S d w g l lw r rw = fX2_leaveTail__xV (nI d) (nI w) (nI g) (fX10_ones (nI w)) c (itr (cBody kd o sel (nI vl) isM hr sec off md c tm mo S d w l lw r rw) (vl - st) st (ps, sat, x)).2.2 tt (nI vl) (pX4_runElements_127_S3 (nI w)) ∧
    cSat kd o sel (nI vl) isM hr sec off ps (nI st) md sat c tm mo x S d w l lw r rw = (itr (cBody kd o sel (nI vl) isM hr sec off md c tm mo S d w l lw r rw) (vl - st) st (ps, sat, x)).2.1 := by
  have h : nI st < nI vl := nI_lt hs hv
  unfold cRun cSat fX4_runElements__xV fX4_runElements__r_saturated
  rw [if_pos h, if_pos h, if_neg hk, if_neg hk, hf, cnt_nI (by omega) hv, itX4_runElements_44 (b9 := vl) _ _ _ _ _ _ _ _ _ _ _ _ _ _ _ _ _ _ _ _ _ _ _ _ _ _ _ _ rfl (by omega) (vl - st) st ps sat x (by omega)]
  exact ⟨rfl, rfl⟩
/-- two groups of g registers: one and the same, or apart -/
def gp (a b g : Nat) : Prop := a = b ∨ b + g ≤ a ∨ a + g ≤ b
theorem gp.pos {s d g S st i : Nat} (h : gp s d g) (hi : i * S + S ≤ g * 128) : s * 128 + i * S + S ≤ d * 128 + st * S ∨ d * 128 + i * S ≤ s * 128 + i * S := by
  rcases h with h | h | h
  · right; omega
  · right; omega
  · left; omega
theorem mul_in {i vl S G : Nat} (h1 : i < vl) (h2 : vl * S ≤ G) : i * S + S ≤ G := by
  have h3 : (i + 1) * S ≤ vl * S := Nat.mul_le_mul_right _ h1
  rw [Nat.add_mul, Nat.one_mul] at h3
  omega
theorem alike_loop {S g d s1 s2 vl st md : Nat} (hS : okB S) (hmd : md < 4) {x z xS zX : Nat → Int32} (h0 : Sy x z) (hX : SX xS zX) (h1 : s1 < 32) (hdg : d + g ≤ 32) (hsg : s2 + g ≤ 32) (hl : gp s2 d g) (hvl : vl * S ≤ g * 128) (hv128 : vl ≤ 128) {isM un hr F sel : Int32} {off : Int64} {tm vt : Int32} {c : Int64} (hF : okF F) (hhr : hr = fX3_takesVector F) (hV : ¬ hr = 0 → s1 + g ≤ 32 ∧ gp s1 d g) (hmu : isM = 0 ↔ ¬ un = 0) (hm : ¬ isM = 0 → ¬ d = 0) {o p : Int32} (hop : (o, p) ∈ alT) (ps sat : Int32) (n : Nat) (hn : st + n ≤ vl) :
    Sy (itr (cBody 1 o sel (nI vl) isM hr (fX4_prepare__n_second (nI S) xS F (nI s1)) off (nI md) c tm (fX11_isMaskOpen vt) S d S s2 S s1 S) n st (ps, sat, x)).2.2 (itr (fun k s => ((pX11_alike_193_m_vxsat (nI md) (nI s1) (nI s2) F (nI S) un zX z p (nI k) s.1), (pX11_alike_193_zV c vt (nI md) (nI d) (nI s1) (nI s2) F (nI S) un zX z p (nI k) s.2))) n st (sat, z)).2 ∧
    (itr (cBody 1 o sel (nI vl) isM hr (fX4_prepare__n_second (nI S) xS F (nI s1)) off (nI md) c tm (fX11_isMaskOpen vt) S d S s2 S s1 S) n st (ps, sat, x)).2.1 = (itr (fun k s => ((pX11_alike_193_m_vxsat (nI md) (nI s1) (nI s2) F (nI S) un zX z p (nI k) s.1), (pX11_alike_193_zV c vt (nI md) (nI d) (nI s1) (nI s2) F (nI S) un zX z p (nI k) s.2))) n st (sat, z)).1 := by
  refine (fun key => ⟨key.1.1, key.2⟩) (itr_rel (fun i s t => Rl (d * 128) S st z i s.2.2 t.2 ∧ s.2.1 = t.1) _ _ n st (ps, sat, x) (sat, z) ?_ ⟨⟨h0, Iv.start h0⟩, rfl⟩)
  intro i s t hi1 hi2 ⟨hR, hs⟩
  obtain ⟨pp, sc, xx⟩ := s
  obtain ⟨sm, zz⟩ := t
  dsimp only at hR hs ⊢
  subst hs
  have hiS : i * S + S ≤ g * 128 := mul_in (by omega) hvl
  have hact := act_eq hR.2 (kd := 1) (isM := isM) (un := un) (by decide) hmu (by omega) (fun q => by have := hm q; omega)
  unfold pX4_runElements_97_xV pX4_runElements_97_r_saturated pX11_alike_193_zV pX11_alike_193_m_vxsat
  rw [hact]
  by_cases q : fX11_isActive un z (nI i) = 0
  · simp only [if_pos q]
    exact ⟨hR.msk hS hi1 (by omega) c vt, trivial⟩
  · simp only [if_neg q]
    have e1 := rd h0.1 hR.2 (r := s2) (k := i) hS (by omega) (hl.pos hiS)
    have e2 := right_eq h0.1 hR.2 hX hS h1 hF hhr (fun w => ⟨by have := (hV w).1; omega, (hV w).2.pos hiS⟩)
    have e3 := rd h0.1 hR.2 (r := d) (k := i) hS (by omega) (Or.inr (Nat.le_refl _))
    unfold fX4_valueAt fX4_valueAt__r_saturated
    rw [if_pos rfl, if_pos rfl, e1, e2, e3]
    obtain ⟨v1, v2⟩ := alike_val (S := S) (s1 := s1) (i := i) (F := F) (o := o) (p := p) hS hmd sc z zX h0.1 h1 (by omega) hF (fX11_get z (nI s2) (nI S) (nI i)) (fX11_get z (nI d) (nI S) (nI i)) (low_get z h0.1 hS (by omega) (by omega)) hop
    exact ⟨hR.put hS hi1 (by omega) v1, v2⟩
theorem p127 {w : Nat} (hw : okB w) : pX4_runElements_127_S3 (nI w) = 0 := by rcases hw with rfl | rfl | rfl <;> decide
theorem goes_eq {vl st : Nat} (hs : st < 2 ^ 31) (hv : vl < 2 ^ 31) : (fX11_goes (nI vl) (nI st) = 0) ↔ vl ≤ st := by
  unfold fX11_goes pX11_goes_16_S1
  by_cases h : vl ≤ st
  · rw [if_pos (nI_le h hs)]; simp [h]
  · rw [if_neg (nI_ge (by omega) hv)]; simp [h]
theorem alike_fam {S g d s1 s2 vl st md e8 : Nat} (hS : okB S) (hmd : md < 4) {x z xS zX : Nat → Int32} (h0 : Sy x z) (hX : SX xS zX) (h1 : s1 < 32) (hg8 : g ≤ 8) (hreg : fX11_registers (nI e8) = nI g) (hdg : d + g ≤ 32) (hsg : s2 + g ≤ 32) (hl : gp s2 d g) (hvl : vl * S ≤ g * 128) (hv128 : vl ≤ 128) (hst : st < 128) {isM un hr F sel : Int32} {off : Int64} {tm vt : Int32} {c : Int64} (hF : okF F) (hhr : hr = fX3_takesVector F) (hV : ¬ hr = 0 → s1 + g ≤ 32 ∧ gp s1 d g) (hmu : isM = 0 ↔ ¬ un = 0) (hm : ¬ isM = 0 → ¬ d = 0) {o p : Int32} (hop : (o, p) ∈ alT) (ps sat : Int32) (hmay : ¬ fX11_mayBe (nI d) (nI S) (nI e8) un (nI S) (nI s2) (nI S) (fX11_second (nI s1) F) (nI S) = 0) :
    Sy (cRun 1 o sel (nI vl) isM hr (fX4_prepare__n_second (nI S) xS F (nI s1)) off ps (nI st) (nI md) sat c tm (fX11_isTailOpen vt) (fX11_isMaskOpen vt) x S d S g s2 S s1 S) (fX11_alike__zV c (nI vl) vt (nI st) (nI md) sat (nI d) (nI s1) (nI s2) F (nI S) (nI e8) un zX z z p) ∧
    cSat 1 o sel (nI vl) isM hr (fX4_prepare__n_second (nI S) xS F (nI s1)) off ps (nI st) (nI md) sat c tm (fX11_isMaskOpen vt) x S d S s2 S s1 S = fX11_alike__m_vxsat c (nI vl) vt (nI st) (nI md) sat (nI d) (nI s1) (nI s2) F (nI S) (nI e8) un zX z z p := by
  unfold fX11_alike__zV fX11_alike__m_vxsat
  rw [if_neg hmay, if_neg hmay]
  rcases Nat.lt_or_ge st vl with q | q
  · have hg : ¬ fX11_goes (nI vl) (nI st) = 0 := fun w => absurd ((goes_eq (vl := vl) (st := st) (by omega) (by omega)).mp w) (by omega)
    rw [if_neg hg, if_neg hg]
    obtain ⟨e1, e2⟩ := cRun_go (kd := 1) (o := o) (sel := sel) (isM := isM) (hr := hr) (sec := fX4_prepare__n_second (nI S) xS F (nI s1)) (off := off) (ps := ps) (md := nI md) (sat := sat) (c := c) (tm := tm) (tt := fX11_isTailOpen vt) (mo := fX11_isMaskOpen vt) (x := x) (S := S) (d := d) (w := S) (g := g) (l := s2) (lw := S) (r := s1) (rw := S) (by decide) (by rfl) q (by omega)
    rw [e1, e2, p127 hS, cnt_nI (by omega) (by omega), itX11_alike_79 (b9 := vl) _ _ _ _ _ _ _ _ _ _ _ _ _ rfl (by omega) (vl - st) st sat z (by omega)]
    obtain ⟨k1, k2⟩ := alike_loop (S := S) (g := g) (d := d) (s1 := s1) (s2 := s2) (vl := vl) (st := st) (md := md) hS hmd h0 hX h1 hdg hsg hl hvl hv128 (sel := sel) (off := off) (tm := tm) (vt := vt) (c := c) hF hhr hV hmu hm hop ps sat (vl - st) (by omega)
    exact ⟨k1.tail (r := d) (e := S) (g := g) (e8 := e8) (k := vl) hS hg8 hreg (by omega) (by omega) c rfl, k2⟩
  · have hg := (goes_eq (vl := vl) (st := st) (by omega) (by omega)).mpr q
    rw [if_pos hg, if_pos hg]
    obtain ⟨e1, e2⟩ := cRun_stop (kd := 1) (o := o) (sel := sel) (isM := isM) (hr := hr) (sec := fX4_prepare__n_second (nI S) xS F (nI s1)) (off := off) (ps := ps) (md := nI md) (sat := sat) (c := c) (tm := tm) (tt := fX11_isTailOpen vt) (mo := fX11_isMaskOpen vt) (x := x) (S := S) (d := d) (w := S) (g := g) (l := s2) (lw := S) (r := s1) (rw := S) (st := st) (vl := vl) (by omega) q
    rw [e1, e2]
    exact ⟨h0, rfl⟩
