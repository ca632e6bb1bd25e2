/-! ===== families: narrows, slides, gathers, whole moves ===== -/
theorem fam_bs {kd o sel isM hr : Int32} {sec off : Int64} {ps md sat : Int32} {c : Int64} {tm vt : Int32} {x z : Nat → Int32} {S d w g l lw r rw st vl e8 : Nat} (hk : ¬ kd = 25) (hf : fX4_firstElement kd (nI vl) off (nI st) = nI st) (hw : okB w) (h0 : Sy x z) (hg8 : g ≤ 8) (hreg : fX11_registers (nI e8) = nI g) (hdg : d + g ≤ 32) (hvl : vl * w ≤ g * 128) (hst : st < vl) (hv : vl < 2 ^ 30) (actM : Nat → Int32) (valM : Nat → Int64) (satM : Nat → Int32 → Int32)
    (hact : ∀ i xx, st ≤ i → i < vl → Iv (d * 128) w st z i xx → fX4_isActive kd isM xx (nI 0) (nI 1) (fX10_ones (nI 1)) (nI i) = actM i)
    (hval : ∀ i pp xx, st ≤ i → i < vl → Iv (d * 128) w st z i xx → ∀ j, j < w → lb (cVal kd o sel (nI vl) isM hr sec off pp md tm xx S d w l lw r rw i) j = lb (valM i) j)
    (hsat : ∀ i sc xx, st ≤ i → i < vl → Iv (d * 128) w st z i xx → cValS kd o hr sec md sc xx S l lw r rw i = satM i sc) :
    Sy (cRun kd o sel (nI vl) isM hr sec off ps (nI st) md sat c tm (fX11_isTailOpen vt) (fX11_isMaskOpen vt) x S d w g l lw r rw) (fX11_tail__zV c vt (itr (fun k s => ((if actM k = 0 then s.1 else satM k s.1), (if actM k = 0 then fX11_masked__zV c vt s.2 (nI d) (nI w) (nI k) else fX11_put__zV s.2 (nI d) (nI w) (nI k) (valM k)))) (vl - st) st (sat, z)).2 (nI d) (nI w) (nI e8) (nI vl)) ∧
    cSat kd o sel (nI vl) isM hr sec off ps (nI st) md sat c tm (fX11_isMaskOpen vt) x S d w l lw r rw = (itr (fun k s => ((if actM k = 0 then s.1 else satM k s.1), (if actM k = 0 then fX11_masked__zV c vt s.2 (nI d) (nI w) (nI k) else fX11_put__zV s.2 (nI d) (nI w) (nI k) (valM k)))) (vl - st) st (sat, z)).1 := by
  obtain ⟨e1, e2⟩ := cRun_go (kd := kd) (o := o) (sel := sel) (isM := isM) (hr := hr) (sec := sec) (off := off) (ps := ps) (md := md) (sat := sat) (c := c) (tm := tm) (tt := fX11_isTailOpen vt) (mo := fX11_isMaskOpen vt) (x := x) (S := S) (d := d) (w := w) (g := g) (l := l) (lw := lw) (r := r) (rw := rw) hk hf hst (by omega)
  rw [e1, e2, p127 hw]
  have key := itr_rel (fun i s t => Rl (d * 128) w st z i s.2.2 t.2 ∧ s.2.1 = t.1) (cBody kd o sel (nI vl) isM hr sec off md c tm (fX11_isMaskOpen vt) S d w l lw r rw) (fun (k : Nat) (s : Int32 × (Nat → Int32)) => ((if actM k = 0 then s.1 else satM k s.1), (if actM k = 0 then fX11_masked__zV c vt s.2 (nI d) (nI w) (nI k) else fX11_put__zV s.2 (nI d) (nI w) (nI k) (valM k)))) (vl - st) st (ps, sat, x) (sat, z) (by
    intro i s t hi1 hi2 ⟨hR, hs⟩
    obtain ⟨pp, sc, xx⟩ := s
    obtain ⟨sm, zz⟩ := t
    dsimp only at hR hs ⊢
    subst hs
    have hiS : i * w + w ≤ g * 128 := mul_in (by omega) hvl
    have ha := hact i xx hi1 (by omega) hR.2
    unfold pX4_runElements_97_xV pX4_runElements_97_r_saturated
    rw [ha]
    by_cases q : actM i = 0
    · simp only [if_pos q]
      exact ⟨hR.msk hw hi1 (by omega) c vt, trivial⟩
    · simp only [if_neg q]
      exact ⟨hR.put hw hi1 (by omega) (hval i pp xx hi1 (by omega) hR.2), hsat i sc xx hi1 (by omega) hR.2⟩) ⟨⟨h0, Iv.start h0⟩, rfl⟩
  exact ⟨key.1.1.tail (r := d) (e := w) (g := g) (e8 := e8) (k := vl) hw hg8 hreg (by omega) (by omega) c rfl, key.2⟩
theorem sh2_bits {S : Nat} (hS : S = 8 ∨ S = 16) : ∀ j, j < 32 → bt (nI (2 * S) - (1 : Int32)) j = true → j < 5 := by rcases hS with rfl | rfl <;> decide +kernel
theorem sh2_sign {S : Nat} (hS : S = 8 ∨ S = 16) : ∀ j, j < 64 → lb (Int32.toInt64 (nI (2 * S) - (1 : Int32))) j = (decide (j < 32) && bt (nI (2 * S) - (1 : Int32)) j) := by rcases hS with rfl | rfl <;> decide +kernel
theorem shift2_eq (z zX : Nat → Int32) {s1 S i : Nat} (hS2 : S = 8 ∨ S = 16) (h1 : s1 < 32) {F : Int32} (hF : okF F) : (Int64.toInt32 (fX11_second_ (nI s1) F zX z (nI S) (nI i))) &&& (nI (2 * S) - (1 : Int32)) = fX11_shift (nI s1) F zX z (nI S) (nI (2 * S)) (nI i) := by
  have hS : okB S := by rcases hS2 with h | h <;> subst h <;> simp [okB]
  have hle := hS.le
  refine b_ext (fun j hj => ?_)
  unfold fX11_shift
  rw [b_and, b_l2i _ hj, b_l2i _ hj, l_and, sh2_sign hS2 j (by omega)]
  by_cases q : bt (nI (2 * S) - (1 : Int32)) j = true
  · have h5 := sh2_bits hS2 j hj q
    have key : lb (fX11_second_ (nI s1) F zX z (nI S) (nI i)) j = lb (pX11_shift_45_S1 (nI s1) F zX z (nI S) (nI i)) j := by
      unfold fX11_second_ pX11_second__48_S1 pX11_shift_45_S1 pX11_second__44_S1
      rcases hF with rfl | rfl | rfl | rfl | rfl
      · rw [if_neg (by decide), if_neg (by decide)]
      · rw [if_neg (by decide), if_neg (by decide)]
      · rw [if_pos (by decide), if_pos (by decide), if_pos (by decide), if_pos (by decide), cut_eq _ hS, l_and, l_onesE hS.E (by omega), imm_lo s1 h1 j h5]; simp [show j < S by omega]
      · have v0 : fX11_isV 4 = 0 := by decide
        have x0 : ¬ fX11_isX 4 = 0 := by decide
        simp only [if_pos v0, if_neg x0]
        rw [cut_eq _ hS, l_and, l_onesE hS.E (by omega)]; simp [show j < S by omega]
      · have v0 : fX11_isV 6 = 0 := by decide
        have x0 : ¬ fX11_isX 6 = 0 := by decide
        simp only [if_pos v0, if_neg x0]
        rw [cut_eq _ hS, l_and, l_onesE hS.E (by omega)]; simp [show j < S by omega]
    rw [key, q]; simp [hj]
  · have q2 : bt (nI (2 * S) - (1 : Int32)) j = false := by cases hq : bt (nI (2 * S) - (1 : Int32)) j <;> simp_all
    simp [q2]
def nrT : List (Int32 × Int32 × Int32) := [(44, 0, 0), (45, 1, 0), (46, 0, 1), (47, 1, 1)]
theorem narrows_loop {S g d s1 s2 vl st md e8 : Nat} (hS2 : S = 8 ∨ S = 16) (hmd : md < 4) {x z xS zX : Nat → Int32} (h0 : Sy x z) (hX : SX xS zX) (h1 : s1 < 32) (h2 : s2 < 32) (hg8 : g ≤ 8) (hreg : fX11_registers (nI e8) = nI g) (hdg : d + g ≤ 32) (hvl : vl * S ≤ g * 128) (hv128 : vl ≤ 128) (hst : st < vl) {isM un hr F sel : Int32} {off : Int64} {tm vt : Int32} {c : Int64} (hF : okF F) (hhr : hr = fX3_takesVector F) {o u1 u2 : Int32} (hop : (o, u1, u2) ∈ nrT) (hL : Pos s2 (2 * S) d S st vl) (hV : ¬ hr = 0 → Pos s1 S d S st vl) (hmu : isM = 0 ↔ ¬ un = 0) (hm : ¬ isM = 0 → ¬ d = 0) (ps sat : Int32) :
    Sy (cRun 6 o sel (nI vl) isM hr (fX4_prepare__n_second (nI S) xS F (nI s1)) off ps (nI st) (nI md) sat c tm (fX11_isTailOpen vt) (fX11_isMaskOpen vt) x S d S g s2 (2 * S) s1 S) (fX11_tail__zV c vt ((LX11_narrows_45 c (nI vl) vt (nI md) (nI d) (nI s1) (nI s2) F (nI S) un zX z u1 u2 (cnt (nI st) (nI vl)) (nI st, sat, z)).2.2) (nI d) (nI S) (nI e8) (nI vl)) ∧
    cSat 6 o sel (nI vl) isM hr (fX4_prepare__n_second (nI S) xS F (nI s1)) off ps (nI st) (nI md) sat c tm (fX11_isMaskOpen vt) x S d S s2 (2 * S) s1 S = (LX11_narrows_45 c (nI vl) vt (nI md) (nI d) (nI s1) (nI s2) F (nI S) un zX z u1 u2 (cnt (nI st) (nI vl)) (nI st, sat, z)).2.1 := by
  have hS : okB S := by rcases hS2 with h | h <;> subst h <;> simp [okB]
  have h2S : okB (2 * S) := by rcases hS2 with h | h <;> subst h <;> simp [okB]
  have hle := hS.le
  rw [cnt_nI (by omega) (by omega), itX11_narrows_45 (b9 := vl) _ _ _ _ _ _ _ _ _ _ _ _ _ _ rfl (by omega) (vl - st) st sat z (by omega)]
  refine fam_bs (kd := 6) (o := o) (sel := sel) (isM := isM) (hr := hr) (sec := fX4_prepare__n_second (nI S) xS F (nI s1)) (off := off) (ps := ps) (md := nI md) (sat := sat) (c := c) (tm := tm) (vt := vt) (x := x) (z := z) (S := S) (d := d) (w := S) (g := g) (l := s2) (lw := 2 * S) (r := s1) (rw := S) (st := st) (vl := vl) (e8 := e8) (by decide) (by rfl) hS h0 hg8 hreg hdg hvl hst (by omega) (fun k => fX11_isActive un z (nI k)) (fun k => pX11_narrows_203_L7 (nI md) (nI s1) (nI s2) F (nI S) zX z u1 u2 (nI k)) (fun k sc => pX11_narrows_203_m_vxsat (nI md) (nI s1) (nI s2) F (nI S) zX z u1 u2 (nI k) sc) ?_ ?_ ?_
  · intro i xx hi1 hi2 hI
    exact act_eq hI (by decide) hmu (by omega) (fun q => by have := hm q; omega)
  · intro i pp xx hi1 hi2 hI j hj
    have hB := (hL i hi1 hi2).1
    have e1 := rd h0.1 hI (r := s2) (k := i) h2S (hL i hi1 hi2).1 (hL i hi1 hi2).2
    have e2 := right_eq h0.1 hI hX hS h1 hF hhr (fun w => hV w i hi1 hi2)
    have e4 : ((2 : Int32) * nI S) = nI (2 * S) := two_S
    have e5 := shift2_eq z zX (s1 := s1) (i := i) hS2 h1 hF
    obtain ⟨k, hk, hk2⟩ := amount h2S (Int64.toInt32 (fX11_second_ (nI s1) F zX z (nI S) (nI i)))
    have e6 := srl_eq h2S (low_get z h0.1 h2S (r := s2) (i := i) (by omega) (by omega)) hk
    have r2 : ∀ y, fX0_rounded (nI md) y (nI k) = fX11_rounded y (nI k) (nI md) := fun y => rounded_eq y (by omega) hmd
    have h5 := ones_eq hS
    have h6 := least_eq hS
    unfold cVal fX4_valueAt
    rw [e1, e2]
    simp only [nrT, List.mem_cons, Prod.mk.injEq, List.not_mem_nil, or_false] at hop
    rcases hop with h | h | h | h <;> obtain ⟨rfl, rfl, rfl⟩ := h <;> simp (decide := true) only [fX0_result, fX0_narrow, pX11_narrows_203_L7, pX11_narrows_201_S1, pX11_narrows_151_S1, pX11_narrows_111_L4, eX11_narrows_109, signed_eq, within_eq, e4, ← e5, hk2, e6, r2, h5, h6, if_true, if_false]
  · intro i sc xx hi1 hi2 hI
    have e1 := rd h0.1 hI (r := s2) (k := i) h2S (hL i hi1 hi2).1 (hL i hi1 hi2).2
    have e2 := right_eq h0.1 hI hX hS h1 hF hhr (fun w => hV w i hi1 hi2)
    have e4 : ((2 : Int32) * nI S) = nI (2 * S) := two_S
    have e5 := shift2_eq z zX (s1 := s1) (i := i) hS2 h1 hF
    obtain ⟨k, hk, hk2⟩ := amount h2S (Int64.toInt32 (fX11_second_ (nI s1) F zX z (nI S) (nI i)))
    have r2 : ∀ y, fX0_rounded (nI md) y (nI k) = fX11_rounded y (nI k) (nI md) := fun y => rounded_eq y (by omega) hmd
    have h5 := ones_eq hS
    have h6 := least_eq hS
    unfold cValS fX4_valueAt__r_saturated
    rw [e1, e2]
    simp only [nrT, List.mem_cons, Prod.mk.injEq, List.not_mem_nil, or_false] at hop
    rcases hop with h | h | h | h <;> obtain ⟨rfl, rfl, rfl⟩ := h <;> simp (decide := true) only [fX0_result__r_saturated, fX0_narrow__r_saturated, pX11_narrows_203_m_vxsat, pX11_narrows_201_m_vxsat, pX11_narrows_151_S1, pX11_narrows_111_L4, eX11_narrows_109, signed_eq, withinS_eq, e4, ← e5, hk2, r2, h5, h6, if_true, if_false]
