/-! ===== families in general: a target of bytes, a target of mask bits ===== -/
noncomputable abbrev cVal (kd o sel len isM hr : Int32) (sec off : Int64) (pp md tm : Int32) (x : Nat → Int32) (S d w l lw r rw i : Nat) : Int64 := fX4_valueAt kd o sel len isM hr sec off pp md tm x (nI S) (fX10_ones (nI S)) (lshr (fX10_ones (nI S)) (1 : Int32)) ((-(lshr (fX10_ones (nI S)) (1 : Int32))) - (1 : Int64)) (nI d) (nI w) (fX10_ones (nI w)) (nI l) (nI lw) (fX10_ones (nI lw)) (nI r) (nI rw) (fX10_ones (nI rw)) (nI 0) (nI 1) (fX10_ones (nI 1)) (nI i)
noncomputable abbrev cValS (kd o hr : Int32) (sec : Int64) (md sc : Int32) (x : Nat → Int32) (S l lw r rw i : Nat) : Int32 := fX4_valueAt__r_saturated kd o hr sec md sc x (nI S) (fX10_ones (nI S)) (lshr (fX10_ones (nI S)) (1 : Int32)) ((-(lshr (fX10_ones (nI S)) (1 : Int32))) - (1 : Int64)) (nI l) (nI lw) (fX10_ones (nI lw)) (nI r) (nI rw) (fX10_ones (nI rw)) (nI i)
theorem fam_b {kd o sel isM hr : Int32} {sec off : Int64} {ps md sat : Int32} {c : Int64} {tm vt : Int32} {x z : Nat → Int32} {S d w g l lw r rw st vl e8 : Nat} (hk : ¬ kd = 25) (hf : fX4_firstElement kd (nI vl) off (nI st) = nI st) (hw : okB w) (h0 : Sy x z) (hg8 : g ≤ 8) (hreg : fX11_registers (nI e8) = nI g) (hdg : d + g ≤ 32) (hvl : vl * w ≤ g * 128) (hst : st < vl) (hv : vl < 2 ^ 30) (actM : Nat → Int32) (valM : Nat → Int64)
    (hact : ∀ i xx, st ≤ i → i < vl → Iv (d * 128) w st z i xx → fX4_isActive kd isM xx (nI 0) (nI 1) (fX10_ones (nI 1)) (nI i) = actM i)
    (hval : ∀ i pp xx, st ≤ i → i < vl → Iv (d * 128) w st z i xx → ∀ j, j < w → lb (cVal kd o sel (nI vl) isM hr sec off pp md tm xx S d w l lw r rw i) j = lb (valM i) j)
    (hsat : ∀ i sc xx, st ≤ i → i < vl → Iv (d * 128) w st z i xx → cValS kd o hr sec md sc xx S l lw r rw i = sc) :
    Sy (cRun kd o sel (nI vl) isM hr sec off ps (nI st) md sat c tm (fX11_isTailOpen vt) (fX11_isMaskOpen vt) x S d w g l lw r rw) (fX11_tail__zV c vt (itr (fun k s => if actM k = 0 then fX11_masked__zV c vt s (nI d) (nI w) (nI k) else fX11_put__zV s (nI d) (nI w) (nI k) (valM k)) (vl - st) st z) (nI d) (nI w) (nI e8) (nI vl)) ∧
    cSat kd o sel (nI vl) isM hr sec off ps (nI st) md sat c tm (fX11_isMaskOpen vt) x S d w l lw r rw = sat := by
  obtain ⟨e1, e2⟩ := cRun_go (kd := kd) (o := o) (sel := sel) (isM := isM) (hr := hr) (sec := sec) (off := off) (ps := ps) (md := md) (sat := sat) (c := c) (tm := tm) (tt := fX11_isTailOpen vt) (mo := fX11_isMaskOpen vt) (x := x) (S := S) (d := d) (w := w) (g := g) (l := l) (lw := lw) (r := r) (rw := rw) hk hf hst (by omega)
  rw [e1, e2, p127 hw]
  have key := itr_rel (fun i s t => Rl (d * 128) w st z i s.2.2 t ∧ s.2.1 = sat) (cBody kd o sel (nI vl) isM hr sec off md c tm (fX11_isMaskOpen vt) S d w l lw r rw) (fun k s => if actM k = 0 then fX11_masked__zV c vt s (nI d) (nI w) (nI k) else fX11_put__zV s (nI d) (nI w) (nI k) (valM k)) (vl - st) st (ps, sat, x) z (by
    intro i s t hi1 hi2 ⟨hR, hs⟩
    obtain ⟨pp, sc, xx⟩ := s
    dsimp only at hR hs ⊢
    subst hs
    have hiS : i * w + w ≤ g * 128 := mul_in (by omega) hvl
    have ha := hact i xx hi1 (by omega) hR.2
    unfold pX4_runElements_97_xV pX4_runElements_97_r_saturated
    rw [ha]
    by_cases q : actM i = 0
    · simp only [if_pos q]
      exact ⟨hR.msk hw hi1 (by omega) c vt, trivial⟩
    · simp only [if_neg q]
      exact ⟨hR.put hw hi1 (by omega) (hval i pp xx hi1 (by omega) hR.2), hsat i sc xx hi1 (by omega) hR.2⟩) ⟨⟨h0, Iv.start h0⟩, rfl⟩
  exact ⟨key.1.1.tail (r := d) (e := w) (g := g) (e8 := e8) (k := vl) hw hg8 hreg (by omega) (by omega) c rfl, key.2⟩
theorem p127m : ¬ pX4_runElements_127_S3 (nI 1) = 0 := by decide
theorem fam_m {kd o sel isM hr : Int32} {sec off : Int64} {ps md sat : Int32} {c : Int64} {tm tt mo : Int32} {x z : Nat → Int32} {S d l lw r rw st vl : Nat} (hk : ¬ kd = 25) (hf : fX4_firstElement kd (nI vl) off (nI st) = nI st) (h0 : Sy x z) (hd : d < 32) (hst : st < vl) (hv : vl ≤ 128) (actM : Nat → Int32) (bitM : Nat → Int32)
    (hact : ∀ i xx, st ≤ i → i < vl → Iv (d * 128) 1 st z i xx → fX4_isActive kd isM xx (nI 0) (nI 1) (fX10_ones (nI 1)) (nI i) = actM i)
    (hval : ∀ i pp xx, st ≤ i → i < vl → Iv (d * 128) 1 st z i xx → lb (cVal kd o sel (nI vl) isM hr sec off pp md tm xx S d 1 l lw r rw i) 0 = decide (¬ bitM i = 0))
    (hsat : ∀ i sc xx, st ≤ i → i < vl → Iv (d * 128) 1 st z i xx → cValS kd o hr sec md sc xx S l lw r rw i = sc) :
    Sy (cRun kd o sel (nI vl) isM hr sec off ps (nI st) md sat c tm tt mo x S d 1 1 l lw r rw) (fX11_maskTail__zV c (nI vl) (itr (fun k s => if actM k = 0 then (if mo = 0 then s else fX11_openBit__zV c s (nI d) (nI k)) else fX11_putBit__zV s (nI d) (nI k) (bitM k)) (vl - st) st z) (nI d)) ∧
    cSat kd o sel (nI vl) isM hr sec off ps (nI st) md sat c tm mo x S d 1 l lw r rw = sat := by
  obtain ⟨e1, e2⟩ := cRun_go (kd := kd) (o := o) (sel := sel) (isM := isM) (hr := hr) (sec := sec) (off := off) (ps := ps) (md := md) (sat := sat) (c := c) (tm := tm) (tt := tt) (mo := mo) (x := x) (S := S) (d := d) (w := 1) (g := 1) (l := l) (lw := lw) (r := r) (rw := rw) hk hf hst (by omega)
  rw [e1, e2]
  have key := itr_rel (fun i s t => Rl (d * 128) 1 st z i s.2.2 t ∧ s.2.1 = sat) (cBody kd o sel (nI vl) isM hr sec off md c tm mo S d 1 l lw r rw) (fun k s => if actM k = 0 then (if mo = 0 then s else fX11_openBit__zV c s (nI d) (nI k)) else fX11_putBit__zV s (nI d) (nI k) (bitM k)) (vl - st) st (ps, sat, x) z (by
    intro i s t hi1 hi2 ⟨hR, hs⟩
    obtain ⟨pp, sc, xx⟩ := s
    dsimp only at hR hs ⊢
    subst hs
    have ha := hact i xx hi1 (by omega) hR.2
    unfold pX4_runElements_97_xV pX4_runElements_97_r_saturated
    rw [ha]
    by_cases q : actM i = 0
    · simp only [if_pos q]
      exact ⟨hR.mskBit hi1 (by omega) c mo, trivial⟩
    · simp only [if_neg q]
      exact ⟨hR.putBit hi1 (by omega) (hval i pp xx hi1 (by omega) hR.2), hsat i sc xx hi1 (by omega) hR.2⟩) ⟨⟨h0, Iv.start h0⟩, rfl⟩
  exact ⟨key.1.1.maskTail (r := d) (k := vl) hd (by omega) c tt p127m, key.2⟩
/-- a mask register and a group: the same first register, or apart -/
def gm (s d g : Nat) : Prop := s = d ∨ d + 1 ≤ s ∨ s + g ≤ d
theorem gm.pos {s d g S st i : Nat} (h : gm s d g) (hS : 8 ≤ S) (hi : i * S + S ≤ g * 128) (hi2 : i < 128) : s * 128 + i * S + S ≤ d * 128 + st * 1 ∨ d * 128 + i * 1 ≤ s * 128 + i * S := by
  have h5 : i ≤ i * S := Nat.le_mul_of_pos_right _ (by omega)
  rcases h with h | h | h
  · right; omega
  · right; omega
  · left; omega
theorem bitC (b : Int32) : lb (fX0_bit b) 0 = decide (¬ b = 0) := by
  unfold fX0_bit pX0_bit_9_S1
  by_cases h : b = 0
  · rw [if_pos h]; simp [h]; decide
  · rw [if_neg h]; simp [h]; decide
def cmpT : List (Int32 × Int32) := [(24, 0), (25, 1), (26, 2), (27, 3), (28, 4), (29, 5), (30, 6), (31, 7)]
theorem cmp_val {S : Nat} {s1 s2 i : Nat} {F : Int32} (zX z : Nat → Int32) {o p : Int32} (hop : (o, p) ∈ cmpT) : lb (fX0_compare (nI S) o (fX11_get z (nI s2) (nI S) (nI i)) (fX11_second_ (nI s1) F zX z (nI S) (nI i))) 0 = decide (¬ pX11_compares_275_S1 (nI s1) (nI s2) F (nI S) zX z p (nI i) = 0) := by
  simp only [cmpT, List.mem_cons, Prod.mk.injEq, List.not_mem_nil, or_false] at hop
  rcases hop with h | h | h | h | h | h | h | h <;> obtain ⟨rfl, rfl⟩ := h <;> simp (decide := true) only [fX0_compare, pX11_compares_275_S1, bitC, if_true, if_false, pX0_compare_80_S1, pX0_compare_96_S1, pX0_compare_112_S1, pX0_compare_129_S1, pX0_compare_145_S1, pX0_compare_162_S1, pX0_compare_178_S1, pX0_compare_195_S1, signed_eq] <;> first | rfl | congr
theorem compares_fam {S g d s1 s2 vl st md e8 : Nat} (hS : okB S) {x z xS zX : Nat → Int32} (h0 : Sy x z) (hX : SX xS zX) (h1 : s1 < 32) (hd : d < 32) (hsg : s2 + g ≤ 32) (hl : gm s2 d g) (hvl : vl * S ≤ g * 128) (hv128 : vl ≤ 128) (hst : st < 128) {isM un hr F sel : Int32} {off : Int64} {tm tt vt : Int32} {c : Int64} (hF : okF F) (hhr : hr = fX3_takesVector F) (hV : ¬ hr = 0 → s1 + g ≤ 32 ∧ gm s1 d g) (hmu : isM = 0 ↔ ¬ un = 0) {o p : Int32} (hop : (o, p) ∈ cmpT) (ps sat : Int32) (hmay : ¬ fX11_mayBeMask (nI d) (nI S) (nI e8) (nI s2) (nI S) (fX11_second (nI s1) F) (nI S) = 0) :
    Sy (cRun 2 o sel (nI vl) isM hr (fX4_prepare__n_second (nI S) xS F (nI s1)) off ps (nI st) (nI md) sat c tm tt (fX11_isMaskOpen vt) x S d 1 1 s2 S s1 S) (fX11_compares__zV c (nI vl) vt (nI st) (nI d) (nI s1) (nI s2) F (nI S) (nI e8) un zX z z p) ∧
    cSat 2 o sel (nI vl) isM hr (fX4_prepare__n_second (nI S) xS F (nI s1)) off ps (nI st) (nI md) sat c tm (fX11_isMaskOpen vt) x S d 1 s2 S s1 S = sat := by
  unfold fX11_compares__zV
  have hle := hS.le
  rw [if_neg hmay]
  rcases Nat.lt_or_ge st vl with q | q
  · have hg : ¬ fX11_goes (nI vl) (nI st) = 0 := fun w => absurd ((goes_eq (vl := vl) (st := st) (by omega) (by omega)).mp w) (by omega)
    rw [if_neg hg, cnt_nI (by omega) (by omega), itX11_compares_39 (b9 := vl) _ _ _ _ _ _ _ _ _ _ _ _ rfl (by omega) (vl - st) st z (by omega)]
    refine fam_m (kd := 2) (o := o) (sel := sel) (isM := isM) (hr := hr) (sec := fX4_prepare__n_second (nI S) xS F (nI s1)) (off := off) (ps := ps) (md := nI md) (sat := sat) (c := c) (tm := tm) (tt := tt) (mo := fX11_isMaskOpen vt) (x := x) (z := z) (S := S) (d := d) (l := s2) (lw := S) (r := s1) (rw := S) (st := st) (vl := vl) (by decide) (by rfl) h0 hd q hv128 (fun k => fX11_isActive un z (nI k)) (fun k => pX11_compares_275_S1 (nI s1) (nI s2) F (nI S) zX z p (nI k)) ?_ ?_ ?_
    · intro i xx hi1 hi2 hI
      exact act_eq hI (by decide) hmu (by omega) (fun _ => by omega)
    · intro i pp xx hi1 hi2 hI
      have hiS : i * S + S ≤ g * 128 := mul_in hi2 hvl
      have e1 := rd h0.1 hI (r := s2) (k := i) hS (by omega) (hl.pos hle.1 hiS (by omega))
      have e2 := right_eq h0.1 hI hX hS h1 hF hhr (fun w => ⟨by have := (hV w).1; omega, (hV w).2.pos hle.1 hiS (by omega)⟩)
      unfold cVal fX4_valueAt
      rw [if_neg (by decide), if_pos rfl, e1, e2]
      exact cmp_val zX z hop
    · intro i sc xx _ _ _
      unfold cValS fX4_valueAt__r_saturated
      rw [if_neg (by decide), if_pos rfl]
  · have hg := (goes_eq (vl := vl) (st := st) (by omega) (by omega)).mpr q
    rw [if_pos hg]
    obtain ⟨e1, e2⟩ := cRun_stop (kd := 2) (o := o) (sel := sel) (isM := isM) (hr := hr) (sec := fX4_prepare__n_second (nI S) xS F (nI s1)) (off := off) (ps := ps) (md := nI md) (sat := sat) (c := c) (tm := tm) (tt := tt) (mo := fX11_isMaskOpen vt) (x := x) (S := S) (d := d) (w := 1) (g := 1) (l := s2) (lw := S) (r := s1) (rw := S) (st := st) (vl := vl) (by omega) q
    rw [e1, e2]
    exact ⟨h0, rfl⟩
