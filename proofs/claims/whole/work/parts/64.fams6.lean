/-! ===== families: slides, gathers ===== -/
theorem itr_add {σ : Type} (f : Nat → σ → σ) : ∀ (n m a : Nat) (s : σ), itr f (n + m) a s = itr f m (a + n) (itr f n a s)
  | 0, m, a, s => by rw [Nat.zero_add]; rfl
  | n + 1, m, a, s => by
    rw [show n + 1 + m = (n + m) + 1 by omega]
    show itr f (n + m) (a + 1) (f a s) = itr f m (a + (n + 1)) (itr f n (a + 1) (f a s))
    rw [itr_add f n m (a + 1) (f a s), show a + 1 + n = a + (n + 1) by omega]
theorem itr_congr {σ : Type} (f g : Nat → σ → σ) : ∀ (n a : Nat) (s : σ), (∀ i s, a ≤ i → i < a + n → f i s = g i s) → itr f n a s = itr g n a s
  | 0, _, _, _ => rfl
  | n + 1, a, s, h => by
    show itr f n (a + 1) (f a s) = itr g n (a + 1) (g a s)
    rw [h a s (Nat.le_refl a) (by omega)]
    exact itr_congr f g n (a + 1) _ (fun i s h1 h2 => h i s (by omega) (by omega))
theorem itr_id {σ : Type} (f : Nat → σ → σ) : ∀ (n a : Nat) (s : σ), (∀ i s, a ≤ i → i < a + n → f i s = s) → itr f n a s = s
  | 0, _, _, _ => rfl
  | n + 1, a, s, h => by
    show itr f n (a + 1) (f a s) = s
    rw [h a s (Nat.le_refl a) (by omega)]
    exact itr_id f n (a + 1) s (fun i s h1 h2 => h i s (by omega) (by omega))
theorem cRun_go2 {kd o sel isM hr : Int32} {sec off : Int64} {ps md sat : Int32} {c : Int64} {tm tt mo : Int32} {x : Nat → Int32} {S d w g l lw r rw st vl a0 : Nat} (hk : ¬ kd = 25) (hf : fX4_firstElement kd (nI vl) off (nI st) = nI a0) (ha0 : a0 ≤ vl) (hs : st < vl) (hv : vl < 2 ^ 31) :
    cRun kd o sel (nI vl) isM hr sec off ps (nI st) md sat c tm tt mo x S d w g l lw r rw = fX2_leaveTail__xV (nI d) (nI w) (nI g) (fX10_ones (nI w)) c (itr (cBody kd o sel (nI vl) isM hr sec off md c tm mo S d w l lw r rw) (vl - a0) a0 (ps, sat, x)).2.2 tt (nI vl) (pX4_runElements_127_S3 (nI w)) ∧
    cSat kd o sel (nI vl) isM hr sec off ps (nI st) md sat c tm mo x S d w l lw r rw = (itr (cBody kd o sel (nI vl) isM hr sec off md c tm mo S d w l lw r rw) (vl - a0) a0 (ps, sat, x)).2.1 := by
  have h : nI st < nI vl := nI_lt hs hv
  unfold cRun cSat fX4_runElements__xV fX4_runElements__r_saturated
  rw [if_pos h, if_pos h, if_neg hk, if_neg hk, hf, cnt_nI (by omega) hv, itX4_runElements_44 (b9 := vl) _ _ _ _ _ _ _ _ _ _ _ _ _ _ _ _ _ _ _ _ _ _ _ _ _ _ _ _ rfl (by omega) (vl - a0) a0 ps sat x (by omega)]
  exact ⟨rfl, rfl⟩
theorem fam_b2 {kd o sel isM hr : Int32} {sec off : Int64} {ps md sat : Int32} {c : Int64} {tm vt : Int32} {x z : Nat → Int32} {S d w g l lw r rw st vl e8 a0 : Nat} (hk : ¬ kd = 25) (hf : fX4_firstElement kd (nI vl) off (nI st) = nI a0) (ha0 : a0 ≤ vl) (hw : okB w) (h0 : Sy x z) (hg8 : g ≤ 8) (hreg : fX11_registers (nI e8) = nI g) (hdg : d + g ≤ 32) (hvl : vl * w ≤ g * 128) (hst : st < vl) (hv : vl < 2 ^ 30) (actM : Nat → Int32) (valM : Nat → Int64)
    (hact : ∀ i xx, a0 ≤ i → i < vl → Iv (d * 128) w a0 z i xx → fX4_isActive kd isM xx (nI 0) (nI 1) (fX10_ones (nI 1)) (nI i) = actM i)
    (hval : ∀ i pp xx, a0 ≤ i → i < vl → Iv (d * 128) w a0 z i xx → ∀ j, j < w → lb (cVal kd o sel (nI vl) isM hr sec off pp md tm xx S d w l lw r rw i) j = lb (valM i) j)
    (hsat : ∀ i sc xx, a0 ≤ i → i < vl → Iv (d * 128) w a0 z i xx → cValS kd o hr sec md sc xx S l lw r rw i = sc) :
    Sy (cRun kd o sel (nI vl) isM hr sec off ps (nI st) md sat c tm (fX11_isTailOpen vt) (fX11_isMaskOpen vt) x S d w g l lw r rw) (fX11_tail__zV c vt (itr (fun k s => if actM k = 0 then fX11_masked__zV c vt s (nI d) (nI w) (nI k) else fX11_put__zV s (nI d) (nI w) (nI k) (valM k)) (vl - a0) a0 z) (nI d) (nI w) (nI e8) (nI vl)) ∧
    cSat kd o sel (nI vl) isM hr sec off ps (nI st) md sat c tm (fX11_isMaskOpen vt) x S d w l lw r rw = sat := by
  obtain ⟨e1, e2⟩ := cRun_go2 (kd := kd) (o := o) (sel := sel) (isM := isM) (hr := hr) (sec := sec) (off := off) (ps := ps) (md := md) (sat := sat) (c := c) (tm := tm) (tt := fX11_isTailOpen vt) (mo := fX11_isMaskOpen vt) (x := x) (S := S) (d := d) (w := w) (g := g) (l := l) (lw := lw) (r := r) (rw := rw) hk hf ha0 hst (by omega)
  rw [e1, e2, p127 hw]
  have key := itr_rel (fun i s t => Rl (d * 128) w a0 z i s.2.2 t ∧ s.2.1 = sat) (cBody kd o sel (nI vl) isM hr sec off md c tm (fX11_isMaskOpen vt) S d w l lw r rw) (fun k s => if actM k = 0 then fX11_masked__zV c vt s (nI d) (nI w) (nI k) else fX11_put__zV s (nI d) (nI w) (nI k) (valM k)) (vl - a0) a0 (ps, sat, x) z (by
    intro i s t hi1 hi2 ⟨hR, hs⟩
    obtain ⟨pp, sc, xx⟩ := s
    dsimp only at hR hs ⊢
    subst hs
    have hiS : i * w + w ≤ g * 128 := mul_in (by omega) hvl
    have ha := hact i xx hi1 (by omega) hR.2
    unfold pX4_runElements_97_xV pX4_runElements_97_r_saturated
    rw [ha]
    by_cases q : actM i = 0
    · simp only [if_pos q]
      exact ⟨hR.msk hw hi1 (by omega) c vt, trivial⟩
    · simp only [if_neg q]
      exact ⟨hR.put hw hi1 (by omega) (hval i pp xx hi1 (by omega) hR.2), hsat i sc xx hi1 (by omega) hR.2⟩) ⟨⟨h0, Iv.start h0⟩, rfl⟩
  exact ⟨key.1.1.tail (r := d) (e := w) (g := g) (e8 := e8) (k := vl) hw hg8 hreg (by omega) (by omega) c rfl, key.2⟩
/-- the elements of a source may be read at any number below M -/
theorem left_at {D w st i : Nat} {x zO : Nat → Int32} (hz : zB zO) (h : Iv D w st zO i x) {s2 S M k : Nat} (hS : okB S) (hM : M < 2 ^ 31) (hk : k < 2 ^ 40) (hp : k < M → s2 * 128 + k * S + S ≤ 4096 ∧ (s2 * 128 + k * S + S ≤ D + st * w ∨ D + i * w ≤ s2 * 128 + k * S)) : fX4_leftAt (nI M) x (nI s2) (nI S) (fX10_ones (nI S)) (lN k) = if Int32.toInt64 (nI M) ≤ lN k then 0 else fX11_get zO (nI s2) (nI S) (Int64.toInt32 (lN k)) := by
  unfold fX4_leftAt pX4_leftAt_35_S1
  rw [lzero, if_neg (fun q => absurd ((pk_lLT (by omega) (by omega)).mp q) (by omega)), nI_l hM, lN_i]
  by_cases q : M ≤ k
  · have q1 : lN M ≤ lN k := (pk_lLE (by omega) (by omega)).mpr q
    rw [if_pos q1, if_pos q1]
  · have q1 : ¬ lN M ≤ lN k := fun w => q ((pk_lLE (by omega) (by omega)).mp w)
    rw [if_neg q1, if_neg q1]
    exact rd hz h hS (hp (by omega)).1 (hp (by omega)).2
theorem andw (x : Int64) : ∃ m, m < 2 ^ 32 ∧ x &&& (4294967295 : Int64) = lN m := by
  obtain ⟨n, hn, rfl⟩ := lN_of x
  exact ⟨n % 2 ^ 32, Nat.mod_lt _ (by decide), by rw [show (4294967295 : Int64) = lN (2 ^ 32 - 1) by decide, lmask n (by decide)]⟩
/-- the offset: the same in both -/
theorem off_eq {xS zX : Nat → Int32} (hX : SX xS zX) {s1 : Nat} (h1 : s1 < 32) {F : Int32} (hF : F = 3 ∨ F = 4) : ∃ b, b < 2 ^ 32 ∧ fX4_prepare__n_offset xS F (nI s1) = lN b ∧ pX11_slidesUp_96_S1 (nI s1) F zX = lN b := by
  rcases hF with rfl | rfl
  · refine ⟨s1, by omega, ?_, ?_⟩
    · unfold fX4_prepare__n_offset pX4_prepare_142_S2
      rw [if_neg (by decide), nI_l (by omega)]
    · unfold pX11_slidesUp_96_S1
      rw [if_pos (by decide), nI_l (by omega)]
  · obtain ⟨m, hm, e⟩ := andw (Int32.toInt64 (zX s1))
    refine ⟨m, hm, ?_, ?_⟩
    · unfold fX4_prepare__n_offset pX4_prepare_142_S2
      rw [if_pos (by decide), hX.scalar h1, show fX10_ones 32 = (4294967295 : Int64) by decide +kernel, e]
    · unfold pX11_slidesUp_96_S1
      rw [if_neg (by decide), nI_clamp (by omega), e]
theorem mul_in2 {k M S G : Nat} (h1 : k < M) (h2 : M * S ≤ G) : k * S + S ≤ G := mul_in h1 h2
theorem slidesDown_loop {S g d s1 s2 vl st md e8 M : Nat} (hS : okB S) {x z xS zX : Nat → Int32} (h0 : Sy x z) (hX : SX xS zX) (h1 : s1 < 32) (hg8 : g ≤ 8) (hreg : fX11_registers (nI e8) = nI g) (hdg : d + g ≤ 32) (hsg : s2 + g ≤ 32) (hl : gp s2 d g) (hM : M * S ≤ g * 128) (hvM : vl ≤ M) (hv128 : vl ≤ 128) (hst : st < vl) {isM un hr F sel : Int32} {sec : Int64} {vt : Int32} {c : Int64} (hF : F = 3 ∨ F = 4) (hvt : fX11_vlmax vt = nI M) (hmu : isM = 0 ↔ ¬ un = 0) (hm : ¬ isM = 0 → ¬ d = 0) {o : Int32} {r rw : Nat} (ps sat : Int32) :
    Sy (cRun 20 o sel (nI vl) isM hr sec (fX4_prepare__n_offset xS F (nI s1)) ps (nI st) (nI md) sat c (nI M) (fX11_isTailOpen vt) (fX11_isMaskOpen vt) x S d S g s2 S r rw) (fX11_tail__zV c vt ((LX11_slidesDown_70 c (nI vl) vt (nI d) (nI s1) (nI s2) F (nI S) un zX z (cnt (nI st) (nI vl)) (nI st, z)).2) (nI d) (nI S) (nI e8) (nI vl)) ∧
    cSat 20 o sel (nI vl) isM hr sec (fX4_prepare__n_offset xS F (nI s1)) ps (nI st) (nI md) sat c (nI M) (fX11_isMaskOpen vt) x S d S s2 S r rw = sat := by
  have hle := hS.le
  have hvl : vl * S ≤ g * 128 := Nat.le_trans (Nat.mul_le_mul_right _ hvM) hM
  have hM2 : M ≤ 1024 := by
    have : M * 8 ≤ M * S := Nat.mul_le_mul_left _ hle.1
    omega
  obtain ⟨b, hb, eb, eb2⟩ := off_eq hX h1 hF
  have eb3 : pX11_slidesDown_64_S1 (nI s1) F zX = lN b := eb2
  rw [cnt_nI (by omega) (by omega), itX11_slidesDown_70 (b9 := vl) _ _ _ _ _ _ _ _ _ _ _ rfl (by omega) (vl - st) st z (by omega)]
  refine fam_b (kd := 20) (o := o) (sel := sel) (isM := isM) (hr := hr) (sec := sec) (off := fX4_prepare__n_offset xS F (nI s1)) (ps := ps) (md := nI md) (sat := sat) (c := c) (tm := nI M) (vt := vt) (x := x) (z := z) (S := S) (d := d) (w := S) (g := g) (l := s2) (lw := S) (r := r) (rw := rw) (st := st) (vl := vl) (e8 := e8) (by decide) (by rfl) hS h0 hg8 hreg hdg hvl hst (by omega) (fun k => fX11_isActive un z (nI k)) (fun k => pX11_slidesDown_130_S5 vt (nI s1) (nI s2) F (nI S) zX z (nI k)) ?_ ?_ ?_
  · intro i xx hi1 hi2 hI
    exact act_eq hI (by decide) hmu (by omega) (fun q => by have := hm q; omega)
  · intro i pp xx hi1 hi2 hI j hj
    unfold cVal fX4_valueAt fX4_movedTo pX11_slidesDown_130_S5
    simp (decide := true) only [if_true, if_false]
    rw [eb, eb3, hvt, nI_l (by omega), lN_add, left_at h0.1 hI (M := M) (k := i + b) hS (by omega) (by omega) (fun hk => by
      have hkS := mul_in2 hk hM
      have hik : i * S ≤ (i + b) * S := Nat.mul_le_mul_right _ (by omega)
      have hiS := mul_in2 hi2 hvl
      refine ⟨by omega, ?_⟩
      rcases hl with q | q | q
      · right; omega
      · right; omega
      · left; omega)]
  · intro i sc xx _ _ _
    unfold cValS fX4_valueAt__r_saturated
    simp (decide := true) only [if_true, if_false]
theorem slidesUp_loop {S g d s1 s2 vl st md e8 M : Nat} (hS : okB S) {x z xS zX : Nat → Int32} (h0 : Sy x z) (hX : SX xS zX) (h1 : s1 < 32) (hg8 : g ≤ 8) (hreg : fX11_registers (nI e8) = nI g) (hdg : d + g ≤ 32) (hsg : s2 + g ≤ 32) (hl : d + g ≤ s2 ∨ s2 + g ≤ d) (hM : M * S ≤ g * 128) (hvM : vl ≤ M) (hv128 : vl ≤ 128) (hst : st < vl) {isM un hr F sel : Int32} {sec : Int64} {vt : Int32} {c : Int64} (hF : F = 3 ∨ F = 4) (hmu : isM = 0 ↔ ¬ un = 0) (hm : ¬ isM = 0 → ¬ d = 0) {o : Int32} {r rw : Nat} (ps sat : Int32) :
    Sy (cRun 19 o sel (nI vl) isM hr sec (fX4_prepare__n_offset xS F (nI s1)) ps (nI st) (nI md) sat c (nI M) (fX11_isTailOpen vt) (fX11_isMaskOpen vt) x S d S g s2 S r rw) (fX11_tail__zV c vt ((LX11_slidesUp_102 c (nI vl) vt (nI d) (nI s1) (nI s2) F (nI S) un zX z (cnt (nI st) (nI vl)) (nI st, z)).2) (nI d) (nI S) (nI e8) (nI vl)) ∧
    cSat 19 o sel (nI vl) isM hr sec (fX4_prepare__n_offset xS F (nI s1)) ps (nI st) (nI md) sat c (nI M) (fX11_isMaskOpen vt) x S d S s2 S r rw = sat := by
  have hle := hS.le
  have hvl : vl * S ≤ g * 128 := Nat.le_trans (Nat.mul_le_mul_right _ hvM) hM
  have hM2 : M ≤ 1024 := by
    have : M * 8 ≤ M * S := Nat.mul_le_mul_left _ hle.1
    omega
  obtain ⟨b, hb, eb, eb2⟩ := off_eq hX h1 hF
  have hfe : ∃ a0, st ≤ a0 ∧ a0 ≤ vl ∧ (a0 < vl → b ≤ a0) ∧ (∀ i, st ≤ i → i < a0 → i < b) ∧ fX4_firstElement 19 (nI vl) (lN b) (nI st) = nI a0 := by
    unfold fX4_firstElement
    rw [if_pos rfl, nI_l (by omega), nI_l (by omega)]
    by_cases q : b ≤ st
    · rw [if_pos ((pk_lLE (by omega) (by omega)).mpr q)]
      exact ⟨st, Nat.le_refl _, by omega, fun _ => q, fun i h1 h2 => by omega, rfl⟩
    · rw [if_neg (fun w => q ((pk_lLE (by omega) (by omega)).mp w))]
      unfold kmin
      by_cases q2 : vl < b
      · rw [if_pos ((pk_lLT (by omega) (by omega)).mpr q2), lN_i]
        exact ⟨vl, by omega, Nat.le_refl _, fun w => by omega, fun i h1 h2 => by omega, rfl⟩
      · rw [if_neg (fun w => q2 ((pk_lLT (by omega) (by omega)).mp w)), lN_i]
        exact ⟨b, by omega, by omega, fun _ => Nat.le_refl _, fun i h1 h2 => h2, rfl⟩
  obtain ⟨a0, k1, k2, k3, k4, k5⟩ := hfe
  rw [cnt_nI (by omega) (by omega), itX11_slidesUp_102 (b9 := vl) _ _ _ _ _ _ _ _ _ _ _ rfl (by omega) (vl - st) st z (by omega)]
  dsimp only
  have hsplit : itr (fun k s => pX11_slidesUp_174_zV c vt (nI d) (nI s1) (nI s2) F (nI S) un zX z (nI k) s) (vl - st) st z = itr (fun k s => if fX11_isActive un z (nI k) = 0 then fX11_masked__zV c vt s (nI d) (nI S) (nI k) else fX11_put__zV s (nI d) (nI S) (nI k) (fX11_get z (nI s2) (nI S) (Int64.toInt32 (lN (k - b))))) (vl - a0) a0 z := by
    rw [show vl - st = (a0 - st) + (vl - a0) by omega, itr_add, show st + (a0 - st) = a0 by omega]
    rw [itr_id (fun k s => pX11_slidesUp_174_zV c vt (nI d) (nI s1) (nI s2) F (nI S) un zX z (nI k) s) (a0 - st) st z (by
      intro i s h1 h2
      show pX11_slidesUp_174_zV c vt (nI d) (nI s1) (nI s2) F (nI S) un zX z (nI i) s = s
      unfold pX11_slidesUp_174_zV
      rw [eb2, nI_l (by omega), if_neg (fun w => absurd ((pk_lLE (by omega) (by omega)).mp w) (by have := k4 i h1 (by omega); omega))])]
    refine itr_congr _ _ _ _ _ ?_
    intro i s h1 h2
    have hbi : b ≤ i := Nat.le_trans (k3 (by omega)) h1
    show pX11_slidesUp_174_zV c vt (nI d) (nI s1) (nI s2) F (nI S) un zX z (nI i) s = _
    unfold pX11_slidesUp_174_zV
    rw [eb2, nI_l (by omega), if_pos ((pk_lLE (by omega) (by omega)).mpr hbi), lN_sub hbi]
  rw [hsplit]
  refine fam_b2 (kd := 19) (o := o) (sel := sel) (isM := isM) (hr := hr) (sec := sec) (off := fX4_prepare__n_offset xS F (nI s1)) (ps := ps) (md := nI md) (sat := sat) (c := c) (tm := nI M) (vt := vt) (x := x) (z := z) (S := S) (d := d) (w := S) (g := g) (l := s2) (lw := S) (r := r) (rw := rw) (st := st) (vl := vl) (e8 := e8) (a0 := a0) (by decide) (by rw [eb]; exact k5) k2 hS h0 hg8 hreg hdg hvl hst (by omega) (fun k => fX11_isActive un z (nI k)) (fun k => fX11_get z (nI s2) (nI S) (Int64.toInt32 (lN (k - b)))) ?_ ?_ ?_
  · intro i xx hi1 hi2 hI
    exact act_eq hI (by decide) hmu (by omega) (fun q => by have := hm q; omega)
  · intro i pp xx hi1 hi2 hI j hj
    have hbi : b ≤ i := Nat.le_trans (k3 (by omega)) hi1
    unfold cVal fX4_valueAt fX4_movedTo
    simp (decide := true) only [if_true, if_false]
    rw [eb, nI_l (by omega), lN_sub hbi, left_at h0.1 hI (M := M) (k := i - b) hS (by omega) (by omega) (fun hk => by
      have hkS := mul_in2 hk hM
      have hiS := mul_in2 hi2 hvl
      refine ⟨by omega, ?_⟩
      rcases hl with q | q
      · right; omega
      · left; omega), nI_l (by omega), if_neg (fun w => absurd ((pk_lLE (by omega) (by omega)).mp w) (by omega))]
  · intro i sc xx _ _ _
    unfold cValS fX4_valueAt__r_saturated
    simp (decide := true) only [if_true, if_false]
theorem slidesOne_loop {S g d s1 s2 vl st md e8 : Nat} (hS : okB S) {x z xS zX : Nat → Int32} (h0 : Sy x z) (hX : SX xS zX) (h1 : s1 < 32) (hg8 : g ≤ 8) (hreg : fX11_registers (nI e8) = nI g) (hdg : d + g ≤ 32) (hsg : s2 + g ≤ 32) (hvl : vl * S ≤ g * 128) (hv128 : vl ≤ 128) (hst : st < vl) {isM un hr sel kd u1 : Int32} {off : Int64} {tm vt : Int32} {c : Int64} (hku : (kd = 21 ∧ u1 = 1 ∧ (d + g ≤ s2 ∨ s2 + g ≤ d)) ∨ (kd = 22 ∧ u1 = 0 ∧ gp s2 d g)) (hmu : isM = 0 ↔ ¬ un = 0) (hm : ¬ isM = 0 → ¬ d = 0) {o : Int32} {r rw : Nat} (ps sat : Int32) :
    Sy (cRun kd o sel (nI vl) isM hr (fX4_prepare__n_second (nI S) xS 6 (nI s1)) off ps (nI st) (nI md) sat c tm (fX11_isTailOpen vt) (fX11_isMaskOpen vt) x S d S g s2 S r rw) (fX11_tail__zV c vt ((LX11_slidesOne_59 c (nI vl) vt (nI d) (nI s1) (nI s2) (nI S) un zX z u1 (cnt (nI st) (nI vl)) (nI st, z)).2) (nI d) (nI S) (nI e8) (nI vl)) ∧
    cSat kd o sel (nI vl) isM hr (fX4_prepare__n_second (nI S) xS 6 (nI s1)) off ps (nI st) (nI md) sat c tm (fX11_isMaskOpen vt) x S d S s2 S r rw = sat := by
  have hle := hS.le
  have hsec : ∀ j, j < S → lb (fX4_prepare__n_second (nI S) xS 6 (nI s1)) j = lb (Int32.toInt64 (zX (Int32.toNatClampNeg (nI s1)))) j := by
    intro j hj
    have e : fX4_prepare__n_second (nI S) xS 6 (nI s1) = Int32.toInt64 (zX s1) &&& fX10_ones (nI S) := by
      simp (decide := true) only [fX4_prepare__n_second, pX4_prepare_88_S1, if_true, if_false]
      rw [hX.scalar h1]
    rw [e, l_and, l_onesE hS.E (by omega), nI_clamp (by omega)]
    simp [hj]
  rw [cnt_nI (by omega) (by omega), itX11_slidesOne_59 (b9 := vl) _ _ _ _ _ _ _ _ _ _ _ rfl (by omega) (vl - st) st z (by omega)]
  refine fam_b (kd := kd) (o := o) (sel := sel) (isM := isM) (hr := hr) (sec := fX4_prepare__n_second (nI S) xS 6 (nI s1)) (off := off) (ps := ps) (md := nI md) (sat := sat) (c := c) (tm := tm) (vt := vt) (x := x) (z := z) (S := S) (d := d) (w := S) (g := g) (l := s2) (lw := S) (r := r) (rw := rw) (st := st) (vl := vl) (e8 := e8) (by rcases hku with ⟨rfl, _⟩ | ⟨rfl, _⟩ <;> decide) (by rcases hku with ⟨rfl, _⟩ | ⟨rfl, _⟩ <;> rfl) hS h0 hg8 hreg hdg hvl hst (by omega) (fun k => fX11_isActive un z (nI k)) (fun k => pX11_slidesOne_159_S5 (nI vl) (nI s1) (nI s2) (nI S) zX z u1 (nI k)) ?_ ?_ ?_
  · intro i xx hi1 hi2 hI
    exact act_eq hI (by rcases hku with ⟨rfl, _⟩ | ⟨rfl, _⟩ <;> decide) hmu (by omega) (fun q => by have := hm q; omega)
  · intro i pp xx hi1 hi2 hI j hj
    have hiS := mul_in2 hi2 hvl
    rcases hku with ⟨rfl, rfl, hl⟩ | ⟨rfl, rfl, hl⟩
    · unfold cVal fX4_valueAt fX4_movedTo pX4_movedTo_89_S1 pX11_slidesOne_159_S5 pX11_slidesOne_98_S1 pX11_slidesOne_156_S8
      simp (decide := true) only [if_true, if_false]
      by_cases q : i = 0
      · subst q
        rw [if_pos nI_0, if_pos nI_0, if_neg (by decide)]
        exact hsec j hj
      · have q1 : ¬ nI i = 0 := nI_ne0 (by omega) (by omega)
        rw [if_neg q1, if_neg q1, if_pos rfl]
        obtain ⟨k, rfl⟩ : ∃ k, i = k + 1 := ⟨i - 1, by omega⟩
        rw [nI_pred]
        rw [Nat.add_mul, Nat.one_mul] at hiS
        rw [rd h0.1 hI (r := s2) (k := k) hS (by omega) (by
          rcases hl with q | q
          · right; rw [Nat.add_mul, Nat.one_mul]; omega
          · left; omega)]
    · unfold cVal fX4_valueAt fX4_movedTo pX4_movedTo_117_S1 pX11_slidesOne_159_S5 pX11_slidesOne_98_S1 pX11_slidesOne_156_S8
      simp (decide := true) only [if_true, if_false]
      obtain ⟨m, rfl⟩ : ∃ m, vl = m + 1 := ⟨vl - 1, by omega⟩
      rw [nI_pred]
      by_cases q : i = m
      · subst q
        rw [if_pos rfl, if_pos rfl, if_neg (by decide)]
        exact hsec j hj
      · have q1 : ¬ nI i = nI m := fun w => q ((nI_eq (by omega) (by omega)).mp w)
        have hkS := mul_in2 (show i + 1 < m + 1 by omega) hvl
        rw [Nat.add_mul, Nat.one_mul] at hkS
        rw [if_neg q1, if_neg q1, if_pos rfl, show (1 : Int32) = nI 1 by decide, nI_add]
        rw [rd h0.1 hI (r := s2) (k := i + 1) hS (by rw [Nat.add_mul, Nat.one_mul]; omega) (by
          rw [Nat.add_mul, Nat.one_mul]
          rcases hl with q | q | q
          · right; omega
          · right; omega
          · left; omega)]
  · intro i sc xx _ _ _
    unfold cValS fX4_valueAt__r_saturated
    rcases hku with ⟨rfl, rfl, hl⟩ | ⟨rfl, rfl, hl⟩ <;> simp (decide := true) only [if_true, if_false]
theorem gathers_loop {S g d s1 s2 vl st md e8 M B g1 : Nat} (hS : okB S) (hB : okB B) {x z xS zX : Nat → Int32} (h0 : Sy x z) (hX : SX xS zX) (h1 : s1 < 32) (hg8 : g ≤ 8) (hreg : fX11_registers (nI e8) = nI g) (hdg : d + g ≤ 32) (hsg : s2 + g ≤ 32) (hl : d + g ≤ s2 ∨ s2 + g ≤ d) (hM : M * S ≤ g * 128) (hvM : vl ≤ M) (hv128 : vl ≤ 128) (hst : st < vl) {isM un hr F sel kd : Int32} {sec : Int64} {vt : Int32} {c : Int64} (hk : kd = 23 ∨ kd = 24) (hF : F = 0 ∨ F = 3 ∨ F = 4) (hhr : hr = fX3_takesVector F) (hV : F = 0 → s1 + g1 ≤ 32 ∧ vl * B ≤ g1 * 128 ∧ (d + g ≤ s1 ∨ s1 + g1 ≤ d)) (hvt : fX11_vlmax vt = nI M) (hmu : isM = 0 ↔ ¬ un = 0) (hm : ¬ isM = 0 → ¬ d = 0) {o : Int32} (ps sat : Int32) :
    Sy (cRun kd o sel (nI vl) isM hr sec (fX4_prepare__n_offset xS F (nI s1)) ps (nI st) (nI md) sat c (nI M) (fX11_isTailOpen vt) (fX11_isMaskOpen vt) x S d S g s2 S s1 B) (fX11_tail__zV c vt ((LX11_gathers_109 c (nI vl) vt (nI d) (nI s1) (nI s2) F (nI S) un zX z (nI B) (cnt (nI st) (nI vl)) (nI st, z)).2) (nI d) (nI S) (nI e8) (nI vl)) ∧
    cSat kd o sel (nI vl) isM hr sec (fX4_prepare__n_offset xS F (nI s1)) ps (nI st) (nI md) sat c (nI M) (fX11_isMaskOpen vt) x S d S s2 S s1 B = sat := by
  have hle := hS.le
  have hBle := hB.le
  have hvl : vl * S ≤ g * 128 := Nat.le_trans (Nat.mul_le_mul_right _ hvM) hM
  have hM2 : M ≤ 1024 := by
    have : M * 8 ≤ M * S := Nat.mul_le_mul_left _ hle.1
    omega
  rw [cnt_nI (by omega) (by omega), itX11_gathers_109 (b9 := vl) _ _ _ _ _ _ _ _ _ _ _ _ rfl (by omega) (vl - st) st z (by omega)]
  refine fam_b (kd := kd) (o := o) (sel := sel) (isM := isM) (hr := hr) (sec := sec) (off := fX4_prepare__n_offset xS F (nI s1)) (ps := ps) (md := nI md) (sat := sat) (c := c) (tm := nI M) (vt := vt) (x := x) (z := z) (S := S) (d := d) (w := S) (g := g) (l := s2) (lw := S) (r := s1) (rw := B) (st := st) (vl := vl) (e8 := e8) (by rcases hk with rfl | rfl <;> decide) (by rcases hk with rfl | rfl <;> rfl) hS h0 hg8 hreg hdg hvl hst (by omega) (fun k => fX11_isActive un z (nI k)) (fun k => pX11_gathers_229_S5 vt (nI s1) (nI s2) F (nI S) zX z (nI B) (nI k)) ?_ ?_ ?_
  · intro i xx hi1 hi2 hI
    exact act_eq hI (by rcases hk with rfl | rfl <;> decide) hmu (by omega) (fun q => by have := hm q; omega)
  · intro i pp xx hi1 hi2 hI j hj
    have hiS := mul_in2 hi2 hvl
    have hk2 : ∃ b, b < 2 ^ 32 ∧ pX4_movedTo_141_S2 hr (fX4_prepare__n_offset xS F (nI s1)) xx (nI s1) (nI B) (fX10_ones (nI B)) (nI i) = lN b ∧ pX11_gathers_190_S1 (nI s1) F zX z (nI B) (nI i) = lN b := by
      by_cases q : F = 0
      · obtain ⟨v1, v2, v3⟩ := hV q
        have hiB := mul_in2 hi2 v2
        obtain ⟨b, hb, eb⟩ := low_lN hBle.2 (low_get z h0.1 hB (r := s1) (i := i) (by omega) (by omega))
        refine ⟨b, Nat.lt_of_lt_of_le hb (Nat.pow_le_pow_right (by decide) hBle.2), ?_, ?_⟩
        · unfold pX4_movedTo_141_S2
          rw [hhr, q, if_neg (by decide), ← eb]
          exact rd h0.1 hI (r := s1) (k := i) hB (by omega) (by
            rcases v3 with q | q
            · right; omega
            · left; omega)
        · unfold pX11_gathers_190_S1
          rw [q, if_neg (by decide), eb]
      · have hF2 : F = 3 ∨ F = 4 := by rcases hF with h | h | h <;> first | exact absurd h q | exact Or.inl h | exact Or.inr h
        obtain ⟨b, hb, e1, e2⟩ := off_eq hX h1 hF2
        refine ⟨b, hb, ?_, ?_⟩
        · unfold pX4_movedTo_141_S2
          rw [if_pos (by rw [hhr]; rcases hF2 with rfl | rfl <;> decide), e1]
        · unfold pX11_gathers_190_S1
          rw [if_pos (by rcases hF2 with rfl | rfl <;> decide)]
          exact e2
    obtain ⟨b, hb, e1, e2⟩ := hk2
    have e3 : cVal kd o sel (nI vl) isM hr sec (fX4_prepare__n_offset xS F (nI s1)) pp (nI md) (nI M) xx S d S s2 S s1 B i = fX4_leftAt (nI M) xx (nI s2) (nI S) (fX10_ones (nI S)) (pX4_movedTo_141_S2 hr (fX4_prepare__n_offset xS F (nI s1)) xx (nI s1) (nI B) (fX10_ones (nI B)) (nI i)) := by
      unfold cVal fX4_valueAt fX4_movedTo
      rcases hk with rfl | rfl <;> simp (decide := true) only [if_true, if_false]
    rw [e3, e1]
    unfold pX11_gathers_229_S5
    rw [e2, hvt, left_at h0.1 hI (M := M) (k := b) hS (by omega) (by omega) (fun hk => by
      have hkS := mul_in2 hk hM
      refine ⟨by omega, ?_⟩
      rcases hl with q | q
      · right; omega
      · left; omega)]
  · intro i sc xx _ _ _
    unfold cValS fX4_valueAt__r_saturated
    rcases hk with rfl | rfl <;> simp (decide := true) only [if_true, if_false]
