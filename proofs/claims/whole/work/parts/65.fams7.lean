/-! ===== families: first bits, iota, compress, whole moves ===== -/
theorem firsts_loop {d s1 s2 vl md S r rw : Nat} {x z : Nat → Int32} (h0 : Sy x z) (hd : d < 32) (h2 : s2 < 32) (hds : ¬ d = s2) (hs1 : s1 = 1 ∨ s1 = 2 ∨ s1 = 3) (hv128 : vl ≤ 128) (hst : 0 < vl) {isM un hr o : Int32} {sec off : Int64} {tm tt vt : Int32} {c : Int64} (hmu : isM = 0 ↔ ¬ un = 0) (hm : ¬ isM = 0 → ¬ d = 0) (sat : Int32) :
    Sy (cRun 14 o (nI s1) (nI vl) isM hr sec off 0 (nI 0) (nI md) sat c tm tt (fX11_isMaskOpen vt) x S d 1 1 s2 1 r rw) (fX11_maskTail__zV c (nI vl) ((LX11_firsts_44 c (nI vl) vt (nI d) (nI s1) (nI s2) un z (cnt 0 (nI vl)) (0, 0, z)).2.2) (nI d)) ∧
    cSat 14 o (nI s1) (nI vl) isM hr sec off 0 (nI 0) (nI md) sat c tm (fX11_isMaskOpen vt) x S d 1 s2 1 r rw = sat := by
  obtain ⟨e1, e2⟩ := cRun_go (kd := 14) (o := o) (sel := nI s1) (isM := isM) (hr := hr) (sec := sec) (off := off) (ps := 0) (md := nI md) (sat := sat) (c := c) (tm := tm) (tt := tt) (mo := fX11_isMaskOpen vt) (x := x) (S := S) (d := d) (w := 1) (g := 1) (l := s2) (lw := 1) (r := r) (rw := rw) (st := 0) (vl := vl) (by decide) (by rfl) hst (by omega)
  rw [e1, e2, ← nI_0, cnt_nI (by omega) (by omega), itX11_firsts_44 (b9 := vl) _ _ _ _ _ _ _ _ rfl (by omega) (vl - 0) 0 (nI 0) z (by omega)]
  have key := itr_rel (fun i s t => Rl (d * 128) 1 0 z i s.2.2 t.2 ∧ s.2.1 = sat ∧ ∃ p, p ≤ i ∧ s.1 = nI p ∧ (t.1 = 0 ↔ p = 0)) (cBody 14 o (nI s1) (nI vl) isM hr sec off (nI md) c tm (fX11_isMaskOpen vt) S d 1 s2 1 r rw) (fun k s => ((pX11_firsts_169_L1 (nI s2) un z (nI k) s.1), (pX11_firsts_169_zV c vt (nI d) (nI s1) (nI s2) un z (nI k) s.1 s.2))) (vl - 0) 0 (nI 0, sat, x) (nI 0, z) (by
    intro i s t hi1 hi2 ⟨hR, hs, p, hp, hp2, hf⟩
    obtain ⟨pp, sc, xx⟩ := s
    obtain ⟨ff, zz⟩ := t
    dsimp only at hR hs hp2 hf ⊢
    subst hs; subst hp2
    have ha := act_eq hR.2 (kd := 14) (isM := isM) (un := un) (by decide) hmu (by omega) (fun q => by have := hm q; omega)
    have e3 := rdm hR.2 (r := s2) (k := i) (by omega) (by omega)
    have e4 := bitz z (r := s2) (i := i) (by omega) (by omega)
    unfold pX4_runElements_97_xV pX4_runElements_97_r_saturated pX4_runElements_97_n_passed pX11_firsts_169_zV pX11_firsts_169_L1
    rw [ha]
    by_cases q : fX11_isActive un z (nI i) = 0
    · simp only [if_pos q]
      exact ⟨hR.mskBit hi1 (by omega) c _, trivial, p, by omega, rfl, hf⟩
    · simp only [if_neg q]
      have hpz : (fX4_bitsBefore (nI p) = 0) ↔ p = 0 := by
        unfold fX4_bitsBefore
        rw [nI_l (by omega), lzero, pk_lEQ (by omega) (by omega)]
      refine ⟨hR.putBit hi1 (by omega) ?_, ?_, ?_⟩
      · simp (decide := true) only [fX4_valueAt, if_true, if_false]
        unfold pX4_valueAt_309_S2
        rw [e3]
        unfold pX11_firsts_152_S4
        rw [e4]
        unfold fX4_aroundFirstBit pX4_aroundFirstBit_61_S1 pX4_aroundFirstBit_75_S1 pX4_aroundFirstBit_85_S1 pX4_aroundFirstBit_15_S1
        simp only [hpz, hf]
        by_cases hp0 : p = 0 <;> rcases hs1 with rfl | rfl | rfl <;> cases zb z (s2 * 128 + i) <;> simp only [hp0] <;> decide
      · simp (decide := true) only [fX4_valueAt__r_saturated, if_true, if_false]
      · simp (decide := true) only [fX4_valueAt__n_passed, if_true, if_false]
        unfold fX4_aroundFirstBit__n_passed fX4_bitsBefore__n_passed pX4_bitsBefore_19_n_passed pX4_valueAt_309_S2 pX11_firsts_168_S1
        rw [e3, e4]
        cases zb z (s2 * 128 + i)
        · refine ⟨p, by omega, if_pos (by decide), ?_⟩
          by_cases hf0 : ff = 0
          · rw [if_pos hf0]; simp (decide := true) [hf.mp hf0]
          · rw [if_neg hf0]
            have : ¬ p = 0 := fun w => hf0 (hf.mpr w)
            simp (decide := true) [this]
        · refine ⟨p + 1, by omega, ?_, ?_⟩
          · rw [if_neg (by decide), show (1 : Int32) = nI 1 by decide, nI_add]
          · have : ¬ p + 1 = 0 := by omega
            by_cases hf0 : ff = 0
            · rw [if_pos hf0]; simp (decide := true) [this]
            · rw [if_neg hf0]; simp (decide := true) [this]) ⟨⟨h0, Iv.start h0⟩, rfl, 0, Nat.le_refl 0, rfl, ⟨fun _ => rfl, fun _ => nI_0⟩⟩
  exact ⟨key.1.1.maskTail (r := d) (k := vl) hd (by omega) c tt p127m, key.2.1⟩
theorem counts_loop {S g d s2 vl md e8 r rw : Nat} (hS : okB S) {x z : Nat → Int32} (h0 : Sy x z) (hg8 : g ≤ 8) (hreg : fX11_registers (nI e8) = nI g) (hdg : d + g ≤ 32) (h2 : s2 < 32) (hl : d + g ≤ s2 ∨ s2 + 1 ≤ d) (hvl : vl * S ≤ g * 128) (hv128 : vl ≤ 128) (hst : 0 < vl) {isM un hr o sel : Int32} {sec off : Int64} {tm vt : Int32} {c : Int64} (hmu : isM = 0 ↔ ¬ un = 0) (hm : ¬ isM = 0 → ¬ d = 0) (sat : Int32) :
    Sy (cRun 15 o sel (nI vl) isM hr sec off 0 (nI 0) (nI md) sat c tm (fX11_isTailOpen vt) (fX11_isMaskOpen vt) x S d S g s2 1 r rw) (fX11_tail__zV c vt ((LX11_counts_61 c (nI vl) vt (nI d) (nI s2) (nI S) un z (cnt 0 (nI vl)) (0, 0, z)).2.2) (nI d) (nI S) (nI e8) (nI vl)) ∧
    cSat 15 o sel (nI vl) isM hr sec off 0 (nI 0) (nI md) sat c tm (fX11_isMaskOpen vt) x S d S s2 1 r rw = sat := by
  have hle := hS.le
  obtain ⟨e1, e2⟩ := cRun_go (kd := 15) (o := o) (sel := sel) (isM := isM) (hr := hr) (sec := sec) (off := off) (ps := 0) (md := nI md) (sat := sat) (c := c) (tm := tm) (tt := fX11_isTailOpen vt) (mo := fX11_isMaskOpen vt) (x := x) (S := S) (d := d) (w := S) (g := g) (l := s2) (lw := 1) (r := r) (rw := rw) (st := 0) (vl := vl) (by decide) (by rfl) hst (by omega)
  rw [e1, e2, ← nI_0, cnt_nI (by omega) (by omega), itX11_counts_61 (b9 := vl) _ _ _ _ _ _ _ _ rfl (by omega) (vl - 0) 0 (nI 0) z (by omega), p127 hS]
  have key := itr_rel (fun i s t => Rl (d * 128) S 0 z i s.2.2 t.2 ∧ s.2.1 = sat ∧ s.1 = t.1) (cBody 15 o sel (nI vl) isM hr sec off (nI md) c tm (fX11_isMaskOpen vt) S d S s2 1 r rw) (fun k s => ((pX11_counts_128_L1 (nI s2) un z (nI k) s.1), (pX11_counts_128_zV c vt (nI d) (nI S) un z (nI k) s.1 s.2))) (vl - 0) 0 (nI 0, sat, x) (nI 0, z) (by
    intro i s t hi1 hi2 ⟨hR, hs, hp⟩
    obtain ⟨pp, sc, xx⟩ := s
    obtain ⟨ff, zz⟩ := t
    dsimp only at hR hs hp ⊢
    subst hs; subst hp
    have hiS : i * S + S ≤ g * 128 := mul_in (show i < vl by omega) hvl
    have ha := act_eq hR.2 (kd := 15) (isM := isM) (un := un) (by decide) hmu (by omega) (fun q => by have := hm q; omega)
    have e3 := rdm hR.2 (r := s2) (k := i) (by omega) (by omega)
    have e4 := bitz z (r := s2) (i := i) (by omega) (by omega)
    unfold pX4_runElements_97_xV pX4_runElements_97_r_saturated pX4_runElements_97_n_passed pX11_counts_128_zV pX11_counts_128_L1
    rw [ha]
    by_cases q : fX11_isActive un z (nI i) = 0
    · simp only [if_pos q]
      exact ⟨hR.msk hS hi1 (by omega) c vt, trivial, trivial⟩
    · simp only [if_neg q]
      refine ⟨hR.put hS hi1 (by omega) (fun j _ => ?_), ?_, ?_⟩
      · simp (decide := true) only [fX4_valueAt, fX4_bitsBefore, if_true, if_false]
      · simp (decide := true) only [fX4_valueAt__r_saturated, if_true, if_false]
      · simp (decide := true) only [fX4_valueAt__n_passed, if_true, if_false]
        unfold fX4_bitsBefore__n_passed pX4_bitsBefore_19_n_passed pX4_valueAt_332_S2 pX11_counts_126_S2
        rw [e3, e4]
        cases zb z (s2 * 128 + i)
        · simp (decide := true) only [if_true, if_false, Int32.add_zero]
        · simp (decide := true) only [if_true, if_false]) ⟨⟨h0, Iv.start h0⟩, rfl, rfl⟩
  exact ⟨key.1.1.tail (r := d) (e := S) (g := g) (e8 := e8) (k := vl) hS hg8 hreg (by omega) (by omega) c rfl, key.2.1⟩
theorem compresses_loop {S g d s1 s2 vl md e8 : Nat} (hS : okB S) {x z : Nat → Int32} (h0 : Sy x z) (hg8 : g ≤ 8) (hreg : fX11_registers (nI e8) = nI g) (hdg : d + g ≤ 32) (hsg : s2 + g ≤ 32) (h1 : s1 < 32) (hl : d + g ≤ s2 ∨ s2 + g ≤ d) (hl1 : d + g ≤ s1 ∨ s1 + 1 ≤ d) (hvl : vl * S ≤ g * 128) (hv128 : vl ≤ 128) (hst : 0 < vl) {isM hr o sel : Int32} {sec off : Int64} {tm vt mo : Int32} {c : Int64} (ps sat : Int32) :
    Sy (cRun 25 o sel (nI vl) isM hr sec off ps (nI 0) (nI md) sat c tm (fX11_isTailOpen vt) mo x S d S g s2 S s1 1) (fX11_tail__zV c vt ((LX11_compresses_87 (nI vl) (nI d) (nI s1) (nI s2) (nI S) z (cnt 0 (nI vl)) (0, 0, z)).2.2) (nI d) (nI S) (nI e8) ((LX11_compresses_87 (nI vl) (nI d) (nI s1) (nI s2) (nI S) z (cnt 0 (nI vl)) (0, 0, z)).2.1)) ∧
    cSat 25 o sel (nI vl) isM hr sec off ps (nI 0) (nI md) sat c tm mo x S d S s2 S s1 1 = sat := by
  have hle := hS.le
  have h : nI 0 < nI vl := nI_lt hst (by omega)
  unfold cRun cSat fX4_runElements__xV fX4_runElements__r_saturated
  rw [if_pos h, if_pos h, if_pos rfl, if_pos rfl]
  unfold fX4_compressed__xV fX4_compressed
  rw [← nI_0, cnt_nI (by omega) (by omega), itX11_compresses_87 (b9 := vl) _ _ _ _ _ _ rfl (by omega) (vl - 0) 0 (nI 0) z (by omega), itX4_compressed_4 (b9 := vl) _ _ _ _ _ _ _ _ _ _ rfl (by omega) (vl - 0) 0 (nI 0) x (by omega)]
  have key := itr_rel (fun i s t => ∃ p, p ≤ i ∧ s.1 = nI p ∧ t.1 = nI p ∧ Rl (d * 128) S 0 z p s.2 t.2) (fun k s => ((pX4_compressed_44_L1 (nI s1) (nI 1) (fX10_ones (nI 1)) (nI k) s.1 s.2), (pX4_compressed_44_xV (nI d) (nI S) (fX10_ones (nI S)) (nI s2) (nI S) (fX10_ones (nI S)) (nI s1) (nI 1) (fX10_ones (nI 1)) (nI k) s.1 s.2))) (fun k s => ((pX11_compresses_139_L1 (nI s1) z (nI k) s.1), (pX11_compresses_139_zV (nI d) (nI s1) (nI s2) (nI S) z (nI k) s.1 s.2))) (vl - 0) 0 (nI 0, x) (nI 0, z) (by
    intro i s t hi1 hi2 ⟨p, hp, hs, ht, hR⟩
    obtain ⟨pp, xx⟩ := s
    obtain ⟨ff, zz⟩ := t
    dsimp only at hR hs ht ⊢
    subst hs; subst ht
    have hiS : i * S + S ≤ g * 128 := mul_in (show i < vl by omega) hvl
    have hpS : p * S ≤ i * S := Nat.mul_le_mul_right _ hp
    have e3 := rdm hR.2 (r := s1) (k := i) (by omega) (by omega)
    have e4 := bitz z (r := s1) (i := i) (by omega) (by omega)
    have e5 := rd h0.1 hR.2 (r := s2) (k := i) hS (by omega) (by
      rcases hl with q | q
      · right; omega
      · left; omega)
    unfold pX4_compressed_44_L1 pX4_compressed_44_xV pX11_compresses_139_L1 pX11_compresses_139_zV
    rw [e3, e4, e5]
    cases zb z (s1 * 128 + i)
    · simp (decide := true) only [if_true, if_false]
      exact ⟨p, by omega, rfl, rfl, hR⟩
    · simp (decide := true) only [if_true, if_false]
      exact ⟨p + 1, by omega, by rw [show (1 : Int32) = nI 1 by decide, nI_add], by rw [show (1 : Int32) = nI 1 by decide, nI_add], hR.put hS (Nat.zero_le _) (by omega) (fun _ _ => rfl)⟩) ⟨0, Nat.le_refl 0, rfl, rfl, h0, Iv.start h0⟩
  obtain ⟨p, hp, k1, k2, k3⟩ := key
  dsimp only
  rw [k1, k2]
  exact ⟨k3.1.tail (r := d) (e := S) (g := g) (e8 := e8) (k := p) hS hg8 hreg (by omega) (by omega) c rfl, rfl⟩
/-- nothing is left of a tail behind the group's end -/
theorem tail_end {r e g : Nat} (he : okB e) (hg : g ≤ 8) (c : Int64) (tl : Int32) (x : Nat → Int32) : fX2_leaveTail__xV (nI r) (nI e) (nI g) (fX10_ones (nI e)) c x tl (nI (g * 128 / e)) 0 = x := by
  have hle := he.le
  unfold fX2_leaveTail__xV rX2_leaveTail_18__xV
  have hb : g * 128 / e ≤ g * 128 := Nat.div_le_self _ _
  rw [if_pos rfl, cap_nI (e := e) (g := g) (by omega) (by omega) hg, cnt_nI (by omega) (by omega), Nat.sub_self]
  split
  · rfl
  · rfl
theorem wholes_fam {S g d s2 vl st md : Nat} (hS : okB S) {x z : Nat → Int32} (h0 : Sy x z) (hg8 : g ≤ 8) (hg1 : 1 ≤ g) (hdg : d + g ≤ 32) (hsg : s2 + g ≤ 32) (hl : gp s2 d g) (hvl : vl = g * 128 / S) (hst : st < 128) {isM hr o sel : Int32} {sec off : Int64} {tm vt : Int32} {c : Int64} (hun : isM = 0) {r rw : Nat} (ps sat : Int32) :
    Sy (cRun 26 o sel (nI vl) isM hr sec off ps (nI st) (nI md) sat c tm (fX11_isTailOpen vt) (fX11_isMaskOpen vt) x S d S g s2 S r rw) ((LX11_wholes_60 (nI d) (nI (g - 1)) (nI s2) (nI S) z (cnt (nI st) ((nI (g - 1) + 1) * 128 / nI S)) (nI st, z)).2) ∧
    cSat 26 o sel (nI vl) isM hr sec off ps (nI st) (nI md) sat c tm (fX11_isMaskOpen vt) x S d S s2 S r rw = sat := by
  have hle := hS.le
  have hb : g * 128 / S ≤ g * 128 := Nat.div_le_self _ _
  have hvS : vl * S ≤ g * 128 := by rw [hvl]; exact Nat.div_mul_le_self _ _
  have hcap : (nI (g - 1) + 1) * 128 / nI S = nI vl := by
    rw [show (1 : Int32) = nI 1 by decide, nI_add, show g - 1 + 1 = g by omega, nI128, pk_mul, pk_div (by omega) (by omega) (by omega), hvl]
  rw [hcap, cnt_nI (by omega) (by omega)]
  rcases Nat.lt_or_ge st vl with q | q
  · obtain ⟨e1, e2⟩ := cRun_go (kd := 26) (o := o) (sel := sel) (isM := isM) (hr := hr) (sec := sec) (off := off) (ps := ps) (md := nI md) (sat := sat) (c := c) (tm := tm) (tt := fX11_isTailOpen vt) (mo := fX11_isMaskOpen vt) (x := x) (S := S) (d := d) (w := S) (g := g) (l := s2) (lw := S) (r := r) (rw := rw) (st := st) (vl := vl) (by decide) (by rfl) q (by omega)
    rw [e1, e2, p127 hS, hvl, tail_end hS hg8, ← hvl, itX11_wholes_60 (b9 := vl) _ _ _ _ _ hcap (by omega) (vl - st) st z (by omega)]
    have key := itr_rel (fun i s t => Rl (d * 128) S st z i s.2.2 t ∧ s.2.1 = sat) (cBody 26 o sel (nI vl) isM hr sec off (nI md) c tm (fX11_isMaskOpen vt) S d S s2 S r rw) (fun k s => fX11_put__zV s (nI d) (nI S) (nI k) (fX11_get z (nI s2) (nI S) (nI k))) (vl - st) st (ps, sat, x) z (by
      intro i s t hi1 hi2 ⟨hR, hs⟩
      obtain ⟨pp, sc, xx⟩ := s
      dsimp only at hR hs ⊢
      subst hs
      have hiS : i * S + S ≤ g * 128 := mul_in (show i < vl by omega) hvS
      unfold pX4_runElements_97_xV pX4_runElements_97_r_saturated
      rw [act1 (kd := 26) (i := i) (Or.inl hun)]
      have e5 := rd h0.1 hR.2 (r := s2) (k := i) hS (by omega) (hl.pos hiS)
      refine ⟨?_, ?_⟩
      · rw [if_neg (by decide)]
        refine hR.put hS hi1 (by omega) (fun j _ => ?_)
        simp (decide := true) only [fX4_valueAt, fX4_movedTo, if_true, if_false]
        rw [e5]
      · rw [if_neg (by decide)]
        simp (decide := true) only [fX4_valueAt__r_saturated, if_true, if_false]) ⟨⟨h0, Iv.start h0⟩, rfl⟩
    exact ⟨key.1.1, key.2⟩
  · obtain ⟨e1, e2⟩ := cRun_stop (kd := 26) (o := o) (sel := sel) (isM := isM) (hr := hr) (sec := sec) (off := off) (ps := ps) (md := nI md) (sat := sat) (c := c) (tm := tm) (tt := fX11_isTailOpen vt) (mo := fX11_isMaskOpen vt) (x := x) (S := S) (d := d) (w := S) (g := g) (l := s2) (lw := S) (r := r) (rw := rw) (st := st) (vl := vl) (by omega) q
    rw [e1, e2, show vl - st = 0 by omega]
    exact ⟨h0, rfl⟩
