/-! ===== families: carries, widens, multiplies, extends, narrows ===== -/
/-- the bits of a source's elements lie outside what was written before they are read -/
def Pos (s e d w st vl : Nat) : Prop := ∀ i, st ≤ i → i < vl → s * 128 + i * e + e ≤ 4096 ∧ (s * 128 + i * e + e ≤ d * 128 + st * w ∨ d * 128 + i * w ≤ s * 128 + i * e)
theorem low_lN {S : Nat} (hS : S ≤ 32) {a : Int64} (h : low S a) : ∃ n, n < 2 ^ S ∧ a = lN n := by
  obtain ⟨n, hn, e⟩ := lN_of a
  refine ⟨n, ?_, e⟩
  refine Nat.lt_pow_two_of_testBit n (fun j hj => ?_)
  rcases Nat.lt_or_ge j 64 with q | q
  · rw [← lb_lN n q, ← e]; exact h j hj
  · exact Nat.testBit_lt_two_pow (Nat.lt_of_lt_of_le hn (Nat.pow_le_pow_right (by decide) q))
theorem carry_mk {D w st i : Nat} {x z : Nat → Int32} (hI : Iv D w st z i x) (hi : i < 128) (hd : ¬ (D + st * w ≤ i ∧ i < D + i * w)) {un : Int32} (hu : un = 0) : fX2_element (nI 0) (nI 1) (fX10_ones (nI 1)) x (nI i) = pX11_carries_109_S1 un z (nI i) := by
  rw [mk_bit hI hi hd]
  unfold pX11_carries_109_S1
  rw [if_pos hu]
theorem adc_loop {S g d s1 s2 vl st md e8 : Nat} (hS : okB S) {x z xS zX : Nat → Int32} (h0 : Sy x z) (hX : SX xS zX) (h1 : s1 < 32) (hg8 : g ≤ 8) (hreg : fX11_registers (nI e8) = nI g) (hdg : d + g ≤ 32) (hvl : vl * S ≤ g * 128) (hv128 : vl ≤ 128) (hst : st < vl) {isM un hr F sel : Int32} {off : Int64} {tm vt : Int32} {c : Int64} (hF : okF F) (hhr : hr = fX3_takesVector F) (hL : Pos s2 S d S st vl) (hV : ¬ hr = 0 → Pos s1 S d S st vl) (hun : un = 0) (hd0 : ¬ d = 0) {o u1 : Int32} (hop : (o = 16 ∧ u1 = 0) ∨ (o = 18 ∧ u1 = 1)) (ps sat : Int32) :
    Sy (cRun 3 o sel (nI vl) isM hr (fX4_prepare__n_second (nI S) xS F (nI s1)) off ps (nI st) (nI md) sat c tm (fX11_isTailOpen vt) (fX11_isMaskOpen vt) x S d S g s2 S s1 S) (fX11_tail__zV c vt ((LX11_carries_80 (nI vl) (nI d) (nI s1) (nI s2) F (nI S) un zX z u1 0 (cnt (nI st) (nI vl)) (nI st, z)).2) (nI d) (nI S) (nI e8) (nI vl)) ∧
    cSat 3 o sel (nI vl) isM hr (fX4_prepare__n_second (nI S) xS F (nI s1)) off ps (nI st) (nI md) sat c tm (fX11_isMaskOpen vt) x S d S s2 S s1 S = sat := by
  rw [cnt_nI (by omega) (by omega), itX11_carries_80 (b9 := vl) _ _ _ _ _ _ _ _ _ _ _ rfl (by omega) (vl - st) st z (by omega)]
  refine fam_b1 (kd := 3) (o := o) (sel := sel) (isM := isM) (hr := hr) (sec := fX4_prepare__n_second (nI S) xS F (nI s1)) (off := off) (ps := ps) (md := nI md) (sat := sat) (c := c) (tm := tm) (vt := vt) (x := x) (z := z) (S := S) (d := d) (w := S) (g := g) (l := s2) (lw := S) (r := s1) (rw := S) (st := st) (vl := vl) (e8 := e8) (by decide) (by rfl) hS h0 hg8 hreg hdg hvl hst (by omega) (fun k => pX11_carries_160_S1 (nI s1) (nI s2) F (nI S) un zX z u1 (nI k)) (fun i xx _ _ => act1 (Or.inr (Or.inr (Or.inl rfl)))) ?_ ?_
  · intro i pp xx hi1 hi2 hI j hj
    have e1 := rd h0.1 hI (r := s2) (k := i) hS (hL i hi1 hi2).1 (hL i hi1 hi2).2
    have e2 := right_eq h0.1 hI hX hS h1 hF hhr (fun w => hV w i hi1 hi2)
    have e3 := carry_mk hI (by omega) (by omega) hun
    unfold cVal fX4_valueAt
    rw [if_neg (by decide), if_neg (by decide), if_pos rfl, e1, e2, e3]
    unfold fX0_withCarry pX0_withCarry_29_S1 pX11_carries_160_S1
    rcases hop with ⟨rfl, rfl⟩ | ⟨rfl, rfl⟩ <;> simp (decide := true) only [if_true, if_false]
  · intro i sc xx _ _ _
    unfold cValS fX4_valueAt__r_saturated
    simp (decide := true) only [if_true, if_false]
theorem carry_plus {S : Nat} (hS : okB S) {a b k : Int64} (ha : low S a) (hb : low S b) (hk : k = 0 ∨ k = 1) : lb ((lsru ((a + b) + k) (nI S)) &&& (1 : Int64)) 0 = decide (¬ (if ((a + b) + k) ≤ fX11_ones (nI S) then (0 : Int32) else (1 : Int32)) = 0) := by
  have hle := hS.le
  obtain ⟨A, hA, rfl⟩ := low_lN hle.2 ha
  obtain ⟨B, hB, rfl⟩ := low_lN hle.2 hb
  obtain ⟨C, hC, rfl⟩ : ∃ C, C ≤ 1 ∧ k = lN C := by rcases hk with h | h <;> subst h; exact ⟨0, by decide, lzero⟩; exact ⟨1, by decide, lone⟩
  have hp : 2 ^ S ≤ 2 ^ 32 := Nat.pow_le_pow_right (by decide) hle.2
  have ho : fX11_ones (nI S) = lN (2 ^ S - 1) := by rcases hS with rfl | rfl | rfl <;> decide +kernel
  rw [lN_add, lN_add, ho, l_and, lb_1 (by decide), l_ushr S (by omega), lb_lN _ (by omega), Nat.add_zero, Nat.testBit_eq_decide_div_mod_eq]
  have hc : (lN (A + B + C) ≤ lN (2 ^ S - 1)) ↔ (A + B + C ≤ 2 ^ S - 1) := pk_lLE (by omega) (by omega)
  have hq : (A + B + C) / 2 ^ S % 2 = 1 ↔ ¬ A + B + C ≤ 2 ^ S - 1 := by
    have h1 : (A + B + C) / 2 ^ S < 2 := (Nat.div_lt_iff_lt_mul (by omega)).mpr (by omega)
    constructor
    · intro h h2
      rw [Nat.div_eq_of_lt (by omega)] at h; omega
    · intro h
      have : 1 ≤ (A + B + C) / 2 ^ S := (Nat.le_div_iff_mul_le (by omega)).mpr (by omega)
      omega
  by_cases q : A + B + C ≤ 2 ^ S - 1
  · rw [if_pos (hc.mpr q)]; simp [hq, q]
  · rw [if_neg (fun w => q (hc.mp w))]; simp [hq, q]
theorem carry_minus {S : Nat} (hS : okB S) {a b k : Int64} (ha : low S a) (hb : low S b) (hk : k = 0 ∨ k = 1) : lb ((lsru ((a - b) - k) (nI S)) &&& (1 : Int64)) 0 = decide (¬ (if (0 : Int64) ≤ ((a - b) - k) then (0 : Int32) else (1 : Int32)) = 0) := by
  have hle := hS.le
  obtain ⟨A, hA, rfl⟩ := low_lN hle.2 ha
  obtain ⟨B, hB, rfl⟩ := low_lN hle.2 hb
  obtain ⟨C, hC, rfl⟩ : ∃ C, C ≤ 1 ∧ k = lN C := by rcases hk with h | h <;> subst h; exact ⟨0, by decide, lzero⟩; exact ⟨1, by decide, lone⟩
  have hp : 2 ^ S ≤ 2 ^ 32 := Nat.pow_le_pow_right (by decide) hle.2
  have hpp : 0 < 2 ^ S := Nat.two_pow_pos S
  have e0 : lN A - lN B - lN C = lN A - lN (B + C) := by
    rw [← lN_add]
    apply Int64.toBitVec_inj.mp
    simp only [Int64.toBitVec_sub, Int64.toBitVec_add]
    rw [BitVec.sub_sub]
  rw [e0, l_and, lb_1 (by decide), l_ushr S (by omega), Nat.add_zero]
  by_cases q : B + C ≤ A
  · rw [lN_sub q, lb_lN _ (by omega), Nat.testBit_lt_two_pow (show A - (B + C) < 2 ^ S by omega)]
    have h1 : (0 : Int64) ≤ lN (A - (B + C)) := by rw [lzero]; exact (pk_lLE (by decide) (by omega)).mpr (Nat.zero_le _)
    rw [if_pos h1]; simp
  · obtain ⟨m, hm, hm1, hm2⟩ : ∃ m, B + C = A + m ∧ 1 ≤ m ∧ m ≤ 2 ^ S := ⟨B + C - A, by omega, by omega, by omega⟩
    have e1 : lN A - lN (B + C) = lN (2 ^ 64 - m) := by
      apply Int64.toBitVec_inj.mp
      show BitVec.ofNat 64 A - BitVec.ofNat 64 (B + C) = BitVec.ofNat 64 (2 ^ 64 - m)
      apply BitVec.eq_of_toNat_eq
      rw [BitVec.toNat_sub, BitVec.toNat_ofNat, BitVec.toNat_ofNat, BitVec.toNat_ofNat, hm, Nat.mod_eq_of_lt (show A < 2 ^ 64 by omega), Nat.mod_eq_of_lt (show A + m < 2 ^ 64 by omega), Nat.mod_eq_of_lt (show 2 ^ 64 - m < 2 ^ 64 by omega)]
      rw [show 2 ^ 64 - (A + m) + A = 2 ^ 64 - m by omega]
      exact Nat.mod_eq_of_lt (by omega)
    rw [e1, lb_lN _ (by omega), Nat.testBit_eq_decide_div_mod_eq]
    have h3 : (2 ^ 64 - m) / 2 ^ S % 2 = 1 := by
      rcases hS with rfl | rfl | rfl <;> omega
    have h4 : ¬ (0 : Int64) ≤ lN (2 ^ 64 - m) := by
      rw [Int64.le_iff_toInt_le]
      have h5 : (lN (2 ^ 64 - m)).toInt = -(m : Int) := by
        show (BitVec.ofNat 64 (2 ^ 64 - m)).toInt = _
        rw [BitVec.toInt_eq_toNat_cond, BitVec.toNat_ofNat, Nat.mod_eq_of_lt (show 2 ^ 64 - m < 2 ^ 64 by omega), if_neg (by omega)]
        omega
      rw [h5]
      show ¬ (0 : Int) ≤ _
      omega
    rw [if_neg h4]; simp [h3]
theorem madc_loop {S g d s1 s2 vl st md : Nat} (hS : okB S) {x z xS zX : Nat → Int32} (h0 : Sy x z) (hX : SX xS zX) (h1 : s1 < 32) (h2 : s2 < 32) (hd : d < 32) (hv128 : vl ≤ 128) (hst : st < vl) {isM un hr F sel : Int32} {off : Int64} {tm tt mo : Int32} {c : Int64} (hF : okF F) (hhr : hr = fX3_takesVector F) (hL : Pos s2 S d 1 st vl) (hV : ¬ hr = 0 → Pos s1 S d 1 st vl) (hmu : isM = 0 ↔ ¬ un = 0) {o u1 u2 : Int32} (hu2 : ¬ u2 = 0) (hop : (o = 17 ∧ u1 = 0) ∨ (o = 19 ∧ u1 = 1)) (ps sat : Int32) :
    Sy (cRun 4 o sel (nI vl) isM hr (fX4_prepare__n_second (nI S) xS F (nI s1)) off ps (nI st) (nI md) sat c tm tt mo x S d 1 1 s2 S s1 S) (fX11_maskTail__zV c (nI vl) ((LX11_carries_80 (nI vl) (nI d) (nI s1) (nI s2) F (nI S) un zX z u1 u2 (cnt (nI st) (nI vl)) (nI st, z)).2) (nI d)) ∧
    cSat 4 o sel (nI vl) isM hr (fX4_prepare__n_second (nI S) xS F (nI s1)) off ps (nI st) (nI md) sat c tm mo x S d 1 s2 S s1 S = sat := by
  have hle := hS.le
  rw [cnt_nI (by omega) (by omega), itX11_carries_80 (b9 := vl) _ _ _ _ _ _ _ _ _ _ _ rfl (by omega) (vl - st) st z (by omega)]
  have ef : (fun (k : Nat) (s : Nat → Int32) => pX11_carries_230_zV (nI d) (nI s1) (nI s2) F (nI S) un zX z u1 u2 (nI k) s) = (fun k s => fX11_putBit__zV s (nI d) (nI k) (pX11_carries_209_S4 (nI s1) (nI s2) F (nI S) un zX z u1 (nI k))) := by
    funext k s; unfold pX11_carries_230_zV; rw [if_neg hu2]
  rw [ef]
  refine fam_m1 (kd := 4) (o := o) (sel := sel) (isM := isM) (hr := hr) (sec := fX4_prepare__n_second (nI S) xS F (nI s1)) (off := off) (ps := ps) (md := nI md) (sat := sat) (c := c) (tm := tm) (tt := tt) (mo := mo) (x := x) (z := z) (S := S) (d := d) (l := s2) (lw := S) (r := s1) (rw := S) (st := st) (vl := vl) (by decide) (by rfl) h0 hd hst hv128 (fun k => pX11_carries_209_S4 (nI s1) (nI s2) F (nI S) un zX z u1 (nI k)) (fun i xx _ _ => act1 (Or.inr (Or.inr (Or.inr rfl)))) ?_ ?_
  · intro i pp xx hi1 hi2 hI
    have hB := (hL i hi1 hi2).1
    have h5 : i ≤ i * S := Nat.le_mul_of_pos_right _ (by omega)
    have e1 := rd h0.1 hI (r := s2) (k := i) hS (hL i hi1 hi2).1 (hL i hi1 hi2).2
    have e2 := right_eq h0.1 hI hX hS h1 hF hhr (fun w => hV w i hi1 hi2)
    have e3 : pX4_valueAt_182_S5 isM xx (nI 0) (nI 1) (fX10_ones (nI 1)) (nI i) = pX11_carries_109_S1 un z (nI i) := by
      unfold pX4_valueAt_182_S5
      by_cases q : isM = 0
      · unfold pX11_carries_109_S1; rw [if_pos q, if_neg (hmu.mp q)]
      · rw [if_neg q]; exact carry_mk hI (by omega) (by omega) (Classical.byContradiction (fun w => q (hmu.mpr w)))
    have hk : pX11_carries_109_S1 un z (nI i) = 0 ∨ pX11_carries_109_S1 un z (nI i) = 1 := by
      unfold pX11_carries_109_S1; split
      · split
        · exact Or.inl rfl
        · exact Or.inr rfl
      · exact Or.inl rfl
    have la := low_get z h0.1 hS (r := s2) (i := i) (by omega) (by omega)
    have lbb := low_second z zX h0.1 hS h1 (i := i) (by omega) F
    unfold cVal fX4_valueAt
    rw [if_neg (by decide), if_neg (by decide), if_neg (by decide), if_pos rfl, e1, e2, e3]
    unfold fX0_carryOut fX0_withCarry pX0_withCarry_29_S1 pX11_carries_209_S4 pX11_carries_160_S1
    rcases hop with ⟨rfl, rfl⟩ | ⟨rfl, rfl⟩
    · simp (decide := true) only [if_true, if_false]
      exact carry_plus hS la lbb hk
    · simp (decide := true) only [if_true, if_false]
      exact carry_minus hS la lbb hk
  · intro i sc xx _ _ _
    unfold cValS fX4_valueAt__r_saturated
    simp (decide := true) only [if_true, if_false]
