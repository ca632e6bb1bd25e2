/-! ===== families: merges, carries (in), logic, numbers, extends ===== -/
theorem fam_b1 {kd o sel isM hr : Int32} {sec off : Int64} {ps md sat : Int32} {c : Int64} {tm vt : Int32} {x z : Nat → Int32} {S d w g l lw r rw st vl e8 : Nat} (hk : ¬ kd = 25) (hf : fX4_firstElement kd (nI vl) off (nI st) = nI st) (hw : okB w) (h0 : Sy x z) (hg8 : g ≤ 8) (hreg : fX11_registers (nI e8) = nI g) (hdg : d + g ≤ 32) (hvl : vl * w ≤ g * 128) (hst : st < vl) (hv : vl < 2 ^ 30) (valM : Nat → Int64)
    (hact : ∀ i xx, st ≤ i → i < vl → fX4_isActive kd isM xx (nI 0) (nI 1) (fX10_ones (nI 1)) (nI i) = 1)
    (hval : ∀ i pp xx, st ≤ i → i < vl → Iv (d * 128) w st z i xx → ∀ j, j < w → lb (cVal kd o sel (nI vl) isM hr sec off pp md tm xx S d w l lw r rw i) j = lb (valM i) j)
    (hsat : ∀ i sc xx, st ≤ i → i < vl → Iv (d * 128) w st z i xx → cValS kd o hr sec md sc xx S l lw r rw i = sc) :
    Sy (cRun kd o sel (nI vl) isM hr sec off ps (nI st) md sat c tm (fX11_isTailOpen vt) (fX11_isMaskOpen vt) x S d w g l lw r rw) (fX11_tail__zV c vt (itr (fun k s => fX11_put__zV s (nI d) (nI w) (nI k) (valM k)) (vl - st) st z) (nI d) (nI w) (nI e8) (nI vl)) ∧
    cSat kd o sel (nI vl) isM hr sec off ps (nI st) md sat c tm (fX11_isMaskOpen vt) x S d w l lw r rw = sat := by
  have h := fam_b (kd := kd) (o := o) (sel := sel) (isM := isM) (hr := hr) (sec := sec) (off := off) (ps := ps) (md := md) (sat := sat) (c := c) (tm := tm) (vt := vt) (x := x) (z := z) (S := S) (d := d) (w := w) (g := g) (l := l) (lw := lw) (r := r) (rw := rw) (st := st) (vl := vl) (e8 := e8) hk hf hw h0 hg8 hreg hdg hvl hst hv (fun _ => 1) valM (fun i xx a b _ => hact i xx a b) hval hsat
  have e : (fun (k : Nat) (s : Nat → Int32) => if (fun _ => (1 : Int32)) k = 0 then fX11_masked__zV c vt s (nI d) (nI w) (nI k) else fX11_put__zV s (nI d) (nI w) (nI k) (valM k)) = (fun k s => fX11_put__zV s (nI d) (nI w) (nI k) (valM k)) := by
    funext k s; exact if_neg (show ¬ (1 : Int32) = 0 by decide)
  rw [e] at h
  exact h
theorem fam_m1 {kd o sel isM hr : Int32} {sec off : Int64} {ps md sat : Int32} {c : Int64} {tm tt mo : Int32} {x z : Nat → Int32} {S d l lw r rw st vl : Nat} (hk : ¬ kd = 25) (hf : fX4_firstElement kd (nI vl) off (nI st) = nI st) (h0 : Sy x z) (hd : d < 32) (hst : st < vl) (hv : vl ≤ 128) (bitM : Nat → Int32)
    (hact : ∀ i xx, st ≤ i → i < vl → fX4_isActive kd isM xx (nI 0) (nI 1) (fX10_ones (nI 1)) (nI i) = 1)
    (hval : ∀ i pp xx, st ≤ i → i < vl → Iv (d * 128) 1 st z i xx → lb (cVal kd o sel (nI vl) isM hr sec off pp md tm xx S d 1 l lw r rw i) 0 = decide (¬ bitM i = 0))
    (hsat : ∀ i sc xx, st ≤ i → i < vl → Iv (d * 128) 1 st z i xx → cValS kd o hr sec md sc xx S l lw r rw i = sc) :
    Sy (cRun kd o sel (nI vl) isM hr sec off ps (nI st) md sat c tm tt mo x S d 1 1 l lw r rw) (fX11_maskTail__zV c (nI vl) (itr (fun k s => fX11_putBit__zV s (nI d) (nI k) (bitM k)) (vl - st) st z) (nI d)) ∧
    cSat kd o sel (nI vl) isM hr sec off ps (nI st) md sat c tm mo x S d 1 l lw r rw = sat := by
  have h := fam_m (kd := kd) (o := o) (sel := sel) (isM := isM) (hr := hr) (sec := sec) (off := off) (ps := ps) (md := md) (sat := sat) (c := c) (tm := tm) (tt := tt) (mo := mo) (x := x) (z := z) (S := S) (d := d) (l := l) (lw := lw) (r := r) (rw := rw) (st := st) (vl := vl) hk hf h0 hd hst hv (fun _ => 1) bitM (fun i xx a b _ => hact i xx a b) hval hsat
  have e : (fun (k : Nat) (s : Nat → Int32) => if (fun _ => (1 : Int32)) k = 0 then (if mo = 0 then s else fX11_openBit__zV c s (nI d) (nI k)) else fX11_putBit__zV s (nI d) (nI k) (bitM k)) = (fun k s => fX11_putBit__zV s (nI d) (nI k) (bitM k)) := by
    funext k s; exact if_neg (show ¬ (1 : Int32) = 0 by decide)
  rw [e] at h
  exact h
theorem act1 {kd isM : Int32} {xx : Nat → Int32} {i : Nat} (h : isM = 0 ∨ kd = 5 ∨ kd = 3 ∨ kd = 4) : fX4_isActive kd isM xx (nI 0) (nI 1) (fX10_ones (nI 1)) (nI i) = 1 := by
  unfold fX4_isActive pX4_isActive_49_S1
  by_cases h0 : isM = 0
  · rw [if_pos h0]
  · rw [if_neg h0]
    rcases h with h | h | h | h
    · exact absurd h h0
    · rw [if_pos h]
    · subst h; rw [if_neg (by decide), if_pos rfl]
    · subst h; rw [if_neg (by decide), if_neg (by decide), if_pos rfl]
/-- the mask bit of element i, read live -/
theorem mk_bit {D w st i : Nat} {x zO : Nat → Int32} (h : Iv D w st zO i x) (hi : i < 128) (hd : ¬ (D + st * w ≤ i ∧ i < D + i * w)) : fX2_element (nI 0) (nI 1) (fX10_ones (nI 1)) x (nI i) = if fX11_bit zO (0 : Int32) (nI i) = 0 then 0 else 1 := by
  rw [rdm h (r := 0) (k := i) (by omega) (by omega), show (0 : Int32) = nI 0 from nI_0.symm, bitz zO (r := 0) (i := i) (by decide) (by omega)]
  cases zb zO (0 * 128 + i) <;> decide
theorem merges_loop {S g d s1 s2 vl st md e8 : Nat} (hS : okB S) {x z xS zX : Nat → Int32} (h0 : Sy x z) (hX : SX xS zX) (h1 : s1 < 32) (hg8 : g ≤ 8) (hreg : fX11_registers (nI e8) = nI g) (hdg : d + g ≤ 32) (hvl : vl * S ≤ g * 128) (hv128 : vl ≤ 128) (hst : st < vl) {isM un hr F sel : Int32} {off : Int64} {tm vt : Int32} {c : Int64} (hF : okF F) (hhr : hr = fX3_takesVector F) (hV : ¬ hr = 0 → s1 + g ≤ 32 ∧ gp s1 d g) (hmu : isM = 0 ↔ ¬ un = 0) (hm : ¬ isM = 0 → ¬ d = 0 ∧ s2 + g ≤ 32 ∧ gp s2 d g) {o : Int32} (ps sat : Int32) :
    Sy (cRun 5 o sel (nI vl) isM hr (fX4_prepare__n_second (nI S) xS F (nI s1)) off ps (nI st) (nI md) sat c tm (fX11_isTailOpen vt) (fX11_isMaskOpen vt) x S d S g s2 S s1 S) (fX11_tail__zV c vt ((LX11_merges_68 (nI vl) (nI d) (nI s1) (nI s2) F (nI S) un zX z (cnt (nI st) (nI vl)) (nI st, z)).2) (nI d) (nI S) (nI e8) (nI vl)) ∧
    cSat 5 o sel (nI vl) isM hr (fX4_prepare__n_second (nI S) xS F (nI s1)) off ps (nI st) (nI md) sat c tm (fX11_isMaskOpen vt) x S d S s2 S s1 S = sat := by
  have hle := hS.le
  rw [cnt_nI (by omega) (by omega), itX11_merges_68 (b9 := vl) _ _ _ _ _ _ _ _ _ rfl (by omega) (vl - st) st z (by omega)]
  refine fam_b1 (kd := 5) (o := o) (sel := sel) (isM := isM) (hr := hr) (sec := fX4_prepare__n_second (nI S) xS F (nI s1)) (off := off) (ps := ps) (md := nI md) (sat := sat) (c := c) (tm := tm) (vt := vt) (x := x) (z := z) (S := S) (d := d) (w := S) (g := g) (l := s2) (lw := S) (r := s1) (rw := S) (st := st) (vl := vl) (e8 := e8) (by decide) (by rfl) hS h0 hg8 hreg hdg hvl hst (by omega) (fun k => pX11_merges_127_S5 (nI s1) (nI s2) F (nI S) un zX z (nI k)) (fun i xx _ _ => act1 (Or.inr (Or.inl rfl))) ?_ ?_
  · intro i pp xx hi1 hi2 hI j hj
    have hiS : i * S + S ≤ g * 128 := mul_in hi2 hvl
    have e2 := right_eq h0.1 hI hX hS h1 hF hhr (fun w => ⟨by have := (hV w).1; omega, (hV w).2.pos hiS⟩)
    unfold cVal fX4_valueAt
    rw [if_neg (by decide), if_neg (by decide), if_neg (by decide), if_neg (by decide), if_pos rfl]
    unfold pX4_valueAt_222_S1 pX11_merges_127_S5
    rw [e2]
    by_cases q : isM = 0
    · rw [if_pos q, if_neg (hmu.mp q)]
    · have hu : un = 0 := Classical.byContradiction (fun w => q (hmu.mpr w))
      obtain ⟨m1, m2, m3⟩ := hm q
      have e1 := rd h0.1 hI (r := s2) (k := i) hS (by omega) (m3.pos hiS)
      rw [if_neg q, if_pos hu, mk_bit hI (by omega) (by omega), e1]
      by_cases b : fX11_bit z (0 : Int32) (nI i) = 0
      · simp only [if_pos b]; rw [if_neg (by decide)]
      · simp only [if_neg b]; rw [if_pos (by decide)]
  · intro i sc xx _ _ _
    unfold cValS fX4_valueAt__r_saturated
    rw [if_neg (by decide), if_neg (by decide), if_neg (by decide), if_neg (by decide), if_pos rfl]
theorem numbers_loop {S g d l lw r rw vl st md e8 : Nat} (hS : okB S) {x z : Nat → Int32} (h0 : Sy x z) (hg8 : g ≤ 8) (hreg : fX11_registers (nI e8) = nI g) (hdg : d + g ≤ 32) (hvl : vl * S ≤ g * 128) (hv128 : vl ≤ 128) (hst : st < vl) {isM un hr sel : Int32} {sec off : Int64} {tm vt : Int32} {c : Int64} (hmu : isM = 0 ↔ ¬ un = 0) (hm : ¬ isM = 0 → ¬ d = 0) {o : Int32} (ps sat : Int32) :
    Sy (cRun 16 o sel (nI vl) isM hr sec off ps (nI st) (nI md) sat c tm (fX11_isTailOpen vt) (fX11_isMaskOpen vt) x S d S g l lw r rw) (fX11_tail__zV c vt ((LX11_numbers_49 c (nI vl) vt (nI d) (nI S) un z (cnt (nI st) (nI vl)) (nI st, z)).2) (nI d) (nI S) (nI e8) (nI vl)) ∧
    cSat 16 o sel (nI vl) isM hr sec off ps (nI st) (nI md) sat c tm (fX11_isMaskOpen vt) x S d S l lw r rw = sat := by
  have hle := hS.le
  rw [cnt_nI (by omega) (by omega), itX11_numbers_49 (b9 := vl) _ _ _ _ _ _ _ rfl (by omega) (vl - st) st z (by omega)]
  refine fam_b (kd := 16) (o := o) (sel := sel) (isM := isM) (hr := hr) (sec := sec) (off := off) (ps := ps) (md := nI md) (sat := sat) (c := c) (tm := tm) (vt := vt) (x := x) (z := z) (S := S) (d := d) (w := S) (g := g) (l := l) (lw := lw) (r := r) (rw := rw) (st := st) (vl := vl) (e8 := e8) (by decide) (by rfl) hS h0 hg8 hreg hdg hvl hst (by omega) (fun k => fX11_isActive un z (nI k)) (fun k => Int32.toInt64 (nI k)) ?_ ?_ ?_
  · intro i xx hi1 hi2 hI
    exact act_eq hI (by decide) hmu (by omega) (fun q => by have := hm q; omega)
  · intro i pp xx hi1 hi2 hI j hj
    unfold cVal fX4_valueAt
    simp (decide := true) only [if_true, if_false]
  · intro i sc xx _ _ _
    unfold cValS fX4_valueAt__r_saturated
    simp (decide := true) only [if_true, if_false]
def lgT : List (Int32 × Int32) := [(88, 24), (89, 25), (90, 26), (91, 27), (92, 28), (93, 29), (94, 30), (95, 31)]
theorem lg_bit (a b : Bool) {o p : Int32} (hop : (o, p) ∈ lgT) {s1 s2 : Int32} {z : Nat → Int32} {i : Int32} (ha : fX11_bit z s2 i = if a = true then 1 else 0) (hb : fX11_bit z s1 i = if b = true then 1 else 0) : lb (fX0_logic o (if a = true then 1 else 0) (if b = true then 1 else 0)) 0 = decide (¬ pX11_logic_221_S1 s1 s2 z p i = 0) := by
  simp only [lgT, List.mem_cons, Prod.mk.injEq, List.not_mem_nil, or_false] at hop
  rcases hop with h | h | h | h | h | h | h | h <;> obtain ⟨rfl, rfl⟩ := h <;> cases a <;> cases b <;> simp (decide := true) only [pX11_logic_221_S1, ha, hb, fX0_logic, if_true, if_false] <;> decide
theorem logic_loop {d s1 s2 vl st md S : Nat} {x z : Nat → Int32} (h0 : Sy x z) (hd : d < 32) (h1 : s1 < 32) (h2 : s2 < 32) (hv128 : vl ≤ 128) (hst : st < vl) {isM hr sel : Int32} {sec off : Int64} {tm tt mo : Int32} {c : Int64} (hun : isM = 0) {o p : Int32} (hop : (o, p) ∈ lgT) (ps sat : Int32) :
    Sy (cRun 12 o sel (nI vl) isM hr sec off ps (nI st) (nI md) sat c tm tt mo x S d 1 1 s2 1 s1 1) (fX11_maskTail__zV c (nI vl) ((LX11_logic_23 (nI vl) (nI d) (nI s1) (nI s2) z p (cnt (nI st) (nI vl)) (nI st, z)).2) (nI d)) ∧
    cSat 12 o sel (nI vl) isM hr sec off ps (nI st) (nI md) sat c tm mo x S d 1 s2 1 s1 1 = sat := by
  rw [cnt_nI (by omega) (by omega), itX11_logic_23 (b9 := vl) _ _ _ _ _ _ rfl (by omega) (vl - st) st z (by omega)]
  refine fam_m1 (kd := 12) (o := o) (sel := sel) (isM := isM) (hr := hr) (sec := sec) (off := off) (ps := ps) (md := nI md) (sat := sat) (c := c) (tm := tm) (tt := tt) (mo := mo) (x := x) (z := z) (S := S) (d := d) (l := s2) (lw := 1) (r := s1) (rw := 1) (st := st) (vl := vl) (by decide) (by rfl) h0 hd hst hv128 (fun k => pX11_logic_221_S1 (nI s1) (nI s2) z p (nI k)) (fun i xx _ _ => act1 (Or.inl hun)) ?_ ?_
  · intro i pp xx hi1 hi2 hI
    unfold cVal fX4_valueAt
    simp (decide := true) only [if_true, if_false]
    rw [rdm hI (r := s2) (k := i) (by omega) (by omega), rdm hI (r := s1) (k := i) (by omega) (by omega)]
    exact lg_bit _ _ hop (bitz z (by omega) (by omega)) (bitz z (by omega) (by omega))
  · intro i sc xx _ _ _
    unfold cValS fX4_valueAt__r_saturated
    simp (decide := true) only [if_true, if_false]
