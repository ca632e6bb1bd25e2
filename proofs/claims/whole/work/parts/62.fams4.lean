/-! ===== families: widens, multiplies, extends, narrows ===== -/
theorem two_S {S : Nat} : (2 : Int32) * nI S = nI (2 * S) := by rw [show (2 : Int32) = nI 2 from by decide, pk_mul]
def wdT : List (Int32 × Int32 × Int32 × Int32 × Int32) := [(7, 112, 0, 0, 0), (7, 113, 1, 0, 0), (7, 114, 0, 1, 0), (7, 115, 1, 1, 0), (8, 116, 0, 0, 1), (8, 117, 1, 0, 1), (8, 118, 0, 1, 1), (8, 119, 1, 1, 1)]
theorem widens_loop {S g d s1 s2 lw vl st md e8 : Nat} (hS : okB S) (h2S : okB (2 * S)) {x z xS zX : Nat → Int32} (h0 : Sy x z) (hX : SX xS zX) (h1 : s1 < 32) (hg8 : g ≤ 8) (hreg : fX11_registers (nI e8) = nI g) (hdg : d + g ≤ 32) (hvl : vl * (2 * S) ≤ g * 128) (hv128 : vl ≤ 128) (hst : st < vl) {isM un hr F sel : Int32} {off : Int64} {tm vt : Int32} {c : Int64} (hF : okF F) (hhr : hr = fX3_takesVector F) {kd o u1 u2 u3 : Int32} (hop : (kd, o, u1, u2, u3) ∈ wdT) (hlw : nI lw = if u3 = 0 then nI S else nI (2 * S)) (hlw2 : okB lw) (hL : Pos s2 lw d (2 * S) st vl) (hV : ¬ hr = 0 → Pos s1 S d (2 * S) st vl) (hmu : isM = 0 ↔ ¬ un = 0) (hm : ¬ isM = 0 → ¬ d = 0) (ps sat : Int32) :
    Sy (cRun kd o sel (nI vl) isM hr (fX4_prepare__n_second (nI S) xS F (nI s1)) off ps (nI st) (nI md) sat c tm (fX11_isTailOpen vt) (fX11_isMaskOpen vt) x S d (2 * S) g s2 lw s1 S) (fX11_tail__zV c vt ((LX11_widens_59 c (nI vl) vt (nI d) (nI s1) (nI s2) F (nI S) un zX z u1 u2 u3 (cnt (nI st) (nI vl)) (nI st, z)).2) (nI d) (nI (2 * S)) (nI e8) (nI vl)) ∧
    cSat kd o sel (nI vl) isM hr (fX4_prepare__n_second (nI S) xS F (nI s1)) off ps (nI st) (nI md) sat c tm (fX11_isMaskOpen vt) x S d (2 * S) s2 lw s1 S = sat := by
  have hle := hS.le
  have hk9 : kd = 7 ∨ kd = 8 := by
    simp only [wdT, List.mem_cons, Prod.mk.injEq, List.not_mem_nil, or_false] at hop
    rcases hop with h | h | h | h | h | h | h | h <;> simp [h.1]
  rw [cnt_nI (by omega) (by omega), itX11_widens_59 (b9 := vl) _ _ _ _ _ _ _ _ _ _ _ _ _ _ rfl (by omega) (vl - st) st z (by omega)]
  have ef : (fun (k : Nat) (s : Nat → Int32) => pX11_widens_192_zV c vt (nI d) (nI s1) (nI s2) F (nI S) un zX z u1 u2 u3 (nI k) s) = (fun k s => if fX11_isActive un z (nI k) = 0 then fX11_masked__zV c vt s (nI d) (nI (2 * S)) (nI k) else fX11_put__zV s (nI d) (nI (2 * S)) (nI k) (pX11_widens_189_S5 (nI s1) (nI s2) F (nI S) zX z u1 u2 u3 (nI k))) := by
    funext k s; unfold pX11_widens_192_zV; rw [two_S]
  rw [ef]
  refine fam_b (kd := kd) (o := o) (sel := sel) (isM := isM) (hr := hr) (sec := fX4_prepare__n_second (nI S) xS F (nI s1)) (off := off) (ps := ps) (md := nI md) (sat := sat) (c := c) (tm := tm) (vt := vt) (x := x) (z := z) (S := S) (d := d) (w := 2 * S) (g := g) (l := s2) (lw := lw) (r := s1) (rw := S) (st := st) (vl := vl) (e8 := e8) (by rcases hk9 with h | h <;> subst h <;> decide) (by unfold fX4_firstElement; rw [if_neg (by rcases hk9 with h | h <;> subst h <;> decide)]) h2S h0 hg8 hreg hdg hvl hst (by omega) (fun k => fX11_isActive un z (nI k)) (fun k => pX11_widens_189_S5 (nI s1) (nI s2) F (nI S) zX z u1 u2 u3 (nI k)) ?_ ?_ ?_
  · intro i xx hi1 hi2 hI
    exact act_eq hI (by rcases hk9 with h | h <;> subst h <;> decide) hmu (by omega) (fun q => by have := hm q; omega)
  · intro i pp xx hi1 hi2 hI j hj
    have e1 := rd h0.1 hI (r := s2) (k := i) hlw2 (hL i hi1 hi2).1 (hL i hi1 hi2).2
    have e2 := right_eq h0.1 hI hX hS h1 hF hhr (fun w => hV w i hi1 hi2)
    have e4 : ((2 : Int32) * nI S) = nI (2 * S) := two_S
    unfold cVal fX4_valueAt
    rw [e1, e2, hlw]
    simp only [wdT, List.mem_cons, Prod.mk.injEq, List.not_mem_nil, or_false] at hop
    rcases hop with h | h | h | h | h | h | h | h <;> obtain ⟨rfl, rfl, rfl, rfl, rfl⟩ := h <;> simp (decide := true) only [fX0_result, pX0_result_119_S1, fX0_wideSum, pX11_widens_189_S5, pX11_widens_148_L6, pX11_widens_163_L8, eX11_widens_146, pX11_widens_110_S3, signed_eq, e4, if_true, if_false]
  · intro i sc xx _ _ _
    unfold cValS fX4_valueAt__r_saturated
    simp only [wdT, List.mem_cons, Prod.mk.injEq, List.not_mem_nil, or_false] at hop
    rcases hop with h | h | h | h | h | h | h | h <;> obtain ⟨rfl, rfl, rfl, rfl, rfl⟩ := h <;> simp (decide := true) only [fX0_result__r_saturated, if_true, if_false]
def mlT : List (Int32 × Int32 × Int32 × Int32) := [(120, 0, 0, 0), (122, 1, 0, 0), (123, 1, 1, 0), (124, 0, 0, 1), (125, 1, 1, 1), (126, 1, 0, 1), (127, 0, 1, 1)]
theorem multiplies_loop {S g d s1 s2 vl st md e8 : Nat} (hS : okB S) (h2S : okB (2 * S)) {x z xS zX : Nat → Int32} (h0 : Sy x z) (hX : SX xS zX) (h1 : s1 < 32) (hg8 : g ≤ 8) (hreg : fX11_registers (nI e8) = nI g) (hdg : d + g ≤ 32) (hvl : vl * (2 * S) ≤ g * 128) (hv128 : vl ≤ 128) (hst : st < vl) {isM un hr F sel : Int32} {off : Int64} {tm vt : Int32} {c : Int64} (hF : okF F) (hhr : hr = fX3_takesVector F) {o u1 u2 u3 : Int32} (hop : (o, u1, u2, u3) ∈ mlT) (hL : Pos s2 S d (2 * S) st vl) (hV : ¬ hr = 0 → Pos s1 S d (2 * S) st vl) (hmu : isM = 0 ↔ ¬ un = 0) (hm : ¬ isM = 0 → ¬ d = 0) (ps sat : Int32) :
    Sy (cRun 7 o sel (nI vl) isM hr (fX4_prepare__n_second (nI S) xS F (nI s1)) off ps (nI st) (nI md) sat c tm (fX11_isTailOpen vt) (fX11_isMaskOpen vt) x S d (2 * S) g s2 S s1 S) (fX11_tail__zV c vt ((LX11_multiplies_50 c (nI vl) vt (nI d) (nI s1) (nI s2) F (nI S) un zX z u1 u2 u3 (cnt (nI st) (nI vl)) (nI st, z)).2) (nI d) (nI (2 * S)) (nI e8) (nI vl)) ∧
    cSat 7 o sel (nI vl) isM hr (fX4_prepare__n_second (nI S) xS F (nI s1)) off ps (nI st) (nI md) sat c tm (fX11_isMaskOpen vt) x S d (2 * S) s2 S s1 S = sat := by
  have hle := hS.le
  rw [cnt_nI (by omega) (by omega), itX11_multiplies_50 (b9 := vl) _ _ _ _ _ _ _ _ _ _ _ _ _ _ rfl (by omega) (vl - st) st z (by omega)]
  have ef : (fun (k : Nat) (s : Nat → Int32) => pX11_multiplies_179_zV c vt (nI d) (nI s1) (nI s2) F (nI S) un zX z u1 u2 u3 (nI k) s) = (fun k s => if fX11_isActive un z (nI k) = 0 then fX11_masked__zV c vt s (nI d) (nI (2 * S)) (nI k) else fX11_put__zV s (nI d) (nI (2 * S)) (nI k) (((pX11_multiplies_126_L6 (nI s2) (nI S) z u1 (nI k)) * (pX11_multiplies_141_L8 (nI s1) F (nI S) zX z u2 (nI k))) + (pX11_multiplies_175_S6 (nI d) (nI S) z u3 (nI k)))) := by
    funext k s; unfold pX11_multiplies_179_zV; rw [two_S]
  rw [ef]
  refine fam_b (kd := 7) (o := o) (sel := sel) (isM := isM) (hr := hr) (sec := fX4_prepare__n_second (nI S) xS F (nI s1)) (off := off) (ps := ps) (md := nI md) (sat := sat) (c := c) (tm := tm) (vt := vt) (x := x) (z := z) (S := S) (d := d) (w := 2 * S) (g := g) (l := s2) (lw := S) (r := s1) (rw := S) (st := st) (vl := vl) (e8 := e8) (by decide) (by rfl) h2S h0 hg8 hreg hdg hvl hst (by omega) (fun k => fX11_isActive un z (nI k)) (fun k => ((pX11_multiplies_126_L6 (nI s2) (nI S) z u1 (nI k)) * (pX11_multiplies_141_L8 (nI s1) F (nI S) zX z u2 (nI k))) + (pX11_multiplies_175_S6 (nI d) (nI S) z u3 (nI k))) ?_ ?_ ?_
  · intro i xx hi1 hi2 hI
    exact act_eq hI (by decide) hmu (by omega) (fun q => by have := hm q; omega)
  · intro i pp xx hi1 hi2 hI j hj
    have hiS : i * (2 * S) + 2 * S ≤ g * 128 := mul_in hi2 hvl
    have e1 := rd h0.1 hI (r := s2) (k := i) hS (hL i hi1 hi2).1 (hL i hi1 hi2).2
    have e2 := right_eq h0.1 hI hX hS h1 hF hhr (fun w => hV w i hi1 hi2)
    have e3 := rd h0.1 hI (r := d) (k := i) h2S (by omega) (Or.inr (Nat.le_refl _))
    have e4 : ((2 : Int32) * nI S) = nI (2 * S) := two_S
    unfold cVal fX4_valueAt
    rw [e1, e2, e3]
    simp only [mlT, List.mem_cons, Prod.mk.injEq, List.not_mem_nil, or_false] at hop
    rcases hop with h | h | h | h | h | h | h <;> obtain ⟨rfl, rfl, rfl, rfl⟩ := h <;> simp (decide := true) only [fX0_result, pX0_result_119_S1, fX0_wideProduct, pX11_multiplies_126_L6, pX11_multiplies_141_L8, pX11_multiplies_175_S6, signed_eq, e4, if_true, if_false, Int64.add_zero]
  · intro i sc xx _ _ _
    unfold cValS fX4_valueAt__r_saturated
    simp only [mlT, List.mem_cons, Prod.mk.injEq, List.not_mem_nil, or_false] at hop
    rcases hop with h | h | h | h | h | h | h <;> obtain ⟨rfl, rfl, rfl, rfl⟩ := h <;> simp (decide := true) only [fX0_result__r_saturated, if_true, if_false]
theorem extends_loop {S g d e s1 s2 vl st md e8 rr rw : Nat} (hS : okB S) (he : okB e) {x z : Nat → Int32} (h0 : Sy x z) (h1 : s1 = 4 ∨ s1 = 5 ∨ s1 = 6 ∨ s1 = 7) (hse : nI S / (pX11_extends1_43_S1 (nI s1)) = nI e) (hg8 : g ≤ 8) (hreg : fX11_registers (nI e8) = nI g) (hdg : d + g ≤ 32) (hvl : vl * S ≤ g * 128) (hv128 : vl ≤ 128) (hst : st < vl) {isM un hr : Int32} {sec off : Int64} {tm vt : Int32} {c : Int64} {o : Int32} (hL : Pos s2 e d S st vl) (hmu : isM = 0 ↔ ¬ un = 0) (hm : ¬ isM = 0 → ¬ d = 0) (ps sat : Int32) :
    Sy (cRun 9 o (nI s1) (nI vl) isM hr sec off ps (nI st) (nI md) sat c tm (fX11_isTailOpen vt) (fX11_isMaskOpen vt) x S d S g s2 e rr rw) (fX11_tail__zV c vt ((LX11_extends1_90 c (nI vl) vt (nI d) (nI s1) (nI s2) (nI S) un z (cnt (nI st) (nI vl)) (nI st, z)).2) (nI d) (nI S) (nI e8) (nI vl)) ∧
    cSat 9 o (nI s1) (nI vl) isM hr sec off ps (nI st) (nI md) sat c tm (fX11_isMaskOpen vt) x S d S s2 e rr rw = sat := by
  have hle := hS.le
  rw [cnt_nI (by omega) (by omega), itX11_extends1_90 (b9 := vl) _ _ _ _ _ _ _ _ _ rfl (by omega) (vl - st) st z (by omega)]
  refine fam_b (kd := 9) (o := o) (sel := nI s1) (isM := isM) (hr := hr) (sec := sec) (off := off) (ps := ps) (md := nI md) (sat := sat) (c := c) (tm := tm) (vt := vt) (x := x) (z := z) (S := S) (d := d) (w := S) (g := g) (l := s2) (lw := e) (r := rr) (rw := rw) (st := st) (vl := vl) (e8 := e8) (by decide) (by rfl) hS h0 hg8 hreg hdg hvl hst (by omega) (fun k => fX11_isActive un z (nI k)) (fun k => pX11_extends1_172_S5 (nI s1) (nI s2) (nI S) z (nI k)) ?_ ?_ ?_
  · intro i xx hi1 hi2 hI
    exact act_eq hI (by decide) hmu (by omega) (fun q => by have := hm q; omega)
  · intro i pp xx hi1 hi2 hI j hj
    have e1 := rd h0.1 hI (r := s2) (k := i) he (hL i hi1 hi2).1 (hL i hi1 hi2).2
    unfold cVal fX4_valueAt
    simp (decide := true) only [if_true, if_false]
    unfold pX4_valueAt_261_S1 pX11_extends1_172_S5
    rw [e1, hse, signed_eq]
    rcases h1 with rfl | rfl | rfl | rfl
    · rw [if_pos (by decide), if_neg (by decide)]
    · rw [if_neg (by decide), if_pos (by decide)]
    · rw [if_pos (by decide), if_neg (by decide)]
    · rw [if_neg (by decide), if_pos (by decide)]
  · intro i sc xx _ _ _
    unfold cValS fX4_valueAt__r_saturated
    simp (decide := true) only [if_true, if_false]
