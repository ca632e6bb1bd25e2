/-! ===== form 2 ===== -/
theorem w2_0 {S E L st d s1 s2 md : Nat} {im un tb : Int32} {x z xS zX : Nat → Int32} (h : HY S E L st d s1 s2 md 2 im un tb x z xS zX) {vt : Int32} (hvt : fX11_vlmax vt = nI (16 * E / S)) (sat : Int32) (c : Int64) (rf re r8 rg : Int32) (rl : Int64) : WK S E L st d s1 s2 md 2 (nI 0) im un tb x z xS zX vt sat c rf re r8 rg rl := by
  have e1 : fX11_works (nI st) (nI d) (nI s1) (nI s2) 2 (nI 0) (nI S) (nI E) un = (if fX11_reduces (nI st) (nI s2) (nI S) (nI E) 0 = 0 then (0 : Int32) else 1) := by
    simp (decide := true) only [fX11_works, fX11_mixed, pX11_mixed_299_S1, pX11_mixed_319_S1, pX11_mixed_339_S1, pX11_mixed_359_S1, pX11_mixed_380_S1, pX11_mixed_401_S1, pX11_mixed_422_S1, pX11_mixed_443_S1, pX11_mixed_489_S1, pX11_mixed_507_S1, pX11_mixed_523_S1, pX11_mixed_540_S1, pX11_mixed_613_S1, pX11_mixed_630_S1, pX11_mixed_651_S1, pX11_mixed_859_S1, if_true, if_false]
  have e2 : fX11_works__zV c (nI L) vt (nI st) (nI md) sat (nI d) (nI s1) (nI s2) 2 (nI 0) (nI S) (nI E) un zX z z = fX11_reduces__zV c (nI L) vt (nI st) (nI md) sat (nI d) (nI s1) (nI s2) (nI S) (nI E) un z z 0 0 0 := by
    simp (decide := true) only [fX11_works__zV, fX11_mixed__zV, pX11_mixed_299_zV, pX11_mixed_319_zV, pX11_mixed_339_zV, pX11_mixed_359_zV, pX11_mixed_380_zV, pX11_mixed_401_zV, pX11_mixed_422_zV, pX11_mixed_443_zV, pX11_mixed_489_zV, pX11_mixed_507_zV, pX11_mixed_523_zV, pX11_mixed_540_zV, pX11_mixed_613_zV, pX11_mixed_630_zV, pX11_mixed_651_zV, pX11_mixed_859_zV, if_true, if_false]
  have e3 : fX11_works__m_vxsat c (nI L) vt (nI st) (nI md) sat (nI d) (nI s1) (nI s2) 2 (nI 0) (nI S) (nI E) un zX z z = fX11_reduces__m_vxsat (nI L) (nI st) (nI md) sat (nI s1) (nI s2) (nI S) (nI E) un z 0 0 0 := by
    simp (decide := true) only [fX11_works__m_vxsat, fX11_mixed__m_vxsat, pX11_mixed_299_m_vxsat, pX11_mixed_319_m_vxsat, pX11_mixed_339_m_vxsat, pX11_mixed_359_m_vxsat, pX11_mixed_380_m_vxsat, pX11_mixed_401_m_vxsat, pX11_mixed_422_m_vxsat, pX11_mixed_443_m_vxsat, if_true, if_false]
  have e4 : fX11_works__zX (nI L) (nI st) (nI d) (nI s1) (nI s2) 2 (nI 0) (nI S) un zX z = zX := by
    simp (decide := true) only [fX11_works__zX, fX11_mixed__zX, pX11_mixed_523_zX, if_true, if_false]
  unfold WK
  rw [e1, e2, e3, e4]
  refine WO_b ?_
  exact reduces_WO h (W := S) (Or.inl ⟨rfl, rfl, rfl⟩) (Or.inl ⟨rfl, rfl, by decide⟩) (by rw [kd_plain (by decide) (by decide) (show _ = (10 : Int32) by decide), mb_free (by decide)]) vt sat c _ rf re r8 rg rl
theorem w2_1 {S E L st d s1 s2 md : Nat} {im un tb : Int32} {x z xS zX : Nat → Int32} (h : HY S E L st d s1 s2 md 2 im un tb x z xS zX) {vt : Int32} (hvt : fX11_vlmax vt = nI (16 * E / S)) (sat : Int32) (c : Int64) (rf re r8 rg : Int32) (rl : Int64) : WK S E L st d s1 s2 md 2 (nI 1) im un tb x z xS zX vt sat c rf re r8 rg rl := by
  have e1 : fX11_works (nI st) (nI d) (nI s1) (nI s2) 2 (nI 1) (nI S) (nI E) un = (if fX11_reduces (nI st) (nI s2) (nI S) (nI E) 0 = 0 then (0 : Int32) else 1) := by
    simp (decide := true) only [fX11_works, fX11_mixed, pX11_mixed_299_S1, pX11_mixed_319_S1, pX11_mixed_339_S1, pX11_mixed_359_S1, pX11_mixed_380_S1, pX11_mixed_401_S1, pX11_mixed_422_S1, pX11_mixed_443_S1, pX11_mixed_489_S1, pX11_mixed_507_S1, pX11_mixed_523_S1, pX11_mixed_540_S1, pX11_mixed_613_S1, pX11_mixed_630_S1, pX11_mixed_651_S1, pX11_mixed_859_S1, if_true, if_false]
  have e2 : fX11_works__zV c (nI L) vt (nI st) (nI md) sat (nI d) (nI s1) (nI s2) 2 (nI 1) (nI S) (nI E) un zX z z = fX11_reduces__zV c (nI L) vt (nI st) (nI md) sat (nI d) (nI s1) (nI s2) (nI S) (nI E) un z z 3 0 0 := by
    simp (decide := true) only [fX11_works__zV, fX11_mixed__zV, pX11_mixed_299_zV, pX11_mixed_319_zV, pX11_mixed_339_zV, pX11_mixed_359_zV, pX11_mixed_380_zV, pX11_mixed_401_zV, pX11_mixed_422_zV, pX11_mixed_443_zV, pX11_mixed_489_zV, pX11_mixed_507_zV, pX11_mixed_523_zV, pX11_mixed_540_zV, pX11_mixed_613_zV, pX11_mixed_630_zV, pX11_mixed_651_zV, pX11_mixed_859_zV, if_true, if_false]
  have e3 : fX11_works__m_vxsat c (nI L) vt (nI st) (nI md) sat (nI d) (nI s1) (nI s2) 2 (nI 1) (nI S) (nI E) un zX z z = fX11_reduces__m_vxsat (nI L) (nI st) (nI md) sat (nI s1) (nI s2) (nI S) (nI E) un z 3 0 0 := by
    simp (decide := true) only [fX11_works__m_vxsat, fX11_mixed__m_vxsat, pX11_mixed_299_m_vxsat, pX11_mixed_319_m_vxsat, pX11_mixed_339_m_vxsat, pX11_mixed_359_m_vxsat, pX11_mixed_380_m_vxsat, pX11_mixed_401_m_vxsat, pX11_mixed_422_m_vxsat, pX11_mixed_443_m_vxsat, if_true, if_false]
  have e4 : fX11_works__zX (nI L) (nI st) (nI d) (nI s1) (nI s2) 2 (nI 1) (nI S) un zX z = zX := by
    simp (decide := true) only [fX11_works__zX, fX11_mixed__zX, pX11_mixed_523_zX, if_true, if_false]
  unfold WK
  rw [e1, e2, e3, e4]
  refine WO_b ?_
  exact reduces_WO h (W := S) (Or.inl ⟨rfl, rfl, rfl⟩) (Or.inl ⟨rfl, rfl, by decide⟩) (by rw [kd_plain (by decide) (by decide) (show _ = (10 : Int32) by decide), mb_free (by decide)]) vt sat c _ rf re r8 rg rl
theorem w2_2 {S E L st d s1 s2 md : Nat} {im un tb : Int32} {x z xS zX : Nat → Int32} (h : HY S E L st d s1 s2 md 2 im un tb x z xS zX) {vt : Int32} (hvt : fX11_vlmax vt = nI (16 * E / S)) (sat : Int32) (c : Int64) (rf re r8 rg : Int32) (rl : Int64) : WK S E L st d s1 s2 md 2 (nI 2) im un tb x z xS zX vt sat c rf re r8 rg rl := by
  have e1 : fX11_works (nI st) (nI d) (nI s1) (nI s2) 2 (nI 2) (nI S) (nI E) un = (if fX11_reduces (nI st) (nI s2) (nI S) (nI E) 0 = 0 then (0 : Int32) else 1) := by
    simp (decide := true) only [fX11_works, fX11_mixed, pX11_mixed_299_S1, pX11_mixed_319_S1, pX11_mixed_339_S1, pX11_mixed_359_S1, pX11_mixed_380_S1, pX11_mixed_401_S1, pX11_mixed_422_S1, pX11_mixed_443_S1, pX11_mixed_489_S1, pX11_mixed_507_S1, pX11_mixed_523_S1, pX11_mixed_540_S1, pX11_mixed_613_S1, pX11_mixed_630_S1, pX11_mixed_651_S1, pX11_mixed_859_S1, if_true, if_false]
  have e2 : fX11_works__zV c (nI L) vt (nI st) (nI md) sat (nI d) (nI s1) (nI s2) 2 (nI 2) (nI S) (nI E) un zX z z = fX11_reduces__zV c (nI L) vt (nI st) (nI md) sat (nI d) (nI s1) (nI s2) (nI S) (nI E) un z z 4 0 0 := by
    simp (decide := true) only [fX11_works__zV, fX11_mixed__zV, pX11_mixed_299_zV, pX11_mixed_319_zV, pX11_mixed_339_zV, pX11_mixed_359_zV, pX11_mixed_380_zV, pX11_mixed_401_zV, pX11_mixed_422_zV, pX11_mixed_443_zV, pX11_mixed_489_zV, pX11_mixed_507_zV, pX11_mixed_523_zV, pX11_mixed_540_zV, pX11_mixed_613_zV, pX11_mixed_630_zV, pX11_mixed_651_zV, pX11_mixed_859_zV, if_true, if_false]
  have e3 : fX11_works__m_vxsat c (nI L) vt (nI st) (nI md) sat (nI d) (nI s1) (nI s2) 2 (nI 2) (nI S) (nI E) un zX z z = fX11_reduces__m_vxsat (nI L) (nI st) (nI md) sat (nI s1) (nI s2) (nI S) (nI E) un z 4 0 0 := by
    simp (decide := true) only [fX11_works__m_vxsat, fX11_mixed__m_vxsat, pX11_mixed_299_m_vxsat, pX11_mixed_319_m_vxsat, pX11_mixed_339_m_vxsat, pX11_mixed_359_m_vxsat, pX11_mixed_380_m_vxsat, pX11_mixed_401_m_vxsat, pX11_mixed_422_m_vxsat, pX11_mixed_443_m_vxsat, if_true, if_false]
  have e4 : fX11_works__zX (nI L) (nI st) (nI d) (nI s1) (nI s2) 2 (nI 2) (nI S) un zX z = zX := by
    simp (decide := true) only [fX11_works__zX, fX11_mixed__zX, pX11_mixed_523_zX, if_true, if_false]
  unfold WK
  rw [e1, e2, e3, e4]
  refine WO_b ?_
  exact reduces_WO h (W := S) (Or.inl ⟨rfl, rfl, rfl⟩) (Or.inl ⟨rfl, rfl, by decide⟩) (by rw [kd_plain (by decide) (by decide) (show _ = (10 : Int32) by decide), mb_free (by decide)]) vt sat c _ rf re r8 rg rl
theorem w2_3 {S E L st d s1 s2 md : Nat} {im un tb : Int32} {x z xS zX : Nat → Int32} (h : HY S E L st d s1 s2 md 2 im un tb x z xS zX) {vt : Int32} (hvt : fX11_vlmax vt = nI (16 * E / S)) (sat : Int32) (c : Int64) (rf re r8 rg : Int32) (rl : Int64) : WK S E L st d s1 s2 md 2 (nI 3) im un tb x z xS zX vt sat c rf re r8 rg rl := by
  have e1 : fX11_works (nI st) (nI d) (nI s1) (nI s2) 2 (nI 3) (nI S) (nI E) un = (if fX11_reduces (nI st) (nI s2) (nI S) (nI E) 0 = 0 then (0 : Int32) else 1) := by
    simp (decide := true) only [fX11_works, fX11_mixed, pX11_mixed_299_S1, pX11_mixed_319_S1, pX11_mixed_339_S1, pX11_mixed_359_S1, pX11_mixed_380_S1, pX11_mixed_401_S1, pX11_mixed_422_S1, pX11_mixed_443_S1, pX11_mixed_489_S1, pX11_mixed_507_S1, pX11_mixed_523_S1, pX11_mixed_540_S1, pX11_mixed_613_S1, pX11_mixed_630_S1, pX11_mixed_651_S1, pX11_mixed_859_S1, if_true, if_false]
  have e2 : fX11_works__zV c (nI L) vt (nI st) (nI md) sat (nI d) (nI s1) (nI s2) 2 (nI 3) (nI S) (nI E) un zX z z = fX11_reduces__zV c (nI L) vt (nI st) (nI md) sat (nI d) (nI s1) (nI s2) (nI S) (nI E) un z z 5 0 0 := by
    simp (decide := true) only [fX11_works__zV, fX11_mixed__zV, pX11_mixed_299_zV, pX11_mixed_319_zV, pX11_mixed_339_zV, pX11_mixed_359_zV, pX11_mixed_380_zV, pX11_mixed_401_zV, pX11_mixed_422_zV, pX11_mixed_443_zV, pX11_mixed_489_zV, pX11_mixed_507_zV, pX11_mixed_523_zV, pX11_mixed_540_zV, pX11_mixed_613_zV, pX11_mixed_630_zV, pX11_mixed_651_zV, pX11_mixed_859_zV, if_true, if_false]
  have e3 : fX11_works__m_vxsat c (nI L) vt (nI st) (nI md) sat (nI d) (nI s1) (nI s2) 2 (nI 3) (nI S) (nI E) un zX z z = fX11_reduces__m_vxsat (nI L) (nI st) (nI md) sat (nI s1) (nI s2) (nI S) (nI E) un z 5 0 0 := by
    simp (decide := true) only [fX11_works__m_vxsat, fX11_mixed__m_vxsat, pX11_mixed_299_m_vxsat, pX11_mixed_319_m_vxsat, pX11_mixed_339_m_vxsat, pX11_mixed_359_m_vxsat, pX11_mixed_380_m_vxsat, pX11_mixed_401_m_vxsat, pX11_mixed_422_m_vxsat, pX11_mixed_443_m_vxsat, if_true, if_false]
  have e4 : fX11_works__zX (nI L) (nI st) (nI d) (nI s1) (nI s2) 2 (nI 3) (nI S) un zX z = zX := by
    simp (decide := true) only [fX11_works__zX, fX11_mixed__zX, pX11_mixed_523_zX, if_true, if_false]
  unfold WK
  rw [e1, e2, e3, e4]
  refine WO_b ?_
  exact reduces_WO h (W := S) (Or.inl ⟨rfl, rfl, rfl⟩) (Or.inl ⟨rfl, rfl, by decide⟩) (by rw [kd_plain (by decide) (by decide) (show _ = (10 : Int32) by decide), mb_free (by decide)]) vt sat c _ rf re r8 rg rl
theorem w2_4 {S E L st d s1 s2 md : Nat} {im un tb : Int32} {x z xS zX : Nat → Int32} (h : HY S E L st d s1 s2 md 2 im un tb x z xS zX) {vt : Int32} (hvt : fX11_vlmax vt = nI (16 * E / S)) (sat : Int32) (c : Int64) (rf re r8 rg : Int32) (rl : Int64) : WK S E L st d s1 s2 md 2 (nI 4) im un tb x z xS zX vt sat c rf re r8 rg rl := by
  have e1 : fX11_works (nI st) (nI d) (nI s1) (nI s2) 2 (nI 4) (nI S) (nI E) un = (if fX11_reduces (nI st) (nI s2) (nI S) (nI E) 0 = 0 then (0 : Int32) else 1) := by
    simp (decide := true) only [fX11_works, fX11_mixed, pX11_mixed_299_S1, pX11_mixed_319_S1, pX11_mixed_339_S1, pX11_mixed_359_S1, pX11_mixed_380_S1, pX11_mixed_401_S1, pX11_mixed_422_S1, pX11_mixed_443_S1, pX11_mixed_489_S1, pX11_mixed_507_S1, pX11_mixed_523_S1, pX11_mixed_540_S1, pX11_mixed_613_S1, pX11_mixed_630_S1, pX11_mixed_651_S1, pX11_mixed_859_S1, if_true, if_false]
  have e2 : fX11_works__zV c (nI L) vt (nI st) (nI md) sat (nI d) (nI s1) (nI s2) 2 (nI 4) (nI S) (nI E) un zX z z = fX11_reduces__zV c (nI L) vt (nI st) (nI md) sat (nI d) (nI s1) (nI s2) (nI S) (nI E) un z z 6 0 0 := by
    simp (decide := true) only [fX11_works__zV, fX11_mixed__zV, pX11_mixed_299_zV, pX11_mixed_319_zV, pX11_mixed_339_zV, pX11_mixed_359_zV, pX11_mixed_380_zV, pX11_mixed_401_zV, pX11_mixed_422_zV, pX11_mixed_443_zV, pX11_mixed_489_zV, pX11_mixed_507_zV, pX11_mixed_523_zV, pX11_mixed_540_zV, pX11_mixed_613_zV, pX11_mixed_630_zV, pX11_mixed_651_zV, pX11_mixed_859_zV, if_true, if_false]
  have e3 : fX11_works__m_vxsat c (nI L) vt (nI st) (nI md) sat (nI d) (nI s1) (nI s2) 2 (nI 4) (nI S) (nI E) un zX z z = fX11_reduces__m_vxsat (nI L) (nI st) (nI md) sat (nI s1) (nI s2) (nI S) (nI E) un z 6 0 0 := by
    simp (decide := true) only [fX11_works__m_vxsat, fX11_mixed__m_vxsat, pX11_mixed_299_m_vxsat, pX11_mixed_319_m_vxsat, pX11_mixed_339_m_vxsat, pX11_mixed_359_m_vxsat, pX11_mixed_380_m_vxsat, pX11_mixed_401_m_vxsat, pX11_mixed_422_m_vxsat, pX11_mixed_443_m_vxsat, if_true, if_false]
  have e4 : fX11_works__zX (nI L) (nI st) (nI d) (nI s1) (nI s2) 2 (nI 4) (nI S) un zX z = zX := by
    simp (decide := true) only [fX11_works__zX, fX11_mixed__zX, pX11_mixed_523_zX, if_true, if_false]
  unfold WK
  rw [e1, e2, e3, e4]
  refine WO_b ?_
  exact reduces_WO h (W := S) (Or.inl ⟨rfl, rfl, rfl⟩) (Or.inl ⟨rfl, rfl, by decide⟩) (by rw [kd_plain (by decide) (by decide) (show _ = (10 : Int32) by decide), mb_free (by decide)]) vt sat c _ rf re r8 rg rl
theorem w2_5 {S E L st d s1 s2 md : Nat} {im un tb : Int32} {x z xS zX : Nat → Int32} (h : HY S E L st d s1 s2 md 2 im un tb x z xS zX) {vt : Int32} (hvt : fX11_vlmax vt = nI (16 * E / S)) (sat : Int32) (c : Int64) (rf re r8 rg : Int32) (rl : Int64) : WK S E L st d s1 s2 md 2 (nI 5) im un tb x z xS zX vt sat c rf re r8 rg rl := by
  have e1 : fX11_works (nI st) (nI d) (nI s1) (nI s2) 2 (nI 5) (nI S) (nI E) un = (if fX11_reduces (nI st) (nI s2) (nI S) (nI E) 0 = 0 then (0 : Int32) else 1) := by
    simp (decide := true) only [fX11_works, fX11_mixed, pX11_mixed_299_S1, pX11_mixed_319_S1, pX11_mixed_339_S1, pX11_mixed_359_S1, pX11_mixed_380_S1, pX11_mixed_401_S1, pX11_mixed_422_S1, pX11_mixed_443_S1, pX11_mixed_489_S1, pX11_mixed_507_S1, pX11_mixed_523_S1, pX11_mixed_540_S1, pX11_mixed_613_S1, pX11_mixed_630_S1, pX11_mixed_651_S1, pX11_mixed_859_S1, if_true, if_false]
  have e2 : fX11_works__zV c (nI L) vt (nI st) (nI md) sat (nI d) (nI s1) (nI s2) 2 (nI 5) (nI S) (nI E) un zX z z = fX11_reduces__zV c (nI L) vt (nI st) (nI md) sat (nI d) (nI s1) (nI s2) (nI S) (nI E) un z z 7 0 0 := by
    simp (decide := true) only [fX11_works__zV, fX11_mixed__zV, pX11_mixed_299_zV, pX11_mixed_319_zV, pX11_mixed_339_zV, pX11_mixed_359_zV, pX11_mixed_380_zV, pX11_mixed_401_zV, pX11_mixed_422_zV, pX11_mixed_443_zV, pX11_mixed_489_zV, pX11_mixed_507_zV, pX11_mixed_523_zV, pX11_mixed_540_zV, pX11_mixed_613_zV, pX11_mixed_630_zV, pX11_mixed_651_zV, pX11_mixed_859_zV, if_true, if_false]
  have e3 : fX11_works__m_vxsat c (nI L) vt (nI st) (nI md) sat (nI d) (nI s1) (nI s2) 2 (nI 5) (nI S) (nI E) un zX z z = fX11_reduces__m_vxsat (nI L) (nI st) (nI md) sat (nI s1) (nI s2) (nI S) (nI E) un z 7 0 0 := by
    simp (decide := true) only [fX11_works__m_vxsat, fX11_mixed__m_vxsat, pX11_mixed_299_m_vxsat, pX11_mixed_319_m_vxsat, pX11_mixed_339_m_vxsat, pX11_mixed_359_m_vxsat, pX11_mixed_380_m_vxsat, pX11_mixed_401_m_vxsat, pX11_mixed_422_m_vxsat, pX11_mixed_443_m_vxsat, if_true, if_false]
  have e4 : fX11_works__zX (nI L) (nI st) (nI d) (nI s1) (nI s2) 2 (nI 5) (nI S) un zX z = zX := by
    simp (decide := true) only [fX11_works__zX, fX11_mixed__zX, pX11_mixed_523_zX, if_true, if_false]
  unfold WK
  rw [e1, e2, e3, e4]
  refine WO_b ?_
  exact reduces_WO h (W := S) (Or.inl ⟨rfl, rfl, rfl⟩) (Or.inl ⟨rfl, rfl, by decide⟩) (by rw [kd_plain (by decide) (by decide) (show _ = (10 : Int32) by decide), mb_free (by decide)]) vt sat c _ rf re r8 rg rl
theorem w2_6 {S E L st d s1 s2 md : Nat} {im un tb : Int32} {x z xS zX : Nat → Int32} (h : HY S E L st d s1 s2 md 2 im un tb x z xS zX) {vt : Int32} (hvt : fX11_vlmax vt = nI (16 * E / S)) (sat : Int32) (c : Int64) (rf re r8 rg : Int32) (rl : Int64) : WK S E L st d s1 s2 md 2 (nI 6) im un tb x z xS zX vt sat c rf re r8 rg rl := by
  have e1 : fX11_works (nI st) (nI d) (nI s1) (nI s2) 2 (nI 6) (nI S) (nI E) un = (if fX11_reduces (nI st) (nI s2) (nI S) (nI E) 0 = 0 then (0 : Int32) else 1) := by
    simp (decide := true) only [fX11_works, fX11_mixed, pX11_mixed_299_S1, pX11_mixed_319_S1, pX11_mixed_339_S1, pX11_mixed_359_S1, pX11_mixed_380_S1, pX11_mixed_401_S1, pX11_mixed_422_S1, pX11_mixed_443_S1, pX11_mixed_489_S1, pX11_mixed_507_S1, pX11_mixed_523_S1, pX11_mixed_540_S1, pX11_mixed_613_S1, pX11_mixed_630_S1, pX11_mixed_651_S1, pX11_mixed_859_S1, if_true, if_false]
  have e2 : fX11_works__zV c (nI L) vt (nI st) (nI md) sat (nI d) (nI s1) (nI s2) 2 (nI 6) (nI S) (nI E) un zX z z = fX11_reduces__zV c (nI L) vt (nI st) (nI md) sat (nI d) (nI s1) (nI s2) (nI S) (nI E) un z z 8 0 0 := by
    simp (decide := true) only [fX11_works__zV, fX11_mixed__zV, pX11_mixed_299_zV, pX11_mixed_319_zV, pX11_mixed_339_zV, pX11_mixed_359_zV, pX11_mixed_380_zV, pX11_mixed_401_zV, pX11_mixed_422_zV, pX11_mixed_443_zV, pX11_mixed_489_zV, pX11_mixed_507_zV, pX11_mixed_523_zV, pX11_mixed_540_zV, pX11_mixed_613_zV, pX11_mixed_630_zV, pX11_mixed_651_zV, pX11_mixed_859_zV, if_true, if_false]
  have e3 : fX11_works__m_vxsat c (nI L) vt (nI st) (nI md) sat (nI d) (nI s1) (nI s2) 2 (nI 6) (nI S) (nI E) un zX z z = fX11_reduces__m_vxsat (nI L) (nI st) (nI md) sat (nI s1) (nI s2) (nI S) (nI E) un z 8 0 0 := by
    simp (decide := true) only [fX11_works__m_vxsat, fX11_mixed__m_vxsat, pX11_mixed_299_m_vxsat, pX11_mixed_319_m_vxsat, pX11_mixed_339_m_vxsat, pX11_mixed_359_m_vxsat, pX11_mixed_380_m_vxsat, pX11_mixed_401_m_vxsat, pX11_mixed_422_m_vxsat, pX11_mixed_443_m_vxsat, if_true, if_false]
  have e4 : fX11_works__zX (nI L) (nI st) (nI d) (nI s1) (nI s2) 2 (nI 6) (nI S) un zX z = zX := by
    simp (decide := true) only [fX11_works__zX, fX11_mixed__zX, pX11_mixed_523_zX, if_true, if_false]
  unfold WK
  rw [e1, e2, e3, e4]
  refine WO_b ?_
  exact reduces_WO h (W := S) (Or.inl ⟨rfl, rfl, rfl⟩) (Or.inl ⟨rfl, rfl, by decide⟩) (by rw [kd_plain (by decide) (by decide) (show _ = (10 : Int32) by decide), mb_free (by decide)]) vt sat c _ rf re r8 rg rl
theorem w2_7 {S E L st d s1 s2 md : Nat} {im un tb : Int32} {x z xS zX : Nat → Int32} (h : HY S E L st d s1 s2 md 2 im un tb x z xS zX) {vt : Int32} (hvt : fX11_vlmax vt = nI (16 * E / S)) (sat : Int32) (c : Int64) (rf re r8 rg : Int32) (rl : Int64) : WK S E L st d s1 s2 md 2 (nI 7) im un tb x z xS zX vt sat c rf re r8 rg rl := by
  have e1 : fX11_works (nI st) (nI d) (nI s1) (nI s2) 2 (nI 7) (nI S) (nI E) un = (if fX11_reduces (nI st) (nI s2) (nI S) (nI E) 0 = 0 then (0 : Int32) else 1) := by
    simp (decide := true) only [fX11_works, fX11_mixed, pX11_mixed_299_S1, pX11_mixed_319_S1, pX11_mixed_339_S1, pX11_mixed_359_S1, pX11_mixed_380_S1, pX11_mixed_401_S1, pX11_mixed_422_S1, pX11_mixed_443_S1, pX11_mixed_489_S1, pX11_mixed_507_S1, pX11_mixed_523_S1, pX11_mixed_540_S1, pX11_mixed_613_S1, pX11_mixed_630_S1, pX11_mixed_651_S1, pX11_mixed_859_S1, if_true, if_false]
  have e2 : fX11_works__zV c (nI L) vt (nI st) (nI md) sat (nI d) (nI s1) (nI s2) 2 (nI 7) (nI S) (nI E) un zX z z = fX11_reduces__zV c (nI L) vt (nI st) (nI md) sat (nI d) (nI s1) (nI s2) (nI S) (nI E) un z z 9 0 0 := by
    simp (decide := true) only [fX11_works__zV, fX11_mixed__zV, pX11_mixed_299_zV, pX11_mixed_319_zV, pX11_mixed_339_zV, pX11_mixed_359_zV, pX11_mixed_380_zV, pX11_mixed_401_zV, pX11_mixed_422_zV, pX11_mixed_443_zV, pX11_mixed_489_zV, pX11_mixed_507_zV, pX11_mixed_523_zV, pX11_mixed_540_zV, pX11_mixed_613_zV, pX11_mixed_630_zV, pX11_mixed_651_zV, pX11_mixed_859_zV, if_true, if_false]
  have e3 : fX11_works__m_vxsat c (nI L) vt (nI st) (nI md) sat (nI d) (nI s1) (nI s2) 2 (nI 7) (nI S) (nI E) un zX z z = fX11_reduces__m_vxsat (nI L) (nI st) (nI md) sat (nI s1) (nI s2) (nI S) (nI E) un z 9 0 0 := by
    simp (decide := true) only [fX11_works__m_vxsat, fX11_mixed__m_vxsat, pX11_mixed_299_m_vxsat, pX11_mixed_319_m_vxsat, pX11_mixed_339_m_vxsat, pX11_mixed_359_m_vxsat, pX11_mixed_380_m_vxsat, pX11_mixed_401_m_vxsat, pX11_mixed_422_m_vxsat, pX11_mixed_443_m_vxsat, if_true, if_false]
  have e4 : fX11_works__zX (nI L) (nI st) (nI d) (nI s1) (nI s2) 2 (nI 7) (nI S) un zX z = zX := by
    simp (decide := true) only [fX11_works__zX, fX11_mixed__zX, pX11_mixed_523_zX, if_true, if_false]
  unfold WK
  rw [e1, e2, e3, e4]
  refine WO_b ?_
  exact reduces_WO h (W := S) (Or.inl ⟨rfl, rfl, rfl⟩) (Or.inl ⟨rfl, rfl, by decide⟩) (by rw [kd_plain (by decide) (by decide) (show _ = (10 : Int32) by decide), mb_free (by decide)]) vt sat c _ rf re r8 rg rl
theorem w2_8 {S E L st d s1 s2 md : Nat} {im un tb : Int32} {x z xS zX : Nat → Int32} (h : HY S E L st d s1 s2 md 2 im un tb x z xS zX) {vt : Int32} (hvt : fX11_vlmax vt = nI (16 * E / S)) (sat : Int32) (c : Int64) (rf re r8 rg : Int32) (rl : Int64) : WK S E L st d s1 s2 md 2 (nI 8) im un tb x z xS zX vt sat c rf re r8 rg rl := by
  have e1 : fX11_works (nI st) (nI d) (nI s1) (nI s2) 2 (nI 8) (nI S) (nI E) un = fX11_alike (nI d) (nI s1) (nI s2) 2 (nI S) (nI E) un := by
    simp (decide := true) only [fX11_works, fX11_mixed, pX11_mixed_299_S1, pX11_mixed_319_S1, pX11_mixed_339_S1, pX11_mixed_359_S1, pX11_mixed_380_S1, pX11_mixed_401_S1, pX11_mixed_422_S1, pX11_mixed_443_S1, pX11_mixed_489_S1, pX11_mixed_507_S1, pX11_mixed_523_S1, pX11_mixed_540_S1, pX11_mixed_613_S1, pX11_mixed_630_S1, pX11_mixed_651_S1, pX11_mixed_859_S1, if_true, if_false]
  have e2 : fX11_works__zV c (nI L) vt (nI st) (nI md) sat (nI d) (nI s1) (nI s2) 2 (nI 8) (nI S) (nI E) un zX z z = fX11_alike__zV c (nI L) vt (nI st) (nI md) sat (nI d) (nI s1) (nI s2) 2 (nI S) (nI E) un zX z z 20 := by
    simp (decide := true) only [fX11_works__zV, fX11_mixed__zV, pX11_mixed_299_zV, pX11_mixed_319_zV, pX11_mixed_339_zV, pX11_mixed_359_zV, pX11_mixed_380_zV, pX11_mixed_401_zV, pX11_mixed_422_zV, pX11_mixed_443_zV, pX11_mixed_489_zV, pX11_mixed_507_zV, pX11_mixed_523_zV, pX11_mixed_540_zV, pX11_mixed_613_zV, pX11_mixed_630_zV, pX11_mixed_651_zV, pX11_mixed_859_zV, if_true, if_false]
  have e3 : fX11_works__m_vxsat c (nI L) vt (nI st) (nI md) sat (nI d) (nI s1) (nI s2) 2 (nI 8) (nI S) (nI E) un zX z z = fX11_alike__m_vxsat c (nI L) vt (nI st) (nI md) sat (nI d) (nI s1) (nI s2) 2 (nI S) (nI E) un zX z z 20 := by
    simp (decide := true) only [fX11_works__m_vxsat, fX11_mixed__m_vxsat, pX11_mixed_299_m_vxsat, pX11_mixed_319_m_vxsat, pX11_mixed_339_m_vxsat, pX11_mixed_359_m_vxsat, pX11_mixed_380_m_vxsat, pX11_mixed_401_m_vxsat, pX11_mixed_422_m_vxsat, pX11_mixed_443_m_vxsat, if_true, if_false]
  have e4 : fX11_works__zX (nI L) (nI st) (nI d) (nI s1) (nI s2) 2 (nI 8) (nI S) un zX z = zX := by
    simp (decide := true) only [fX11_works__zX, fX11_mixed__zX, pX11_mixed_523_zX, if_true, if_false]
  unfold WK
  rw [e1, e2, e3, e4]
  exact alike_WO h (by decide) (by rw [kd_plain (by decide) (by decide) (show _ = (1 : Int32) by decide), mb_free (by decide)]) vt sat c _ rf re r8 rg rl
theorem w2_9 {S E L st d s1 s2 md : Nat} {im un tb : Int32} {x z xS zX : Nat → Int32} (h : HY S E L st d s1 s2 md 2 im un tb x z xS zX) {vt : Int32} (hvt : fX11_vlmax vt = nI (16 * E / S)) (sat : Int32) (c : Int64) (rf re r8 rg : Int32) (rl : Int64) : WK S E L st d s1 s2 md 2 (nI 9) im un tb x z xS zX vt sat c rf re r8 rg rl := by
  have e1 : fX11_works (nI st) (nI d) (nI s1) (nI s2) 2 (nI 9) (nI S) (nI E) un = fX11_alike (nI d) (nI s1) (nI s2) 2 (nI S) (nI E) un := by
    simp (decide := true) only [fX11_works, fX11_mixed, pX11_mixed_299_S1, pX11_mixed_319_S1, pX11_mixed_339_S1, pX11_mixed_359_S1, pX11_mixed_380_S1, pX11_mixed_401_S1, pX11_mixed_422_S1, pX11_mixed_443_S1, pX11_mixed_489_S1, pX11_mixed_507_S1, pX11_mixed_523_S1, pX11_mixed_540_S1, pX11_mixed_613_S1, pX11_mixed_630_S1, pX11_mixed_651_S1, pX11_mixed_859_S1, if_true, if_false]
  have e2 : fX11_works__zV c (nI L) vt (nI st) (nI md) sat (nI d) (nI s1) (nI s2) 2 (nI 9) (nI S) (nI E) un zX z z = fX11_alike__zV c (nI L) vt (nI st) (nI md) sat (nI d) (nI s1) (nI s2) 2 (nI S) (nI E) un zX z z 21 := by
    simp (decide := true) only [fX11_works__zV, fX11_mixed__zV, pX11_mixed_299_zV, pX11_mixed_319_zV, pX11_mixed_339_zV, pX11_mixed_359_zV, pX11_mixed_380_zV, pX11_mixed_401_zV, pX11_mixed_422_zV, pX11_mixed_443_zV, pX11_mixed_489_zV, pX11_mixed_507_zV, pX11_mixed_523_zV, pX11_mixed_540_zV, pX11_mixed_613_zV, pX11_mixed_630_zV, pX11_mixed_651_zV, pX11_mixed_859_zV, if_true, if_false]
  have e3 : fX11_works__m_vxsat c (nI L) vt (nI st) (nI md) sat (nI d) (nI s1) (nI s2) 2 (nI 9) (nI S) (nI E) un zX z z = fX11_alike__m_vxsat c (nI L) vt (nI st) (nI md) sat (nI d) (nI s1) (nI s2) 2 (nI S) (nI E) un zX z z 21 := by
    simp (decide := true) only [fX11_works__m_vxsat, fX11_mixed__m_vxsat, pX11_mixed_299_m_vxsat, pX11_mixed_319_m_vxsat, pX11_mixed_339_m_vxsat, pX11_mixed_359_m_vxsat, pX11_mixed_380_m_vxsat, pX11_mixed_401_m_vxsat, pX11_mixed_422_m_vxsat, pX11_mixed_443_m_vxsat, if_true, if_false]
  have e4 : fX11_works__zX (nI L) (nI st) (nI d) (nI s1) (nI s2) 2 (nI 9) (nI S) un zX z = zX := by
    simp (decide := true) only [fX11_works__zX, fX11_mixed__zX, pX11_mixed_523_zX, if_true, if_false]
  unfold WK
  rw [e1, e2, e3, e4]
  exact alike_WO h (by decide) (by rw [kd_plain (by decide) (by decide) (show _ = (1 : Int32) by decide), mb_free (by decide)]) vt sat c _ rf re r8 rg rl
theorem w2_10 {S E L st d s1 s2 md : Nat} {im un tb : Int32} {x z xS zX : Nat → Int32} (h : HY S E L st d s1 s2 md 2 im un tb x z xS zX) {vt : Int32} (hvt : fX11_vlmax vt = nI (16 * E / S)) (sat : Int32) (c : Int64) (rf re r8 rg : Int32) (rl : Int64) : WK S E L st d s1 s2 md 2 (nI 10) im un tb x z xS zX vt sat c rf re r8 rg rl := by
  have e1 : fX11_works (nI st) (nI d) (nI s1) (nI s2) 2 (nI 10) (nI S) (nI E) un = fX11_alike (nI d) (nI s1) (nI s2) 2 (nI S) (nI E) un := by
    simp (decide := true) only [fX11_works, fX11_mixed, pX11_mixed_299_S1, pX11_mixed_319_S1, pX11_mixed_339_S1, pX11_mixed_359_S1, pX11_mixed_380_S1, pX11_mixed_401_S1, pX11_mixed_422_S1, pX11_mixed_443_S1, pX11_mixed_489_S1, pX11_mixed_507_S1, pX11_mixed_523_S1, pX11_mixed_540_S1, pX11_mixed_613_S1, pX11_mixed_630_S1, pX11_mixed_651_S1, pX11_mixed_859_S1, if_true, if_false]
  have e2 : fX11_works__zV c (nI L) vt (nI st) (nI md) sat (nI d) (nI s1) (nI s2) 2 (nI 10) (nI S) (nI E) un zX z z = fX11_alike__zV c (nI L) vt (nI st) (nI md) sat (nI d) (nI s1) (nI s2) 2 (nI S) (nI E) un zX z z 22 := by
    simp (decide := true) only [fX11_works__zV, fX11_mixed__zV, pX11_mixed_299_zV, pX11_mixed_319_zV, pX11_mixed_339_zV, pX11_mixed_359_zV, pX11_mixed_380_zV, pX11_mixed_401_zV, pX11_mixed_422_zV, pX11_mixed_443_zV, pX11_mixed_489_zV, pX11_mixed_507_zV, pX11_mixed_523_zV, pX11_mixed_540_zV, pX11_mixed_613_zV, pX11_mixed_630_zV, pX11_mixed_651_zV, pX11_mixed_859_zV, if_true, if_false]
  have e3 : fX11_works__m_vxsat c (nI L) vt (nI st) (nI md) sat (nI d) (nI s1) (nI s2) 2 (nI 10) (nI S) (nI E) un zX z z = fX11_alike__m_vxsat c (nI L) vt (nI st) (nI md) sat (nI d) (nI s1) (nI s2) 2 (nI S) (nI E) un zX z z 22 := by
    simp (decide := true) only [fX11_works__m_vxsat, fX11_mixed__m_vxsat, pX11_mixed_299_m_vxsat, pX11_mixed_319_m_vxsat, pX11_mixed_339_m_vxsat, pX11_mixed_359_m_vxsat, pX11_mixed_380_m_vxsat, pX11_mixed_401_m_vxsat, pX11_mixed_422_m_vxsat, pX11_mixed_443_m_vxsat, if_true, if_false]
  have e4 : fX11_works__zX (nI L) (nI st) (nI d) (nI s1) (nI s2) 2 (nI 10) (nI S) un zX z = zX := by
    simp (decide := true) only [fX11_works__zX, fX11_mixed__zX, pX11_mixed_523_zX, if_true, if_false]
  unfold WK
  rw [e1, e2, e3, e4]
  exact alike_WO h (by decide) (by rw [kd_plain (by decide) (by decide) (show _ = (1 : Int32) by decide), mb_free (by decide)]) vt sat c _ rf re r8 rg rl
theorem w2_11 {S E L st d s1 s2 md : Nat} {im un tb : Int32} {x z xS zX : Nat → Int32} (h : HY S E L st d s1 s2 md 2 im un tb x z xS zX) {vt : Int32} (hvt : fX11_vlmax vt = nI (16 * E / S)) (sat : Int32) (c : Int64) (rf re r8 rg : Int32) (rl : Int64) : WK S E L st d s1 s2 md 2 (nI 11) im un tb x z xS zX vt sat c rf re r8 rg rl := by
  have e1 : fX11_works (nI st) (nI d) (nI s1) (nI s2) 2 (nI 11) (nI S) (nI E) un = fX11_alike (nI d) (nI s1) (nI s2) 2 (nI S) (nI E) un := by
    simp (decide := true) only [fX11_works, fX11_mixed, pX11_mixed_299_S1, pX11_mixed_319_S1, pX11_mixed_339_S1, pX11_mixed_359_S1, pX11_mixed_380_S1, pX11_mixed_401_S1, pX11_mixed_422_S1, pX11_mixed_443_S1, pX11_mixed_489_S1, pX11_mixed_507_S1, pX11_mixed_523_S1, pX11_mixed_540_S1, pX11_mixed_613_S1, pX11_mixed_630_S1, pX11_mixed_651_S1, pX11_mixed_859_S1, if_true, if_false]
  have e2 : fX11_works__zV c (nI L) vt (nI st) (nI md) sat (nI d) (nI s1) (nI s2) 2 (nI 11) (nI S) (nI E) un zX z z = fX11_alike__zV c (nI L) vt (nI st) (nI md) sat (nI d) (nI s1) (nI s2) 2 (nI S) (nI E) un zX z z 23 := by
    simp (decide := true) only [fX11_works__zV, fX11_mixed__zV, pX11_mixed_299_zV, pX11_mixed_319_zV, pX11_mixed_339_zV, pX11_mixed_359_zV, pX11_mixed_380_zV, pX11_mixed_401_zV, pX11_mixed_422_zV, pX11_mixed_443_zV, pX11_mixed_489_zV, pX11_mixed_507_zV, pX11_mixed_523_zV, pX11_mixed_540_zV, pX11_mixed_613_zV, pX11_mixed_630_zV, pX11_mixed_651_zV, pX11_mixed_859_zV, if_true, if_false]
  have e3 : fX11_works__m_vxsat c (nI L) vt (nI st) (nI md) sat (nI d) (nI s1) (nI s2) 2 (nI 11) (nI S) (nI E) un zX z z = fX11_alike__m_vxsat c (nI L) vt (nI st) (nI md) sat (nI d) (nI s1) (nI s2) 2 (nI S) (nI E) un zX z z 23 := by
    simp (decide := true) only [fX11_works__m_vxsat, fX11_mixed__m_vxsat, pX11_mixed_299_m_vxsat, pX11_mixed_319_m_vxsat, pX11_mixed_339_m_vxsat, pX11_mixed_359_m_vxsat, pX11_mixed_380_m_vxsat, pX11_mixed_401_m_vxsat, pX11_mixed_422_m_vxsat, pX11_mixed_443_m_vxsat, if_true, if_false]
  have e4 : fX11_works__zX (nI L) (nI st) (nI d) (nI s1) (nI s2) 2 (nI 11) (nI S) un zX z = zX := by
    simp (decide := true) only [fX11_works__zX, fX11_mixed__zX, pX11_mixed_523_zX, if_true, if_false]
  unfold WK
  rw [e1, e2, e3, e4]
  exact alike_WO h (by decide) (by rw [kd_plain (by decide) (by decide) (show _ = (1 : Int32) by decide), mb_free (by decide)]) vt sat c _ rf re r8 rg rl
theorem w2_12 {S E L st d s1 s2 md : Nat} {im un tb : Int32} {x z xS zX : Nat → Int32} (h : HY S E L st d s1 s2 md 2 im un tb x z xS zX) {vt : Int32} (hvt : fX11_vlmax vt = nI (16 * E / S)) (sat : Int32) (c : Int64) (rf re r8 rg : Int32) (rl : Int64) : WK S E L st d s1 s2 md 2 (nI 12) im un tb x z xS zX vt sat c rf re r8 rg rl := by
  have e1 : fX11_works (nI st) (nI d) (nI s1) (nI s2) 2 (nI 12) (nI S) (nI E) un = 0 := by
    simp (decide := true) only [fX11_works, fX11_mixed, pX11_mixed_299_S1, pX11_mixed_319_S1, pX11_mixed_339_S1, pX11_mixed_359_S1, pX11_mixed_380_S1, pX11_mixed_401_S1, pX11_mixed_422_S1, pX11_mixed_443_S1, pX11_mixed_489_S1, pX11_mixed_507_S1, pX11_mixed_523_S1, pX11_mixed_540_S1, pX11_mixed_613_S1, pX11_mixed_630_S1, pX11_mixed_651_S1, pX11_mixed_859_S1, if_true, if_false]
  have e2 : fX11_works__zV c (nI L) vt (nI st) (nI md) sat (nI d) (nI s1) (nI s2) 2 (nI 12) (nI S) (nI E) un zX z z = z := by
    simp (decide := true) only [fX11_works__zV, fX11_mixed__zV, pX11_mixed_299_zV, pX11_mixed_319_zV, pX11_mixed_339_zV, pX11_mixed_359_zV, pX11_mixed_380_zV, pX11_mixed_401_zV, pX11_mixed_422_zV, pX11_mixed_443_zV, pX11_mixed_489_zV, pX11_mixed_507_zV, pX11_mixed_523_zV, pX11_mixed_540_zV, pX11_mixed_613_zV, pX11_mixed_630_zV, pX11_mixed_651_zV, pX11_mixed_859_zV, if_true, if_false]
  have e3 : fX11_works__m_vxsat c (nI L) vt (nI st) (nI md) sat (nI d) (nI s1) (nI s2) 2 (nI 12) (nI S) (nI E) un zX z z = sat := by
    simp (decide := true) only [fX11_works__m_vxsat, fX11_mixed__m_vxsat, pX11_mixed_299_m_vxsat, pX11_mixed_319_m_vxsat, pX11_mixed_339_m_vxsat, pX11_mixed_359_m_vxsat, pX11_mixed_380_m_vxsat, pX11_mixed_401_m_vxsat, pX11_mixed_422_m_vxsat, pX11_mixed_443_m_vxsat, if_true, if_false]
  have e4 : fX11_works__zX (nI L) (nI st) (nI d) (nI s1) (nI s2) 2 (nI 12) (nI S) un zX z = zX := by
    simp (decide := true) only [fX11_works__zX, fX11_mixed__zX, pX11_mixed_523_zX, if_true, if_false]
  unfold WK
  rw [e1, e2, e3, e4]
  exact ill_WO h (kd_none (by decide)) vt sat c _ rf re r8 rg rl
theorem w2_13 {S E L st d s1 s2 md : Nat} {im un tb : Int32} {x z xS zX : Nat → Int32} (h : HY S E L st d s1 s2 md 2 im un tb x z xS zX) {vt : Int32} (hvt : fX11_vlmax vt = nI (16 * E / S)) (sat : Int32) (c : Int64) (rf re r8 rg : Int32) (rl : Int64) : WK S E L st d s1 s2 md 2 (nI 13) im un tb x z xS zX vt sat c rf re r8 rg rl := by
  have e1 : fX11_works (nI st) (nI d) (nI s1) (nI s2) 2 (nI 13) (nI S) (nI E) un = 0 := by
    simp (decide := true) only [fX11_works, fX11_mixed, pX11_mixed_299_S1, pX11_mixed_319_S1, pX11_mixed_339_S1, pX11_mixed_359_S1, pX11_mixed_380_S1, pX11_mixed_401_S1, pX11_mixed_422_S1, pX11_mixed_443_S1, pX11_mixed_489_S1, pX11_mixed_507_S1, pX11_mixed_523_S1, pX11_mixed_540_S1, pX11_mixed_613_S1, pX11_mixed_630_S1, pX11_mixed_651_S1, pX11_mixed_859_S1, if_true, if_false]
  have e2 : fX11_works__zV c (nI L) vt (nI st) (nI md) sat (nI d) (nI s1) (nI s2) 2 (nI 13) (nI S) (nI E) un zX z z = z := by
    simp (decide := true) only [fX11_works__zV, fX11_mixed__zV, pX11_mixed_299_zV, pX11_mixed_319_zV, pX11_mixed_339_zV, pX11_mixed_359_zV, pX11_mixed_380_zV, pX11_mixed_401_zV, pX11_mixed_422_zV, pX11_mixed_443_zV, pX11_mixed_489_zV, pX11_mixed_507_zV, pX11_mixed_523_zV, pX11_mixed_540_zV, pX11_mixed_613_zV, pX11_mixed_630_zV, pX11_mixed_651_zV, pX11_mixed_859_zV, if_true, if_false]
  have e3 : fX11_works__m_vxsat c (nI L) vt (nI st) (nI md) sat (nI d) (nI s1) (nI s2) 2 (nI 13) (nI S) (nI E) un zX z z = sat := by
    simp (decide := true) only [fX11_works__m_vxsat, fX11_mixed__m_vxsat, pX11_mixed_299_m_vxsat, pX11_mixed_319_m_vxsat, pX11_mixed_339_m_vxsat, pX11_mixed_359_m_vxsat, pX11_mixed_380_m_vxsat, pX11_mixed_401_m_vxsat, pX11_mixed_422_m_vxsat, pX11_mixed_443_m_vxsat, if_true, if_false]
  have e4 : fX11_works__zX (nI L) (nI st) (nI d) (nI s1) (nI s2) 2 (nI 13) (nI S) un zX z = zX := by
    simp (decide := true) only [fX11_works__zX, fX11_mixed__zX, pX11_mixed_523_zX, if_true, if_false]
  unfold WK
  rw [e1, e2, e3, e4]
  exact ill_WO h (kd_none (by decide)) vt sat c _ rf re r8 rg rl
theorem w2_14 {S E L st d s1 s2 md : Nat} {im un tb : Int32} {x z xS zX : Nat → Int32} (h : HY S E L st d s1 s2 md 2 im un tb x z xS zX) {vt : Int32} (hvt : fX11_vlmax vt = nI (16 * E / S)) (sat : Int32) (c : Int64) (rf re r8 rg : Int32) (rl : Int64) : WK S E L st d s1 s2 md 2 (nI 14) im un tb x z xS zX vt sat c rf re r8 rg rl := by
  have e1 : fX11_works (nI st) (nI d) (nI s1) (nI s2) 2 (nI 14) (nI S) (nI E) un = 0 := by
    simp (decide := true) only [fX11_works, fX11_mixed, pX11_mixed_299_S1, pX11_mixed_319_S1, pX11_mixed_339_S1, pX11_mixed_359_S1, pX11_mixed_380_S1, pX11_mixed_401_S1, pX11_mixed_422_S1, pX11_mixed_443_S1, pX11_mixed_489_S1, pX11_mixed_507_S1, pX11_mixed_523_S1, pX11_mixed_540_S1, pX11_mixed_613_S1, pX11_mixed_630_S1, pX11_mixed_651_S1, pX11_mixed_859_S1, if_true, if_false]
  have e2 : fX11_works__zV c (nI L) vt (nI st) (nI md) sat (nI d) (nI s1) (nI s2) 2 (nI 14) (nI S) (nI E) un zX z z = z := by
    simp (decide := true) only [fX11_works__zV, fX11_mixed__zV, pX11_mixed_299_zV, pX11_mixed_319_zV, pX11_mixed_339_zV, pX11_mixed_359_zV, pX11_mixed_380_zV, pX11_mixed_401_zV, pX11_mixed_422_zV, pX11_mixed_443_zV, pX11_mixed_489_zV, pX11_mixed_507_zV, pX11_mixed_523_zV, pX11_mixed_540_zV, pX11_mixed_613_zV, pX11_mixed_630_zV, pX11_mixed_651_zV, pX11_mixed_859_zV, if_true, if_false]
  have e3 : fX11_works__m_vxsat c (nI L) vt (nI st) (nI md) sat (nI d) (nI s1) (nI s2) 2 (nI 14) (nI S) (nI E) un zX z z = sat := by
    simp (decide := true) only [fX11_works__m_vxsat, fX11_mixed__m_vxsat, pX11_mixed_299_m_vxsat, pX11_mixed_319_m_vxsat, pX11_mixed_339_m_vxsat, pX11_mixed_359_m_vxsat, pX11_mixed_380_m_vxsat, pX11_mixed_401_m_vxsat, pX11_mixed_422_m_vxsat, pX11_mixed_443_m_vxsat, if_true, if_false]
  have e4 : fX11_works__zX (nI L) (nI st) (nI d) (nI s1) (nI s2) 2 (nI 14) (nI S) un zX z = zX := by
    simp (decide := true) only [fX11_works__zX, fX11_mixed__zX, pX11_mixed_523_zX, if_true, if_false]
  unfold WK
  rw [e1, e2, e3, e4]
  exact ill_WO h (kd_none (by decide)) vt sat c _ rf re r8 rg rl
theorem w2_15 {S E L st d s1 s2 md : Nat} {im un tb : Int32} {x z xS zX : Nat → Int32} (h : HY S E L st d s1 s2 md 2 im un tb x z xS zX) {vt : Int32} (hvt : fX11_vlmax vt = nI (16 * E / S)) (sat : Int32) (c : Int64) (rf re r8 rg : Int32) (rl : Int64) : WK S E L st d s1 s2 md 2 (nI 15) im un tb x z xS zX vt sat c rf re r8 rg rl := by
  have e1 : fX11_works (nI st) (nI d) (nI s1) (nI s2) 2 (nI 15) (nI S) (nI E) un = 0 := by
    simp (decide := true) only [fX11_works, fX11_mixed, pX11_mixed_299_S1, pX11_mixed_319_S1, pX11_mixed_339_S1, pX11_mixed_359_S1, pX11_mixed_380_S1, pX11_mixed_401_S1, pX11_mixed_422_S1, pX11_mixed_443_S1, pX11_mixed_489_S1, pX11_mixed_507_S1, pX11_mixed_523_S1, pX11_mixed_540_S1, pX11_mixed_613_S1, pX11_mixed_630_S1, pX11_mixed_651_S1, pX11_mixed_859_S1, if_true, if_false]
  have e2 : fX11_works__zV c (nI L) vt (nI st) (nI md) sat (nI d) (nI s1) (nI s2) 2 (nI 15) (nI S) (nI E) un zX z z = z := by
    simp (decide := true) only [fX11_works__zV, fX11_mixed__zV, pX11_mixed_299_zV, pX11_mixed_319_zV, pX11_mixed_339_zV, pX11_mixed_359_zV, pX11_mixed_380_zV, pX11_mixed_401_zV, pX11_mixed_422_zV, pX11_mixed_443_zV, pX11_mixed_489_zV, pX11_mixed_507_zV, pX11_mixed_523_zV, pX11_mixed_540_zV, pX11_mixed_613_zV, pX11_mixed_630_zV, pX11_mixed_651_zV, pX11_mixed_859_zV, if_true, if_false]
  have e3 : fX11_works__m_vxsat c (nI L) vt (nI st) (nI md) sat (nI d) (nI s1) (nI s2) 2 (nI 15) (nI S) (nI E) un zX z z = sat := by
    simp (decide := true) only [fX11_works__m_vxsat, fX11_mixed__m_vxsat, pX11_mixed_299_m_vxsat, pX11_mixed_319_m_vxsat, pX11_mixed_339_m_vxsat, pX11_mixed_359_m_vxsat, pX11_mixed_380_m_vxsat, pX11_mixed_401_m_vxsat, pX11_mixed_422_m_vxsat, pX11_mixed_443_m_vxsat, if_true, if_false]
  have e4 : fX11_works__zX (nI L) (nI st) (nI d) (nI s1) (nI s2) 2 (nI 15) (nI S) un zX z = zX := by
    simp (decide := true) only [fX11_works__zX, fX11_mixed__zX, pX11_mixed_523_zX, if_true, if_false]
  unfold WK
  rw [e1, e2, e3, e4]
  exact ill_WO h (kd_none (by decide)) vt sat c _ rf re r8 rg rl
theorem w2_16 {S E L st d s1 s2 md : Nat} {im un tb : Int32} {x z xS zX : Nat → Int32} (h : HY S E L st d s1 s2 md 2 im un tb x z xS zX) {vt : Int32} (hvt : fX11_vlmax vt = nI (16 * E / S)) (sat : Int32) (c : Int64) (rf re r8 rg : Int32) (rl : Int64) : WK S E L st d s1 s2 md 2 (nI 16) im un tb x z xS zX vt sat c rf re r8 rg rl := by
  have e1 : fX11_works (nI st) (nI d) (nI s1) (nI s2) 2 (nI 16) (nI S) (nI E) un = fX11_toX (nI st) (nI s1) un := by
    simp (decide := true) only [fX11_works, fX11_mixed, pX11_mixed_299_S1, pX11_mixed_319_S1, pX11_mixed_339_S1, pX11_mixed_359_S1, pX11_mixed_380_S1, pX11_mixed_401_S1, pX11_mixed_422_S1, pX11_mixed_443_S1, pX11_mixed_489_S1, pX11_mixed_507_S1, pX11_mixed_523_S1, pX11_mixed_540_S1, pX11_mixed_613_S1, pX11_mixed_630_S1, pX11_mixed_651_S1, pX11_mixed_859_S1, if_true, if_false]
  have e2 : fX11_works__zV c (nI L) vt (nI st) (nI md) sat (nI d) (nI s1) (nI s2) 2 (nI 16) (nI S) (nI E) un zX z z = z := by
    simp (decide := true) only [fX11_works__zV, fX11_mixed__zV, pX11_mixed_299_zV, pX11_mixed_319_zV, pX11_mixed_339_zV, pX11_mixed_359_zV, pX11_mixed_380_zV, pX11_mixed_401_zV, pX11_mixed_422_zV, pX11_mixed_443_zV, pX11_mixed_489_zV, pX11_mixed_507_zV, pX11_mixed_523_zV, pX11_mixed_540_zV, pX11_mixed_613_zV, pX11_mixed_630_zV, pX11_mixed_651_zV, pX11_mixed_859_zV, if_true, if_false]
  have e3 : fX11_works__m_vxsat c (nI L) vt (nI st) (nI md) sat (nI d) (nI s1) (nI s2) 2 (nI 16) (nI S) (nI E) un zX z z = sat := by
    simp (decide := true) only [fX11_works__m_vxsat, fX11_mixed__m_vxsat, pX11_mixed_299_m_vxsat, pX11_mixed_319_m_vxsat, pX11_mixed_339_m_vxsat, pX11_mixed_359_m_vxsat, pX11_mixed_380_m_vxsat, pX11_mixed_401_m_vxsat, pX11_mixed_422_m_vxsat, pX11_mixed_443_m_vxsat, if_true, if_false]
  have e4 : fX11_works__zX (nI L) (nI st) (nI d) (nI s1) (nI s2) 2 (nI 16) (nI S) un zX z = fX11_toX__zX (nI L) (nI st) (nI d) (nI s1) (nI s2) (nI S) un zX z := by
    simp (decide := true) only [fX11_works__zX, fX11_mixed__zX, pX11_mixed_523_zX, if_true, if_false]
  unfold WK
  rw [e1, e2, e3, e4]
  have hmu := h.2.2.2.2.2.2.2.2.2.2.2.2.1
  have h1 : s1 < 32 := h.2.2.2.2.2.1
  have hr : fX1_refined 2 (nI s1) (nI s2) (nI 16) (fX1_entryOf (fX3_operation 2 (nI 16)) &&& 31) = fX1_intoScalar (nI s1) := by
    unfold fX1_refined; rw [if_neg (by decide), if_neg (by decide), if_pos (by decide)]; unfold pX1_refined_119_S1; rw [if_neg (by decide)]
  have hkd := kd_ref (im := im) (by decide) hr
  by_cases a0 : s1 = 0
  · have e0 : nI s1 = 0 := by rw [a0]; decide
    have hs : fX1_intoScalar (nI s1) = 17 := by rw [e0]; decide
    rw [hs] at hkd
    by_cases u0 : un = 0
    · have hi : ¬ im = 0 := fun w => hmu.mp w u0
      rw [if_pos ((mb_u (by decide) _ _).mpr hi)] at hkd
      have f1 : fX11_toX (nI st) (nI s1) un = 0 := by unfold fX11_toX; rw [if_pos e0, if_pos u0]
      have f2 : fX11_toX__zX (nI L) (nI st) (nI d) (nI s1) (nI s2) (nI S) un zX z = zX := by unfold fX11_toX__zX; rw [if_pos e0, if_pos u0]
      rw [f1, f2]
      exact ill_WO h hkd vt sat c _ rf re r8 rg rl
    · rw [if_neg (fun w => (mb_u (by decide) _ _).mp w (hmu.mpr u0))] at hkd
      exact read_WO h u0 a0 hkd vt sat c _ rf re r8 rg rl
  · by_cases a1 : s1 = 16 ∨ s1 = 17
    · have hs : fX1_intoScalar (nI s1) = 13 := by rcases a1 with e | e <;> rw [e] <;> decide
      rw [hs, mb_free (by decide)] at hkd
      exact count_WO h a1 hkd vt sat c _ rf re r8 rg rl
    · have hw : ∀ s, s < 32 → ¬ s = 0 → ¬ (s = 16 ∨ s = 17) → fX1_intoScalar (nI s) = 0 ∧ ¬ nI s = 0 ∧ ¬ nI s = 16 ∧ ¬ nI s = 17 := by decide +kernel
      obtain ⟨hs, n0, n16, n17⟩ := hw s1 h1 a0 a1
      rw [hs, ite_self] at hkd
      have f1 : fX11_toX (nI st) (nI s1) un = 0 := by unfold fX11_toX; rw [if_neg n0, if_neg n16, if_neg n17]
      have f2 : fX11_toX__zX (nI L) (nI st) (nI d) (nI s1) (nI s2) (nI S) un zX z = zX := by unfold fX11_toX__zX; rw [if_neg n0, if_neg n16, if_neg n17]
      rw [f1, f2]
      exact ill_WO h hkd vt sat c _ rf re r8 rg rl
theorem w2_17 {S E L st d s1 s2 md : Nat} {im un tb : Int32} {x z xS zX : Nat → Int32} (h : HY S E L st d s1 s2 md 2 im un tb x z xS zX) {vt : Int32} (hvt : fX11_vlmax vt = nI (16 * E / S)) (sat : Int32) (c : Int64) (rf re r8 rg : Int32) (rl : Int64) : WK S E L st d s1 s2 md 2 (nI 17) im un tb x z xS zX vt sat c rf re r8 rg rl := by
  have e1 : fX11_works (nI st) (nI d) (nI s1) (nI s2) 2 (nI 17) (nI S) (nI E) un = 0 := by
    simp (decide := true) only [fX11_works, fX11_mixed, pX11_mixed_299_S1, pX11_mixed_319_S1, pX11_mixed_339_S1, pX11_mixed_359_S1, pX11_mixed_380_S1, pX11_mixed_401_S1, pX11_mixed_422_S1, pX11_mixed_443_S1, pX11_mixed_489_S1, pX11_mixed_507_S1, pX11_mixed_523_S1, pX11_mixed_540_S1, pX11_mixed_613_S1, pX11_mixed_630_S1, pX11_mixed_651_S1, pX11_mixed_859_S1, if_true, if_false]
  have e2 : fX11_works__zV c (nI L) vt (nI st) (nI md) sat (nI d) (nI s1) (nI s2) 2 (nI 17) (nI S) (nI E) un zX z z = z := by
    simp (decide := true) only [fX11_works__zV, fX11_mixed__zV, pX11_mixed_299_zV, pX11_mixed_319_zV, pX11_mixed_339_zV, pX11_mixed_359_zV, pX11_mixed_380_zV, pX11_mixed_401_zV, pX11_mixed_422_zV, pX11_mixed_443_zV, pX11_mixed_489_zV, pX11_mixed_507_zV, pX11_mixed_523_zV, pX11_mixed_540_zV, pX11_mixed_613_zV, pX11_mixed_630_zV, pX11_mixed_651_zV, pX11_mixed_859_zV, if_true, if_false]
  have e3 : fX11_works__m_vxsat c (nI L) vt (nI st) (nI md) sat (nI d) (nI s1) (nI s2) 2 (nI 17) (nI S) (nI E) un zX z z = sat := by
    simp (decide := true) only [fX11_works__m_vxsat, fX11_mixed__m_vxsat, pX11_mixed_299_m_vxsat, pX11_mixed_319_m_vxsat, pX11_mixed_339_m_vxsat, pX11_mixed_359_m_vxsat, pX11_mixed_380_m_vxsat, pX11_mixed_401_m_vxsat, pX11_mixed_422_m_vxsat, pX11_mixed_443_m_vxsat, if_true, if_false]
  have e4 : fX11_works__zX (nI L) (nI st) (nI d) (nI s1) (nI s2) 2 (nI 17) (nI S) un zX z = zX := by
    simp (decide := true) only [fX11_works__zX, fX11_mixed__zX, pX11_mixed_523_zX, if_true, if_false]
  unfold WK
  rw [e1, e2, e3, e4]
  exact ill_WO h (kd_none (by decide)) vt sat c _ rf re r8 rg rl
theorem w2_18 {S E L st d s1 s2 md : Nat} {im un tb : Int32} {x z xS zX : Nat → Int32} (h : HY S E L st d s1 s2 md 2 im un tb x z xS zX) {vt : Int32} (hvt : fX11_vlmax vt = nI (16 * E / S)) (sat : Int32) (c : Int64) (rf re r8 rg : Int32) (rl : Int64) : WK S E L st d s1 s2 md 2 (nI 18) im un tb x z xS zX vt sat c rf re r8 rg rl := by
  have e1 : fX11_works (nI st) (nI d) (nI s1) (nI s2) 2 (nI 18) (nI S) (nI E) un = (if fX11_extends1 (nI d) (nI s1) (nI s2) (nI S) (nI E) un = 0 then (0 : Int32) else 1) := by
    simp (decide := true) only [fX11_works, fX11_mixed, pX11_mixed_299_S1, pX11_mixed_319_S1, pX11_mixed_339_S1, pX11_mixed_359_S1, pX11_mixed_380_S1, pX11_mixed_401_S1, pX11_mixed_422_S1, pX11_mixed_443_S1, pX11_mixed_489_S1, pX11_mixed_507_S1, pX11_mixed_523_S1, pX11_mixed_540_S1, pX11_mixed_613_S1, pX11_mixed_630_S1, pX11_mixed_651_S1, pX11_mixed_859_S1, if_true, if_false]
  have e2 : fX11_works__zV c (nI L) vt (nI st) (nI md) sat (nI d) (nI s1) (nI s2) 2 (nI 18) (nI S) (nI E) un zX z z = fX11_extends1__zV c (nI L) vt (nI st) (nI d) (nI s1) (nI s2) (nI S) (nI E) un z z := by
    simp (decide := true) only [fX11_works__zV, fX11_mixed__zV, pX11_mixed_299_zV, pX11_mixed_319_zV, pX11_mixed_339_zV, pX11_mixed_359_zV, pX11_mixed_380_zV, pX11_mixed_401_zV, pX11_mixed_422_zV, pX11_mixed_443_zV, pX11_mixed_489_zV, pX11_mixed_507_zV, pX11_mixed_523_zV, pX11_mixed_540_zV, pX11_mixed_613_zV, pX11_mixed_630_zV, pX11_mixed_651_zV, pX11_mixed_859_zV, if_true, if_false]
  have e3 : fX11_works__m_vxsat c (nI L) vt (nI st) (nI md) sat (nI d) (nI s1) (nI s2) 2 (nI 18) (nI S) (nI E) un zX z z = sat := by
    simp (decide := true) only [fX11_works__m_vxsat, fX11_mixed__m_vxsat, pX11_mixed_299_m_vxsat, pX11_mixed_319_m_vxsat, pX11_mixed_339_m_vxsat, pX11_mixed_359_m_vxsat, pX11_mixed_380_m_vxsat, pX11_mixed_401_m_vxsat, pX11_mixed_422_m_vxsat, pX11_mixed_443_m_vxsat, if_true, if_false]
  have e4 : fX11_works__zX (nI L) (nI st) (nI d) (nI s1) (nI s2) 2 (nI 18) (nI S) un zX z = zX := by
    simp (decide := true) only [fX11_works__zX, fX11_mixed__zX, pX11_mixed_523_zX, if_true, if_false]
  unfold WK
  rw [e1, e2, e3, e4]
  refine WO_b ?_
  have h1 : s1 < 32 := h.2.2.2.2.2.1
  have hr : fX1_refined 2 (nI s1) (nI s2) (nI 18) (fX1_entryOf (fX3_operation 2 (nI 18)) &&& 31) = pX1_refined_142_S1 (nI s1) 9 := by
    unfold fX1_refined; rw [if_neg (by decide), if_neg (by decide), if_neg (by decide), if_pos (by decide), show (fX1_entryOf (fX3_operation 2 (nI 18)) &&& 31) = 9 by decide]
  have hkd := kd_ref (im := im) (by decide) hr
  by_cases a1 : s1 = 4 ∨ s1 = 5 ∨ s1 = 6 ∨ s1 = 7
  · have hs : pX1_refined_142_S1 (nI s1) 9 = 9 := by rcases a1 with e | e | e | e <;> rw [e] <;> decide
    rw [hs, mb_free (by decide)] at hkd
    exact extends_WO h a1 hkd vt sat c _ rf re r8 rg rl
  · have hw : ∀ s, s < 32 → ¬ (s = 4 ∨ s = 5 ∨ s = 6 ∨ s = 7) → pX1_refined_142_S1 (nI s) 9 = 0 ∧ pX11_extends1_43_S1 (nI s) = 0 := by decide +kernel
    obtain ⟨hs, hb⟩ := hw s1 h1 a1
    rw [hs, ite_self] at hkd
    have f1 : fX11_extends1 (nI d) (nI s1) (nI s2) (nI S) (nI E) un = 0 := by unfold fX11_extends1; rw [if_pos hb]
    have f2 : fX11_extends1__zV c (nI L) vt (nI st) (nI d) (nI s1) (nI s2) (nI S) (nI E) un z z = z := by unfold fX11_extends1__zV; rw [if_pos hb]
    rw [f1, f2]
    exact ill_WO h hkd vt sat c _ rf re r8 rg rl
theorem w2_19 {S E L st d s1 s2 md : Nat} {im un tb : Int32} {x z xS zX : Nat → Int32} (h : HY S E L st d s1 s2 md 2 im un tb x z xS zX) {vt : Int32} (hvt : fX11_vlmax vt = nI (16 * E / S)) (sat : Int32) (c : Int64) (rf re r8 rg : Int32) (rl : Int64) : WK S E L st d s1 s2 md 2 (nI 19) im un tb x z xS zX vt sat c rf re r8 rg rl := by
  have e1 : fX11_works (nI st) (nI d) (nI s1) (nI s2) 2 (nI 19) (nI S) (nI E) un = 0 := by
    simp (decide := true) only [fX11_works, fX11_mixed, pX11_mixed_299_S1, pX11_mixed_319_S1, pX11_mixed_339_S1, pX11_mixed_359_S1, pX11_mixed_380_S1, pX11_mixed_401_S1, pX11_mixed_422_S1, pX11_mixed_443_S1, pX11_mixed_489_S1, pX11_mixed_507_S1, pX11_mixed_523_S1, pX11_mixed_540_S1, pX11_mixed_613_S1, pX11_mixed_630_S1, pX11_mixed_651_S1, pX11_mixed_859_S1, if_true, if_false]
  have e2 : fX11_works__zV c (nI L) vt (nI st) (nI md) sat (nI d) (nI s1) (nI s2) 2 (nI 19) (nI S) (nI E) un zX z z = z := by
    simp (decide := true) only [fX11_works__zV, fX11_mixed__zV, pX11_mixed_299_zV, pX11_mixed_319_zV, pX11_mixed_339_zV, pX11_mixed_359_zV, pX11_mixed_380_zV, pX11_mixed_401_zV, pX11_mixed_422_zV, pX11_mixed_443_zV, pX11_mixed_489_zV, pX11_mixed_507_zV, pX11_mixed_523_zV, pX11_mixed_540_zV, pX11_mixed_613_zV, pX11_mixed_630_zV, pX11_mixed_651_zV, pX11_mixed_859_zV, if_true, if_false]
  have e3 : fX11_works__m_vxsat c (nI L) vt (nI st) (nI md) sat (nI d) (nI s1) (nI s2) 2 (nI 19) (nI S) (nI E) un zX z z = sat := by
    simp (decide := true) only [fX11_works__m_vxsat, fX11_mixed__m_vxsat, pX11_mixed_299_m_vxsat, pX11_mixed_319_m_vxsat, pX11_mixed_339_m_vxsat, pX11_mixed_359_m_vxsat, pX11_mixed_380_m_vxsat, pX11_mixed_401_m_vxsat, pX11_mixed_422_m_vxsat, pX11_mixed_443_m_vxsat, if_true, if_false]
  have e4 : fX11_works__zX (nI L) (nI st) (nI d) (nI s1) (nI s2) 2 (nI 19) (nI S) un zX z = zX := by
    simp (decide := true) only [fX11_works__zX, fX11_mixed__zX, pX11_mixed_523_zX, if_true, if_false]
  unfold WK
  rw [e1, e2, e3, e4]
  exact ill_WO h (kd_none (by decide)) vt sat c _ rf re r8 rg rl
theorem w2_20 {S E L st d s1 s2 md : Nat} {im un tb : Int32} {x z xS zX : Nat → Int32} (h : HY S E L st d s1 s2 md 2 im un tb x z xS zX) {vt : Int32} (hvt : fX11_vlmax vt = nI (16 * E / S)) (sat : Int32) (c : Int64) (rf re r8 rg : Int32) (rl : Int64) : WK S E L st d s1 s2 md 2 (nI 20) im un tb x z xS zX vt sat c rf re r8 rg rl := by
  have h1 : s1 < 32 := h.2.2.2.2.2.1
  have h2 : s2 < 32 := h.2.2.2.2.2.2.1
  have e3 : fX11_works__m_vxsat c (nI L) vt (nI st) (nI md) sat (nI d) (nI s1) (nI s2) 2 (nI 20) (nI S) (nI E) un zX z z = sat := by
    simp (decide := true) only [fX11_works__m_vxsat, fX11_mixed__m_vxsat, pX11_mixed_299_m_vxsat, pX11_mixed_319_m_vxsat, pX11_mixed_339_m_vxsat, pX11_mixed_359_m_vxsat, pX11_mixed_380_m_vxsat, pX11_mixed_401_m_vxsat, pX11_mixed_422_m_vxsat, pX11_mixed_443_m_vxsat, if_true, if_false]
  have e4 : fX11_works__zX (nI L) (nI st) (nI d) (nI s1) (nI s2) 2 (nI 20) (nI S) un zX z = zX := by
    simp (decide := true) only [fX11_works__zX, fX11_mixed__zX, pX11_mixed_523_zX, if_true, if_false]
  have hr : fX1_refined 2 (nI s1) (nI s2) (nI 20) (fX1_entryOf (fX3_operation 2 (nI 20)) &&& 31) = fX1_fromMask (nI s1) (nI s2) := by
    unfold fX1_refined; rw [if_neg (by decide), if_neg (by decide), if_neg (by decide), if_neg (by decide), if_pos (by decide)]
  have hkd := kd_ref (im := im) (by decide) hr
  unfold WK
  by_cases a1 : s1 = 1
  · rw [show fX1_fromMask (nI s1) (nI s2) = 14 by rw [a1]; unfold fX1_fromMask; simp (decide := true) only [if_true, if_false], mb_free (by decide)] at hkd
    have e1 : fX11_works (nI st) (nI d) (nI s1) (nI s2) 2 (nI 20) (nI S) (nI E) un = fX11_firsts (nI st) (nI d) (nI s2) un := by
      simp (decide := true) only [fX11_works, fX11_mixed, pX11_mixed_299_S1, pX11_mixed_319_S1, pX11_mixed_339_S1, pX11_mixed_359_S1, pX11_mixed_380_S1, pX11_mixed_401_S1, pX11_mixed_422_S1, pX11_mixed_443_S1, pX11_mixed_489_S1, pX11_mixed_507_S1, pX11_mixed_523_S1, pX11_mixed_540_S1, pX11_mixed_613_S1, pX11_mixed_630_S1, pX11_mixed_651_S1, pX11_mixed_859_S1, if_pos (show nI s1 = 1 by rw [a1]; decide), if_true, if_false]
    have e2 : fX11_works__zV c (nI L) vt (nI st) (nI md) sat (nI d) (nI s1) (nI s2) 2 (nI 20) (nI S) (nI E) un zX z z = fX11_firsts__zV c (nI L) vt (nI st) (nI d) (nI s1) (nI s2) un z z := by
      simp (decide := true) only [fX11_works__zV, fX11_mixed__zV, pX11_mixed_299_zV, pX11_mixed_319_zV, pX11_mixed_339_zV, pX11_mixed_359_zV, pX11_mixed_380_zV, pX11_mixed_401_zV, pX11_mixed_422_zV, pX11_mixed_443_zV, pX11_mixed_489_zV, pX11_mixed_507_zV, pX11_mixed_523_zV, pX11_mixed_540_zV, pX11_mixed_613_zV, pX11_mixed_630_zV, pX11_mixed_651_zV, pX11_mixed_859_zV, if_pos (show nI s1 = 1 by rw [a1]; decide), if_true, if_false]
    rw [e1, e2, e3, e4]
    by_cases hz : st = 0
    · exact firsts_WO h (by omega) hz hkd vt sat c _ rf re r8 rg rl
    · exact firsts_Z h hz hkd vt sat c _ rf re r8 rg rl
  by_cases a2 : s1 = 2
  · rw [show fX1_fromMask (nI s1) (nI s2) = 14 by rw [a2]; unfold fX1_fromMask; simp (decide := true) only [if_true, if_false], mb_free (by decide)] at hkd
    have e1 : fX11_works (nI st) (nI d) (nI s1) (nI s2) 2 (nI 20) (nI S) (nI E) un = fX11_firsts (nI st) (nI d) (nI s2) un := by
      simp (decide := true) only [fX11_works, fX11_mixed, pX11_mixed_299_S1, pX11_mixed_319_S1, pX11_mixed_339_S1, pX11_mixed_359_S1, pX11_mixed_380_S1, pX11_mixed_401_S1, pX11_mixed_422_S1, pX11_mixed_443_S1, pX11_mixed_489_S1, pX11_mixed_507_S1, pX11_mixed_523_S1, pX11_mixed_540_S1, pX11_mixed_613_S1, pX11_mixed_630_S1, pX11_mixed_651_S1, pX11_mixed_859_S1, if_neg (show ¬ nI s1 = 1 by rw [a2]; decide), if_pos (show nI s1 = 2 by rw [a2]; decide), if_true, if_false]
    have e2 : fX11_works__zV c (nI L) vt (nI st) (nI md) sat (nI d) (nI s1) (nI s2) 2 (nI 20) (nI S) (nI E) un zX z z = fX11_firsts__zV c (nI L) vt (nI st) (nI d) (nI s1) (nI s2) un z z := by
      simp (decide := true) only [fX11_works__zV, fX11_mixed__zV, pX11_mixed_299_zV, pX11_mixed_319_zV, pX11_mixed_339_zV, pX11_mixed_359_zV, pX11_mixed_380_zV, pX11_mixed_401_zV, pX11_mixed_422_zV, pX11_mixed_443_zV, pX11_mixed_489_zV, pX11_mixed_507_zV, pX11_mixed_523_zV, pX11_mixed_540_zV, pX11_mixed_613_zV, pX11_mixed_630_zV, pX11_mixed_651_zV, pX11_mixed_859_zV, if_neg (show ¬ nI s1 = 1 by rw [a2]; decide), if_pos (show nI s1 = 2 by rw [a2]; decide), if_true, if_false]
    rw [e1, e2, e3, e4]
    by_cases hz : st = 0
    · exact firsts_WO h (by omega) hz hkd vt sat c _ rf re r8 rg rl
    · exact firsts_Z h hz hkd vt sat c _ rf re r8 rg rl
  by_cases a3 : s1 = 3
  · rw [show fX1_fromMask (nI s1) (nI s2) = 14 by rw [a3]; unfold fX1_fromMask; simp (decide := true) only [if_true, if_false], mb_free (by decide)] at hkd
    have e1 : fX11_works (nI st) (nI d) (nI s1) (nI s2) 2 (nI 20) (nI S) (nI E) un = fX11_firsts (nI st) (nI d) (nI s2) un := by
      simp (decide := true) only [fX11_works, fX11_mixed, pX11_mixed_299_S1, pX11_mixed_319_S1, pX11_mixed_339_S1, pX11_mixed_359_S1, pX11_mixed_380_S1, pX11_mixed_401_S1, pX11_mixed_422_S1, pX11_mixed_443_S1, pX11_mixed_489_S1, pX11_mixed_507_S1, pX11_mixed_523_S1, pX11_mixed_540_S1, pX11_mixed_613_S1, pX11_mixed_630_S1, pX11_mixed_651_S1, pX11_mixed_859_S1, if_neg (show ¬ nI s1 = 1 by rw [a3]; decide), if_neg (show ¬ nI s1 = 2 by rw [a3]; decide), if_pos (show nI s1 = 3 by rw [a3]; decide), if_true, if_false]
    have e2 : fX11_works__zV c (nI L) vt (nI st) (nI md) sat (nI d) (nI s1) (nI s2) 2 (nI 20) (nI S) (nI E) un zX z z = fX11_firsts__zV c (nI L) vt (nI st) (nI d) (nI s1) (nI s2) un z z := by
      simp (decide := true) only [fX11_works__zV, fX11_mixed__zV, pX11_mixed_299_zV, pX11_mixed_319_zV, pX11_mixed_339_zV, pX11_mixed_359_zV, pX11_mixed_380_zV, pX11_mixed_401_zV, pX11_mixed_422_zV, pX11_mixed_443_zV, pX11_mixed_489_zV, pX11_mixed_507_zV, pX11_mixed_523_zV, pX11_mixed_540_zV, pX11_mixed_613_zV, pX11_mixed_630_zV, pX11_mixed_651_zV, pX11_mixed_859_zV, if_neg (show ¬ nI s1 = 1 by rw [a3]; decide), if_neg (show ¬ nI s1 = 2 by rw [a3]; decide), if_pos (show nI s1 = 3 by rw [a3]; decide), if_true, if_false]
    rw [e1, e2, e3, e4]
    by_cases hz : st = 0
    · exact firsts_WO h (by omega) hz hkd vt sat c _ rf re r8 rg rl
    · exact firsts_Z h hz hkd vt sat c _ rf re r8 rg rl
  have n1 : ¬ nI s1 = 1 := fun e => a1 ((nI_eq (by omega) (by decide)).mp (e.trans (show (1 : Int32) = nI 1 by decide)))
  have n2 : ¬ nI s1 = 2 := fun e => a2 ((nI_eq (by omega) (by decide)).mp (e.trans (show (2 : Int32) = nI 2 by decide)))
  have n3 : ¬ nI s1 = 3 := fun e => a3 ((nI_eq (by omega) (by decide)).mp (e.trans (show (3 : Int32) = nI 3 by decide)))
  by_cases a16 : s1 = 16
  · have m16 : nI s1 = 16 := by rw [a16]; decide
    rw [show fX1_fromMask (nI s1) (nI s2) = 15 by rw [a16]; unfold fX1_fromMask; simp (decide := true) only [if_true, if_false], mb_free (by decide)] at hkd
    have e1 : fX11_works (nI st) (nI d) (nI s1) (nI s2) 2 (nI 20) (nI S) (nI E) un = fX11_counts (nI st) (nI d) (nI s2) (nI S) (nI E) un := by
      simp (decide := true) only [fX11_works, fX11_mixed, pX11_mixed_299_S1, pX11_mixed_319_S1, pX11_mixed_339_S1, pX11_mixed_359_S1, pX11_mixed_380_S1, pX11_mixed_401_S1, pX11_mixed_422_S1, pX11_mixed_443_S1, pX11_mixed_489_S1, pX11_mixed_507_S1, pX11_mixed_523_S1, pX11_mixed_540_S1, pX11_mixed_613_S1, pX11_mixed_630_S1, pX11_mixed_651_S1, pX11_mixed_859_S1, if_neg n1, if_neg n2, if_neg n3, if_pos m16, if_true, if_false]
    have e2 : fX11_works__zV c (nI L) vt (nI st) (nI md) sat (nI d) (nI s1) (nI s2) 2 (nI 20) (nI S) (nI E) un zX z z = fX11_counts__zV c (nI L) vt (nI st) (nI d) (nI s2) (nI S) (nI E) un z z := by
      simp (decide := true) only [fX11_works__zV, fX11_mixed__zV, pX11_mixed_299_zV, pX11_mixed_319_zV, pX11_mixed_339_zV, pX11_mixed_359_zV, pX11_mixed_380_zV, pX11_mixed_401_zV, pX11_mixed_422_zV, pX11_mixed_443_zV, pX11_mixed_489_zV, pX11_mixed_507_zV, pX11_mixed_523_zV, pX11_mixed_540_zV, pX11_mixed_613_zV, pX11_mixed_630_zV, pX11_mixed_651_zV, pX11_mixed_859_zV, if_neg n1, if_neg n2, if_neg n3, if_pos m16, if_true, if_false]
    rw [e1, e2, e3, e4]
    by_cases hz : st = 0
    · exact counts_WO h hz hkd vt sat c _ rf re r8 rg rl
    · exact counts_Z h hz hkd vt sat c _ rf re r8 rg rl
  have n16 : ¬ nI s1 = 16 := fun e => a16 ((nI_eq (by omega) (by decide)).mp (e.trans (show (16 : Int32) = nI 16 by decide)))
  by_cases a17 : s1 = 17
  · have m17 : nI s1 = 17 := by rw [a17]; decide
    rw [show fX1_fromMask (nI s1) (nI s2) = pX1_fromMask_74_S1 (nI s2) by rw [a17]; unfold fX1_fromMask; simp (decide := true) only [if_true, if_false]] at hkd
    have e1 : fX11_works (nI st) (nI d) (nI s1) (nI s2) 2 (nI 20) (nI S) (nI E) un = (if fX11_numbers (nI d) (nI s2) (nI S) (nI E) un = 0 then (0 : Int32) else 1) := by
      simp (decide := true) only [fX11_works, fX11_mixed, pX11_mixed_299_S1, pX11_mixed_319_S1, pX11_mixed_339_S1, pX11_mixed_359_S1, pX11_mixed_380_S1, pX11_mixed_401_S1, pX11_mixed_422_S1, pX11_mixed_443_S1, pX11_mixed_489_S1, pX11_mixed_507_S1, pX11_mixed_523_S1, pX11_mixed_540_S1, pX11_mixed_613_S1, pX11_mixed_630_S1, pX11_mixed_651_S1, pX11_mixed_859_S1, if_neg n1, if_neg n2, if_neg n3, if_neg n16, if_pos m17, if_true, if_false]
    have e2 : fX11_works__zV c (nI L) vt (nI st) (nI md) sat (nI d) (nI s1) (nI s2) 2 (nI 20) (nI S) (nI E) un zX z z = fX11_numbers__zV c (nI L) vt (nI st) (nI d) (nI s2) (nI S) (nI E) un z z := by
      simp (decide := true) only [fX11_works__zV, fX11_mixed__zV, pX11_mixed_299_zV, pX11_mixed_319_zV, pX11_mixed_339_zV, pX11_mixed_359_zV, pX11_mixed_380_zV, pX11_mixed_401_zV, pX11_mixed_422_zV, pX11_mixed_443_zV, pX11_mixed_489_zV, pX11_mixed_507_zV, pX11_mixed_523_zV, pX11_mixed_540_zV, pX11_mixed_613_zV, pX11_mixed_630_zV, pX11_mixed_651_zV, pX11_mixed_859_zV, if_neg n1, if_neg n2, if_neg n3, if_neg n16, if_pos m17, if_true, if_false]
    rw [e1, e2, e3, e4]
    refine WO_b ?_
    by_cases q : s2 = 0
    · rw [show pX1_fromMask_74_S1 (nI s2) = 16 by rw [q]; decide, mb_free (by decide)] at hkd
      exact numbers_WO h q hkd vt sat c _ rf re r8 rg rl
    · have e0 : ¬ nI s2 = 0 := nI_ne0 (by omega) (by omega)
      rw [show pX1_fromMask_74_S1 (nI s2) = 0 by unfold pX1_fromMask_74_S1; rw [if_neg e0], ite_self] at hkd
      have f1 : fX11_numbers (nI d) (nI s2) (nI S) (nI E) un = 0 := by unfold fX11_numbers; rw [if_neg e0]
      have f2 : fX11_numbers__zV c (nI L) vt (nI st) (nI d) (nI s2) (nI S) (nI E) un z z = z := by unfold fX11_numbers__zV; rw [if_neg e0]
      rw [f1, f2]
      exact ill_WO h hkd vt sat c _ rf re r8 rg rl
  have n17 : ¬ nI s1 = 17 := fun e => a17 ((nI_eq (by omega) (by decide)).mp (e.trans (show (17 : Int32) = nI 17 by decide)))
  · rw [show fX1_fromMask (nI s1) (nI s2) = 0 by unfold fX1_fromMask; rw [if_neg n1, if_neg n2, if_neg n3, if_neg n16, if_neg n17], ite_self] at hkd
    have e1 : fX11_works (nI st) (nI d) (nI s1) (nI s2) 2 (nI 20) (nI S) (nI E) un = 0 := by
      simp (decide := true) only [fX11_works, fX11_mixed, pX11_mixed_299_S1, pX11_mixed_319_S1, pX11_mixed_339_S1, pX11_mixed_359_S1, pX11_mixed_380_S1, pX11_mixed_401_S1, pX11_mixed_422_S1, pX11_mixed_443_S1, pX11_mixed_489_S1, pX11_mixed_507_S1, pX11_mixed_523_S1, pX11_mixed_540_S1, pX11_mixed_613_S1, pX11_mixed_630_S1, pX11_mixed_651_S1, pX11_mixed_859_S1, if_neg n1, if_neg n2, if_neg n3, if_neg n16, if_neg n17, if_true, if_false]
    have e2 : fX11_works__zV c (nI L) vt (nI st) (nI md) sat (nI d) (nI s1) (nI s2) 2 (nI 20) (nI S) (nI E) un zX z z = z := by
      simp (decide := true) only [fX11_works__zV, fX11_mixed__zV, pX11_mixed_299_zV, pX11_mixed_319_zV, pX11_mixed_339_zV, pX11_mixed_359_zV, pX11_mixed_380_zV, pX11_mixed_401_zV, pX11_mixed_422_zV, pX11_mixed_443_zV, pX11_mixed_489_zV, pX11_mixed_507_zV, pX11_mixed_523_zV, pX11_mixed_540_zV, pX11_mixed_613_zV, pX11_mixed_630_zV, pX11_mixed_651_zV, pX11_mixed_859_zV, if_neg n1, if_neg n2, if_neg n3, if_neg n16, if_neg n17, if_true, if_false]
    rw [e1, e2, e3, e4]
    exact ill_WO h hkd vt sat c _ rf re r8 rg rl
theorem w2_21 {S E L st d s1 s2 md : Nat} {im un tb : Int32} {x z xS zX : Nat → Int32} (h : HY S E L st d s1 s2 md 2 im un tb x z xS zX) {vt : Int32} (hvt : fX11_vlmax vt = nI (16 * E / S)) (sat : Int32) (c : Int64) (rf re r8 rg : Int32) (rl : Int64) : WK S E L st d s1 s2 md 2 (nI 21) im un tb x z xS zX vt sat c rf re r8 rg rl := by
  have e1 : fX11_works (nI st) (nI d) (nI s1) (nI s2) 2 (nI 21) (nI S) (nI E) un = 0 := by
    simp (decide := true) only [fX11_works, fX11_mixed, pX11_mixed_299_S1, pX11_mixed_319_S1, pX11_mixed_339_S1, pX11_mixed_359_S1, pX11_mixed_380_S1, pX11_mixed_401_S1, pX11_mixed_422_S1, pX11_mixed_443_S1, pX11_mixed_489_S1, pX11_mixed_507_S1, pX11_mixed_523_S1, pX11_mixed_540_S1, pX11_mixed_613_S1, pX11_mixed_630_S1, pX11_mixed_651_S1, pX11_mixed_859_S1, if_true, if_false]
  have e2 : fX11_works__zV c (nI L) vt (nI st) (nI md) sat (nI d) (nI s1) (nI s2) 2 (nI 21) (nI S) (nI E) un zX z z = z := by
    simp (decide := true) only [fX11_works__zV, fX11_mixed__zV, pX11_mixed_299_zV, pX11_mixed_319_zV, pX11_mixed_339_zV, pX11_mixed_359_zV, pX11_mixed_380_zV, pX11_mixed_401_zV, pX11_mixed_422_zV, pX11_mixed_443_zV, pX11_mixed_489_zV, pX11_mixed_507_zV, pX11_mixed_523_zV, pX11_mixed_540_zV, pX11_mixed_613_zV, pX11_mixed_630_zV, pX11_mixed_651_zV, pX11_mixed_859_zV, if_true, if_false]
  have e3 : fX11_works__m_vxsat c (nI L) vt (nI st) (nI md) sat (nI d) (nI s1) (nI s2) 2 (nI 21) (nI S) (nI E) un zX z z = sat := by
    simp (decide := true) only [fX11_works__m_vxsat, fX11_mixed__m_vxsat, pX11_mixed_299_m_vxsat, pX11_mixed_319_m_vxsat, pX11_mixed_339_m_vxsat, pX11_mixed_359_m_vxsat, pX11_mixed_380_m_vxsat, pX11_mixed_401_m_vxsat, pX11_mixed_422_m_vxsat, pX11_mixed_443_m_vxsat, if_true, if_false]
  have e4 : fX11_works__zX (nI L) (nI st) (nI d) (nI s1) (nI s2) 2 (nI 21) (nI S) un zX z = zX := by
    simp (decide := true) only [fX11_works__zX, fX11_mixed__zX, pX11_mixed_523_zX, if_true, if_false]
  unfold WK
  rw [e1, e2, e3, e4]
  exact ill_WO h (kd_none (by decide)) vt sat c _ rf re r8 rg rl
theorem w2_22 {S E L st d s1 s2 md : Nat} {im un tb : Int32} {x z xS zX : Nat → Int32} (h : HY S E L st d s1 s2 md 2 im un tb x z xS zX) {vt : Int32} (hvt : fX11_vlmax vt = nI (16 * E / S)) (sat : Int32) (c : Int64) (rf re r8 rg : Int32) (rl : Int64) : WK S E L st d s1 s2 md 2 (nI 22) im un tb x z xS zX vt sat c rf re r8 rg rl := by
  have e1 : fX11_works (nI st) (nI d) (nI s1) (nI s2) 2 (nI 22) (nI S) (nI E) un = 0 := by
    simp (decide := true) only [fX11_works, fX11_mixed, pX11_mixed_299_S1, pX11_mixed_319_S1, pX11_mixed_339_S1, pX11_mixed_359_S1, pX11_mixed_380_S1, pX11_mixed_401_S1, pX11_mixed_422_S1, pX11_mixed_443_S1, pX11_mixed_489_S1, pX11_mixed_507_S1, pX11_mixed_523_S1, pX11_mixed_540_S1, pX11_mixed_613_S1, pX11_mixed_630_S1, pX11_mixed_651_S1, pX11_mixed_859_S1, if_true, if_false]
  have e2 : fX11_works__zV c (nI L) vt (nI st) (nI md) sat (nI d) (nI s1) (nI s2) 2 (nI 22) (nI S) (nI E) un zX z z = z := by
    simp (decide := true) only [fX11_works__zV, fX11_mixed__zV, pX11_mixed_299_zV, pX11_mixed_319_zV, pX11_mixed_339_zV, pX11_mixed_359_zV, pX11_mixed_380_zV, pX11_mixed_401_zV, pX11_mixed_422_zV, pX11_mixed_443_zV, pX11_mixed_489_zV, pX11_mixed_507_zV, pX11_mixed_523_zV, pX11_mixed_540_zV, pX11_mixed_613_zV, pX11_mixed_630_zV, pX11_mixed_651_zV, pX11_mixed_859_zV, if_true, if_false]
  have e3 : fX11_works__m_vxsat c (nI L) vt (nI st) (nI md) sat (nI d) (nI s1) (nI s2) 2 (nI 22) (nI S) (nI E) un zX z z = sat := by
    simp (decide := true) only [fX11_works__m_vxsat, fX11_mixed__m_vxsat, pX11_mixed_299_m_vxsat, pX11_mixed_319_m_vxsat, pX11_mixed_339_m_vxsat, pX11_mixed_359_m_vxsat, pX11_mixed_380_m_vxsat, pX11_mixed_401_m_vxsat, pX11_mixed_422_m_vxsat, pX11_mixed_443_m_vxsat, if_true, if_false]
  have e4 : fX11_works__zX (nI L) (nI st) (nI d) (nI s1) (nI s2) 2 (nI 22) (nI S) un zX z = zX := by
    simp (decide := true) only [fX11_works__zX, fX11_mixed__zX, pX11_mixed_523_zX, if_true, if_false]
  unfold WK
  rw [e1, e2, e3, e4]
  exact ill_WO h (kd_none (by decide)) vt sat c _ rf re r8 rg rl
theorem w2_23 {S E L st d s1 s2 md : Nat} {im un tb : Int32} {x z xS zX : Nat → Int32} (h : HY S E L st d s1 s2 md 2 im un tb x z xS zX) {vt : Int32} (hvt : fX11_vlmax vt = nI (16 * E / S)) (sat : Int32) (c : Int64) (rf re r8 rg : Int32) (rl : Int64) : WK S E L st d s1 s2 md 2 (nI 23) im un tb x z xS zX vt sat c rf re r8 rg rl := by
  have e1 : fX11_works (nI st) (nI d) (nI s1) (nI s2) 2 (nI 23) (nI S) (nI E) un = (if fX11_compresses (nI st) (nI d) (nI s1) (nI s2) (nI S) (nI E) un = 0 then (0 : Int32) else 1) := by
    simp (decide := true) only [fX11_works, fX11_mixed, pX11_mixed_299_S1, pX11_mixed_319_S1, pX11_mixed_339_S1, pX11_mixed_359_S1, pX11_mixed_380_S1, pX11_mixed_401_S1, pX11_mixed_422_S1, pX11_mixed_443_S1, pX11_mixed_489_S1, pX11_mixed_507_S1, pX11_mixed_523_S1, pX11_mixed_540_S1, pX11_mixed_613_S1, pX11_mixed_630_S1, pX11_mixed_651_S1, pX11_mixed_859_S1, if_true, if_false]
  have e2 : fX11_works__zV c (nI L) vt (nI st) (nI md) sat (nI d) (nI s1) (nI s2) 2 (nI 23) (nI S) (nI E) un zX z z = fX11_compresses__zV c (nI L) vt (nI st) (nI d) (nI s1) (nI s2) (nI S) (nI E) un z z := by
    simp (decide := true) only [fX11_works__zV, fX11_mixed__zV, pX11_mixed_299_zV, pX11_mixed_319_zV, pX11_mixed_339_zV, pX11_mixed_359_zV, pX11_mixed_380_zV, pX11_mixed_401_zV, pX11_mixed_422_zV, pX11_mixed_443_zV, pX11_mixed_489_zV, pX11_mixed_507_zV, pX11_mixed_523_zV, pX11_mixed_540_zV, pX11_mixed_613_zV, pX11_mixed_630_zV, pX11_mixed_651_zV, pX11_mixed_859_zV, if_true, if_false]
  have e3 : fX11_works__m_vxsat c (nI L) vt (nI st) (nI md) sat (nI d) (nI s1) (nI s2) 2 (nI 23) (nI S) (nI E) un zX z z = sat := by
    simp (decide := true) only [fX11_works__m_vxsat, fX11_mixed__m_vxsat, pX11_mixed_299_m_vxsat, pX11_mixed_319_m_vxsat, pX11_mixed_339_m_vxsat, pX11_mixed_359_m_vxsat, pX11_mixed_380_m_vxsat, pX11_mixed_401_m_vxsat, pX11_mixed_422_m_vxsat, pX11_mixed_443_m_vxsat, if_true, if_false]
  have e4 : fX11_works__zX (nI L) (nI st) (nI d) (nI s1) (nI s2) 2 (nI 23) (nI S) un zX z = zX := by
    simp (decide := true) only [fX11_works__zX, fX11_mixed__zX, pX11_mixed_523_zX, if_true, if_false]
  unfold WK
  rw [e1, e2, e3, e4]
  refine WO_b ?_
  have hmu := h.2.2.2.2.2.2.2.2.2.2.2.2.1
  have hkd := kd_plain (F := 2) (s1 := nI s1) (s2 := nI s2) (H := nI 23) (im := im) (by decide) (by decide) (show _ = (25 : Int32) by decide)
  by_cases u0 : un = 0
  · have hi : ¬ im = 0 := fun w => hmu.mp w u0
    rw [if_pos ((mb_u (by decide) _ _).mpr hi)] at hkd
    have f1 : fX11_compresses (nI st) (nI d) (nI s1) (nI s2) (nI S) (nI E) un = 0 := by unfold fX11_compresses; rw [if_pos u0]
    have f2 : fX11_compresses__zV c (nI L) vt (nI st) (nI d) (nI s1) (nI s2) (nI S) (nI E) un z z = z := by unfold fX11_compresses__zV; rw [if_pos u0]
    rw [f1, f2]
    exact ill_WO h hkd vt sat c _ rf re r8 rg rl
  · rw [if_neg (fun w => (mb_u (by decide) _ _).mp w (hmu.mpr u0))] at hkd
    by_cases hz : st = 0
    · exact compresses_WO h u0 rfl hz hkd vt sat c _ rf re r8 rg rl
    · exact compresses_Z h hz hkd vt sat c _ rf re r8 rg rl
theorem w2_24 {S E L st d s1 s2 md : Nat} {im un tb : Int32} {x z xS zX : Nat → Int32} (h : HY S E L st d s1 s2 md 2 im un tb x z xS zX) {vt : Int32} (hvt : fX11_vlmax vt = nI (16 * E / S)) (sat : Int32) (c : Int64) (rf re r8 rg : Int32) (rl : Int64) : WK S E L st d s1 s2 md 2 (nI 24) im un tb x z xS zX vt sat c rf re r8 rg rl := by
  have e1 : fX11_works (nI st) (nI d) (nI s1) (nI s2) 2 (nI 24) (nI S) (nI E) un = (if fX11_logic un = 0 then (0 : Int32) else 1) := by
    simp (decide := true) only [fX11_works, fX11_mixed, pX11_mixed_299_S1, pX11_mixed_319_S1, pX11_mixed_339_S1, pX11_mixed_359_S1, pX11_mixed_380_S1, pX11_mixed_401_S1, pX11_mixed_422_S1, pX11_mixed_443_S1, pX11_mixed_489_S1, pX11_mixed_507_S1, pX11_mixed_523_S1, pX11_mixed_540_S1, pX11_mixed_613_S1, pX11_mixed_630_S1, pX11_mixed_651_S1, pX11_mixed_859_S1, if_true, if_false]
  have e2 : fX11_works__zV c (nI L) vt (nI st) (nI md) sat (nI d) (nI s1) (nI s2) 2 (nI 24) (nI S) (nI E) un zX z z = fX11_logic__zV c (nI L) (nI st) (nI d) (nI s1) (nI s2) un z z (nI 24) := by
    simp (decide := true) only [fX11_works__zV, fX11_mixed__zV, pX11_mixed_299_zV, pX11_mixed_319_zV, pX11_mixed_339_zV, pX11_mixed_359_zV, pX11_mixed_380_zV, pX11_mixed_401_zV, pX11_mixed_422_zV, pX11_mixed_443_zV, pX11_mixed_489_zV, pX11_mixed_507_zV, pX11_mixed_523_zV, pX11_mixed_540_zV, pX11_mixed_613_zV, pX11_mixed_630_zV, pX11_mixed_651_zV, pX11_mixed_859_zV, if_true, if_false]
  have e3 : fX11_works__m_vxsat c (nI L) vt (nI st) (nI md) sat (nI d) (nI s1) (nI s2) 2 (nI 24) (nI S) (nI E) un zX z z = sat := by
    simp (decide := true) only [fX11_works__m_vxsat, fX11_mixed__m_vxsat, pX11_mixed_299_m_vxsat, pX11_mixed_319_m_vxsat, pX11_mixed_339_m_vxsat, pX11_mixed_359_m_vxsat, pX11_mixed_380_m_vxsat, pX11_mixed_401_m_vxsat, pX11_mixed_422_m_vxsat, pX11_mixed_443_m_vxsat, if_true, if_false]
  have e4 : fX11_works__zX (nI L) (nI st) (nI d) (nI s1) (nI s2) 2 (nI 24) (nI S) un zX z = zX := by
    simp (decide := true) only [fX11_works__zX, fX11_mixed__zX, pX11_mixed_523_zX, if_true, if_false]
  unfold WK
  rw [e1, e2, e3, e4]
  refine WO_b ?_
  have hmu := h.2.2.2.2.2.2.2.2.2.2.2.2.1
  have hkd := kd_plain (F := 2) (s1 := nI s1) (s2 := nI s2) (H := nI 24) (im := im) (by decide) (by decide) (show _ = (12 : Int32) by decide)
  by_cases u0 : un = 0
  · have hi : ¬ im = 0 := fun w => hmu.mp w u0
    rw [if_pos ((mb_u (by decide) _ _).mpr hi)] at hkd
    have f1 : fX11_logic un = 0 := by unfold fX11_logic; rw [if_pos u0]
    have f2 : fX11_logic__zV c (nI L) (nI st) (nI d) (nI s1) (nI s2) un z z (nI 24) = z := by unfold fX11_logic__zV; rw [if_pos u0]
    rw [f1, f2]
    exact ill_WO h hkd vt sat c _ rf re r8 rg rl
  · rw [if_neg (fun w => (mb_u (by decide) _ _).mp w (hmu.mpr u0))] at hkd
    exact logic_WO h u0 (by decide) hkd vt sat c _ rf re r8 rg rl
theorem w2_25 {S E L st d s1 s2 md : Nat} {im un tb : Int32} {x z xS zX : Nat → Int32} (h : HY S E L st d s1 s2 md 2 im un tb x z xS zX) {vt : Int32} (hvt : fX11_vlmax vt = nI (16 * E / S)) (sat : Int32) (c : Int64) (rf re r8 rg : Int32) (rl : Int64) : WK S E L st d s1 s2 md 2 (nI 25) im un tb x z xS zX vt sat c rf re r8 rg rl := by
  have e1 : fX11_works (nI st) (nI d) (nI s1) (nI s2) 2 (nI 25) (nI S) (nI E) un = (if fX11_logic un = 0 then (0 : Int32) else 1) := by
    simp (decide := true) only [fX11_works, fX11_mixed, pX11_mixed_299_S1, pX11_mixed_319_S1, pX11_mixed_339_S1, pX11_mixed_359_S1, pX11_mixed_380_S1, pX11_mixed_401_S1, pX11_mixed_422_S1, pX11_mixed_443_S1, pX11_mixed_489_S1, pX11_mixed_507_S1, pX11_mixed_523_S1, pX11_mixed_540_S1, pX11_mixed_613_S1, pX11_mixed_630_S1, pX11_mixed_651_S1, pX11_mixed_859_S1, if_true, if_false]
  have e2 : fX11_works__zV c (nI L) vt (nI st) (nI md) sat (nI d) (nI s1) (nI s2) 2 (nI 25) (nI S) (nI E) un zX z z = fX11_logic__zV c (nI L) (nI st) (nI d) (nI s1) (nI s2) un z z (nI 25) := by
    simp (decide := true) only [fX11_works__zV, fX11_mixed__zV, pX11_mixed_299_zV, pX11_mixed_319_zV, pX11_mixed_339_zV, pX11_mixed_359_zV, pX11_mixed_380_zV, pX11_mixed_401_zV, pX11_mixed_422_zV, pX11_mixed_443_zV, pX11_mixed_489_zV, pX11_mixed_507_zV, pX11_mixed_523_zV, pX11_mixed_540_zV, pX11_mixed_613_zV, pX11_mixed_630_zV, pX11_mixed_651_zV, pX11_mixed_859_zV, if_true, if_false]
  have e3 : fX11_works__m_vxsat c (nI L) vt (nI st) (nI md) sat (nI d) (nI s1) (nI s2) 2 (nI 25) (nI S) (nI E) un zX z z = sat := by
    simp (decide := true) only [fX11_works__m_vxsat, fX11_mixed__m_vxsat, pX11_mixed_299_m_vxsat, pX11_mixed_319_m_vxsat, pX11_mixed_339_m_vxsat, pX11_mixed_359_m_vxsat, pX11_mixed_380_m_vxsat, pX11_mixed_401_m_vxsat, pX11_mixed_422_m_vxsat, pX11_mixed_443_m_vxsat, if_true, if_false]
  have e4 : fX11_works__zX (nI L) (nI st) (nI d) (nI s1) (nI s2) 2 (nI 25) (nI S) un zX z = zX := by
    simp (decide := true) only [fX11_works__zX, fX11_mixed__zX, pX11_mixed_523_zX, if_true, if_false]
  unfold WK
  rw [e1, e2, e3, e4]
  refine WO_b ?_
  have hmu := h.2.2.2.2.2.2.2.2.2.2.2.2.1
  have hkd := kd_plain (F := 2) (s1 := nI s1) (s2 := nI s2) (H := nI 25) (im := im) (by decide) (by decide) (show _ = (12 : Int32) by decide)
  by_cases u0 : un = 0
  · have hi : ¬ im = 0 := fun w => hmu.mp w u0
    rw [if_pos ((mb_u (by decide) _ _).mpr hi)] at hkd
    have f1 : fX11_logic un = 0 := by unfold fX11_logic; rw [if_pos u0]
    have f2 : fX11_logic__zV c (nI L) (nI st) (nI d) (nI s1) (nI s2) un z z (nI 25) = z := by unfold fX11_logic__zV; rw [if_pos u0]
    rw [f1, f2]
    exact ill_WO h hkd vt sat c _ rf re r8 rg rl
  · rw [if_neg (fun w => (mb_u (by decide) _ _).mp w (hmu.mpr u0))] at hkd
    exact logic_WO h u0 (by decide) hkd vt sat c _ rf re r8 rg rl
theorem w2_26 {S E L st d s1 s2 md : Nat} {im un tb : Int32} {x z xS zX : Nat → Int32} (h : HY S E L st d s1 s2 md 2 im un tb x z xS zX) {vt : Int32} (hvt : fX11_vlmax vt = nI (16 * E / S)) (sat : Int32) (c : Int64) (rf re r8 rg : Int32) (rl : Int64) : WK S E L st d s1 s2 md 2 (nI 26) im un tb x z xS zX vt sat c rf re r8 rg rl := by
  have e1 : fX11_works (nI st) (nI d) (nI s1) (nI s2) 2 (nI 26) (nI S) (nI E) un = (if fX11_logic un = 0 then (0 : Int32) else 1) := by
    simp (decide := true) only [fX11_works, fX11_mixed, pX11_mixed_299_S1, pX11_mixed_319_S1, pX11_mixed_339_S1, pX11_mixed_359_S1, pX11_mixed_380_S1, pX11_mixed_401_S1, pX11_mixed_422_S1, pX11_mixed_443_S1, pX11_mixed_489_S1, pX11_mixed_507_S1, pX11_mixed_523_S1, pX11_mixed_540_S1, pX11_mixed_613_S1, pX11_mixed_630_S1, pX11_mixed_651_S1, pX11_mixed_859_S1, if_true, if_false]
  have e2 : fX11_works__zV c (nI L) vt (nI st) (nI md) sat (nI d) (nI s1) (nI s2) 2 (nI 26) (nI S) (nI E) un zX z z = fX11_logic__zV c (nI L) (nI st) (nI d) (nI s1) (nI s2) un z z (nI 26) := by
    simp (decide := true) only [fX11_works__zV, fX11_mixed__zV, pX11_mixed_299_zV, pX11_mixed_319_zV, pX11_mixed_339_zV, pX11_mixed_359_zV, pX11_mixed_380_zV, pX11_mixed_401_zV, pX11_mixed_422_zV, pX11_mixed_443_zV, pX11_mixed_489_zV, pX11_mixed_507_zV, pX11_mixed_523_zV, pX11_mixed_540_zV, pX11_mixed_613_zV, pX11_mixed_630_zV, pX11_mixed_651_zV, pX11_mixed_859_zV, if_true, if_false]
  have e3 : fX11_works__m_vxsat c (nI L) vt (nI st) (nI md) sat (nI d) (nI s1) (nI s2) 2 (nI 26) (nI S) (nI E) un zX z z = sat := by
    simp (decide := true) only [fX11_works__m_vxsat, fX11_mixed__m_vxsat, pX11_mixed_299_m_vxsat, pX11_mixed_319_m_vxsat, pX11_mixed_339_m_vxsat, pX11_mixed_359_m_vxsat, pX11_mixed_380_m_vxsat, pX11_mixed_401_m_vxsat, pX11_mixed_422_m_vxsat, pX11_mixed_443_m_vxsat, if_true, if_false]
  have e4 : fX11_works__zX (nI L) (nI st) (nI d) (nI s1) (nI s2) 2 (nI 26) (nI S) un zX z = zX := by
    simp (decide := true) only [fX11_works__zX, fX11_mixed__zX, pX11_mixed_523_zX, if_true, if_false]
  unfold WK
  rw [e1, e2, e3, e4]
  refine WO_b ?_
  have hmu := h.2.2.2.2.2.2.2.2.2.2.2.2.1
  have hkd := kd_plain (F := 2) (s1 := nI s1) (s2 := nI s2) (H := nI 26) (im := im) (by decide) (by decide) (show _ = (12 : Int32) by decide)
  by_cases u0 : un = 0
  · have hi : ¬ im = 0 := fun w => hmu.mp w u0
    rw [if_pos ((mb_u (by decide) _ _).mpr hi)] at hkd
    have f1 : fX11_logic un = 0 := by unfold fX11_logic; rw [if_pos u0]
    have f2 : fX11_logic__zV c (nI L) (nI st) (nI d) (nI s1) (nI s2) un z z (nI 26) = z := by unfold fX11_logic__zV; rw [if_pos u0]
    rw [f1, f2]
    exact ill_WO h hkd vt sat c _ rf re r8 rg rl
  · rw [if_neg (fun w => (mb_u (by decide) _ _).mp w (hmu.mpr u0))] at hkd
    exact logic_WO h u0 (by decide) hkd vt sat c _ rf re r8 rg rl
theorem w2_27 {S E L st d s1 s2 md : Nat} {im un tb : Int32} {x z xS zX : Nat → Int32} (h : HY S E L st d s1 s2 md 2 im un tb x z xS zX) {vt : Int32} (hvt : fX11_vlmax vt = nI (16 * E / S)) (sat : Int32) (c : Int64) (rf re r8 rg : Int32) (rl : Int64) : WK S E L st d s1 s2 md 2 (nI 27) im un tb x z xS zX vt sat c rf re r8 rg rl := by
  have e1 : fX11_works (nI st) (nI d) (nI s1) (nI s2) 2 (nI 27) (nI S) (nI E) un = (if fX11_logic un = 0 then (0 : Int32) else 1) := by
    simp (decide := true) only [fX11_works, fX11_mixed, pX11_mixed_299_S1, pX11_mixed_319_S1, pX11_mixed_339_S1, pX11_mixed_359_S1, pX11_mixed_380_S1, pX11_mixed_401_S1, pX11_mixed_422_S1, pX11_mixed_443_S1, pX11_mixed_489_S1, pX11_mixed_507_S1, pX11_mixed_523_S1, pX11_mixed_540_S1, pX11_mixed_613_S1, pX11_mixed_630_S1, pX11_mixed_651_S1, pX11_mixed_859_S1, if_true, if_false]
  have e2 : fX11_works__zV c (nI L) vt (nI st) (nI md) sat (nI d) (nI s1) (nI s2) 2 (nI 27) (nI S) (nI E) un zX z z = fX11_logic__zV c (nI L) (nI st) (nI d) (nI s1) (nI s2) un z z (nI 27) := by
    simp (decide := true) only [fX11_works__zV, fX11_mixed__zV, pX11_mixed_299_zV, pX11_mixed_319_zV, pX11_mixed_339_zV, pX11_mixed_359_zV, pX11_mixed_380_zV, pX11_mixed_401_zV, pX11_mixed_422_zV, pX11_mixed_443_zV, pX11_mixed_489_zV, pX11_mixed_507_zV, pX11_mixed_523_zV, pX11_mixed_540_zV, pX11_mixed_613_zV, pX11_mixed_630_zV, pX11_mixed_651_zV, pX11_mixed_859_zV, if_true, if_false]
  have e3 : fX11_works__m_vxsat c (nI L) vt (nI st) (nI md) sat (nI d) (nI s1) (nI s2) 2 (nI 27) (nI S) (nI E) un zX z z = sat := by
    simp (decide := true) only [fX11_works__m_vxsat, fX11_mixed__m_vxsat, pX11_mixed_299_m_vxsat, pX11_mixed_319_m_vxsat, pX11_mixed_339_m_vxsat, pX11_mixed_359_m_vxsat, pX11_mixed_380_m_vxsat, pX11_mixed_401_m_vxsat, pX11_mixed_422_m_vxsat, pX11_mixed_443_m_vxsat, if_true, if_false]
  have e4 : fX11_works__zX (nI L) (nI st) (nI d) (nI s1) (nI s2) 2 (nI 27) (nI S) un zX z = zX := by
    simp (decide := true) only [fX11_works__zX, fX11_mixed__zX, pX11_mixed_523_zX, if_true, if_false]
  unfold WK
  rw [e1, e2, e3, e4]
  refine WO_b ?_
  have hmu := h.2.2.2.2.2.2.2.2.2.2.2.2.1
  have hkd := kd_plain (F := 2) (s1 := nI s1) (s2 := nI s2) (H := nI 27) (im := im) (by decide) (by decide) (show _ = (12 : Int32) by decide)
  by_cases u0 : un = 0
  · have hi : ¬ im = 0 := fun w => hmu.mp w u0
    rw [if_pos ((mb_u (by decide) _ _).mpr hi)] at hkd
    have f1 : fX11_logic un = 0 := by unfold fX11_logic; rw [if_pos u0]
    have f2 : fX11_logic__zV c (nI L) (nI st) (nI d) (nI s1) (nI s2) un z z (nI 27) = z := by unfold fX11_logic__zV; rw [if_pos u0]
    rw [f1, f2]
    exact ill_WO h hkd vt sat c _ rf re r8 rg rl
  · rw [if_neg (fun w => (mb_u (by decide) _ _).mp w (hmu.mpr u0))] at hkd
    exact logic_WO h u0 (by decide) hkd vt sat c _ rf re r8 rg rl
theorem w2_28 {S E L st d s1 s2 md : Nat} {im un tb : Int32} {x z xS zX : Nat → Int32} (h : HY S E L st d s1 s2 md 2 im un tb x z xS zX) {vt : Int32} (hvt : fX11_vlmax vt = nI (16 * E / S)) (sat : Int32) (c : Int64) (rf re r8 rg : Int32) (rl : Int64) : WK S E L st d s1 s2 md 2 (nI 28) im un tb x z xS zX vt sat c rf re r8 rg rl := by
  have e1 : fX11_works (nI st) (nI d) (nI s1) (nI s2) 2 (nI 28) (nI S) (nI E) un = (if fX11_logic un = 0 then (0 : Int32) else 1) := by
    simp (decide := true) only [fX11_works, fX11_mixed, pX11_mixed_299_S1, pX11_mixed_319_S1, pX11_mixed_339_S1, pX11_mixed_359_S1, pX11_mixed_380_S1, pX11_mixed_401_S1, pX11_mixed_422_S1, pX11_mixed_443_S1, pX11_mixed_489_S1, pX11_mixed_507_S1, pX11_mixed_523_S1, pX11_mixed_540_S1, pX11_mixed_613_S1, pX11_mixed_630_S1, pX11_mixed_651_S1, pX11_mixed_859_S1, if_true, if_false]
  have e2 : fX11_works__zV c (nI L) vt (nI st) (nI md) sat (nI d) (nI s1) (nI s2) 2 (nI 28) (nI S) (nI E) un zX z z = fX11_logic__zV c (nI L) (nI st) (nI d) (nI s1) (nI s2) un z z (nI 28) := by
    simp (decide := true) only [fX11_works__zV, fX11_mixed__zV, pX11_mixed_299_zV, pX11_mixed_319_zV, pX11_mixed_339_zV, pX11_mixed_359_zV, pX11_mixed_380_zV, pX11_mixed_401_zV, pX11_mixed_422_zV, pX11_mixed_443_zV, pX11_mixed_489_zV, pX11_mixed_507_zV, pX11_mixed_523_zV, pX11_mixed_540_zV, pX11_mixed_613_zV, pX11_mixed_630_zV, pX11_mixed_651_zV, pX11_mixed_859_zV, if_true, if_false]
  have e3 : fX11_works__m_vxsat c (nI L) vt (nI st) (nI md) sat (nI d) (nI s1) (nI s2) 2 (nI 28) (nI S) (nI E) un zX z z = sat := by
    simp (decide := true) only [fX11_works__m_vxsat, fX11_mixed__m_vxsat, pX11_mixed_299_m_vxsat, pX11_mixed_319_m_vxsat, pX11_mixed_339_m_vxsat, pX11_mixed_359_m_vxsat, pX11_mixed_380_m_vxsat, pX11_mixed_401_m_vxsat, pX11_mixed_422_m_vxsat, pX11_mixed_443_m_vxsat, if_true, if_false]
  have e4 : fX11_works__zX (nI L) (nI st) (nI d) (nI s1) (nI s2) 2 (nI 28) (nI S) un zX z = zX := by
    simp (decide := true) only [fX11_works__zX, fX11_mixed__zX, pX11_mixed_523_zX, if_true, if_false]
  unfold WK
  rw [e1, e2, e3, e4]
  refine WO_b ?_
  have hmu := h.2.2.2.2.2.2.2.2.2.2.2.2.1
  have hkd := kd_plain (F := 2) (s1 := nI s1) (s2 := nI s2) (H := nI 28) (im := im) (by decide) (by decide) (show _ = (12 : Int32) by decide)
  by_cases u0 : un = 0
  · have hi : ¬ im = 0 := fun w => hmu.mp w u0
    rw [if_pos ((mb_u (by decide) _ _).mpr hi)] at hkd
    have f1 : fX11_logic un = 0 := by unfold fX11_logic; rw [if_pos u0]
    have f2 : fX11_logic__zV c (nI L) (nI st) (nI d) (nI s1) (nI s2) un z z (nI 28) = z := by unfold fX11_logic__zV; rw [if_pos u0]
    rw [f1, f2]
    exact ill_WO h hkd vt sat c _ rf re r8 rg rl
  · rw [if_neg (fun w => (mb_u (by decide) _ _).mp w (hmu.mpr u0))] at hkd
    exact logic_WO h u0 (by decide) hkd vt sat c _ rf re r8 rg rl
theorem w2_29 {S E L st d s1 s2 md : Nat} {im un tb : Int32} {x z xS zX : Nat → Int32} (h : HY S E L st d s1 s2 md 2 im un tb x z xS zX) {vt : Int32} (hvt : fX11_vlmax vt = nI (16 * E / S)) (sat : Int32) (c : Int64) (rf re r8 rg : Int32) (rl : Int64) : WK S E L st d s1 s2 md 2 (nI 29) im un tb x z xS zX vt sat c rf re r8 rg rl := by
  have e1 : fX11_works (nI st) (nI d) (nI s1) (nI s2) 2 (nI 29) (nI S) (nI E) un = (if fX11_logic un = 0 then (0 : Int32) else 1) := by
    simp (decide := true) only [fX11_works, fX11_mixed, pX11_mixed_299_S1, pX11_mixed_319_S1, pX11_mixed_339_S1, pX11_mixed_359_S1, pX11_mixed_380_S1, pX11_mixed_401_S1, pX11_mixed_422_S1, pX11_mixed_443_S1, pX11_mixed_489_S1, pX11_mixed_507_S1, pX11_mixed_523_S1, pX11_mixed_540_S1, pX11_mixed_613_S1, pX11_mixed_630_S1, pX11_mixed_651_S1, pX11_mixed_859_S1, if_true, if_false]
  have e2 : fX11_works__zV c (nI L) vt (nI st) (nI md) sat (nI d) (nI s1) (nI s2) 2 (nI 29) (nI S) (nI E) un zX z z = fX11_logic__zV c (nI L) (nI st) (nI d) (nI s1) (nI s2) un z z (nI 29) := by
    simp (decide := true) only [fX11_works__zV, fX11_mixed__zV, pX11_mixed_299_zV, pX11_mixed_319_zV, pX11_mixed_339_zV, pX11_mixed_359_zV, pX11_mixed_380_zV, pX11_mixed_401_zV, pX11_mixed_422_zV, pX11_mixed_443_zV, pX11_mixed_489_zV, pX11_mixed_507_zV, pX11_mixed_523_zV, pX11_mixed_540_zV, pX11_mixed_613_zV, pX11_mixed_630_zV, pX11_mixed_651_zV, pX11_mixed_859_zV, if_true, if_false]
  have e3 : fX11_works__m_vxsat c (nI L) vt (nI st) (nI md) sat (nI d) (nI s1) (nI s2) 2 (nI 29) (nI S) (nI E) un zX z z = sat := by
    simp (decide := true) only [fX11_works__m_vxsat, fX11_mixed__m_vxsat, pX11_mixed_299_m_vxsat, pX11_mixed_319_m_vxsat, pX11_mixed_339_m_vxsat, pX11_mixed_359_m_vxsat, pX11_mixed_380_m_vxsat, pX11_mixed_401_m_vxsat, pX11_mixed_422_m_vxsat, pX11_mixed_443_m_vxsat, if_true, if_false]
  have e4 : fX11_works__zX (nI L) (nI st) (nI d) (nI s1) (nI s2) 2 (nI 29) (nI S) un zX z = zX := by
    simp (decide := true) only [fX11_works__zX, fX11_mixed__zX, pX11_mixed_523_zX, if_true, if_false]
  unfold WK
  rw [e1, e2, e3, e4]
  refine WO_b ?_
  have hmu := h.2.2.2.2.2.2.2.2.2.2.2.2.1
  have hkd := kd_plain (F := 2) (s1 := nI s1) (s2 := nI s2) (H := nI 29) (im := im) (by decide) (by decide) (show _ = (12 : Int32) by decide)
  by_cases u0 : un = 0
  · have hi : ¬ im = 0 := fun w => hmu.mp w u0
    rw [if_pos ((mb_u (by decide) _ _).mpr hi)] at hkd
    have f1 : fX11_logic un = 0 := by unfold fX11_logic; rw [if_pos u0]
    have f2 : fX11_logic__zV c (nI L) (nI st) (nI d) (nI s1) (nI s2) un z z (nI 29) = z := by unfold fX11_logic__zV; rw [if_pos u0]
    rw [f1, f2]
    exact ill_WO h hkd vt sat c _ rf re r8 rg rl
  · rw [if_neg (fun w => (mb_u (by decide) _ _).mp w (hmu.mpr u0))] at hkd
    exact logic_WO h u0 (by decide) hkd vt sat c _ rf re r8 rg rl
theorem w2_30 {S E L st d s1 s2 md : Nat} {im un tb : Int32} {x z xS zX : Nat → Int32} (h : HY S E L st d s1 s2 md 2 im un tb x z xS zX) {vt : Int32} (hvt : fX11_vlmax vt = nI (16 * E / S)) (sat : Int32) (c : Int64) (rf re r8 rg : Int32) (rl : Int64) : WK S E L st d s1 s2 md 2 (nI 30) im un tb x z xS zX vt sat c rf re r8 rg rl := by
  have e1 : fX11_works (nI st) (nI d) (nI s1) (nI s2) 2 (nI 30) (nI S) (nI E) un = (if fX11_logic un = 0 then (0 : Int32) else 1) := by
    simp (decide := true) only [fX11_works, fX11_mixed, pX11_mixed_299_S1, pX11_mixed_319_S1, pX11_mixed_339_S1, pX11_mixed_359_S1, pX11_mixed_380_S1, pX11_mixed_401_S1, pX11_mixed_422_S1, pX11_mixed_443_S1, pX11_mixed_489_S1, pX11_mixed_507_S1, pX11_mixed_523_S1, pX11_mixed_540_S1, pX11_mixed_613_S1, pX11_mixed_630_S1, pX11_mixed_651_S1, pX11_mixed_859_S1, if_true, if_false]
  have e2 : fX11_works__zV c (nI L) vt (nI st) (nI md) sat (nI d) (nI s1) (nI s2) 2 (nI 30) (nI S) (nI E) un zX z z = fX11_logic__zV c (nI L) (nI st) (nI d) (nI s1) (nI s2) un z z (nI 30) := by
    simp (decide := true) only [fX11_works__zV, fX11_mixed__zV, pX11_mixed_299_zV, pX11_mixed_319_zV, pX11_mixed_339_zV, pX11_mixed_359_zV, pX11_mixed_380_zV, pX11_mixed_401_zV, pX11_mixed_422_zV, pX11_mixed_443_zV, pX11_mixed_489_zV, pX11_mixed_507_zV, pX11_mixed_523_zV, pX11_mixed_540_zV, pX11_mixed_613_zV, pX11_mixed_630_zV, pX11_mixed_651_zV, pX11_mixed_859_zV, if_true, if_false]
  have e3 : fX11_works__m_vxsat c (nI L) vt (nI st) (nI md) sat (nI d) (nI s1) (nI s2) 2 (nI 30) (nI S) (nI E) un zX z z = sat := by
    simp (decide := true) only [fX11_works__m_vxsat, fX11_mixed__m_vxsat, pX11_mixed_299_m_vxsat, pX11_mixed_319_m_vxsat, pX11_mixed_339_m_vxsat, pX11_mixed_359_m_vxsat, pX11_mixed_380_m_vxsat, pX11_mixed_401_m_vxsat, pX11_mixed_422_m_vxsat, pX11_mixed_443_m_vxsat, if_true, if_false]
  have e4 : fX11_works__zX (nI L) (nI st) (nI d) (nI s1) (nI s2) 2 (nI 30) (nI S) un zX z = zX := by
    simp (decide := true) only [fX11_works__zX, fX11_mixed__zX, pX11_mixed_523_zX, if_true, if_false]
  unfold WK
  rw [e1, e2, e3, e4]
  refine WO_b ?_
  have hmu := h.2.2.2.2.2.2.2.2.2.2.2.2.1
  have hkd := kd_plain (F := 2) (s1 := nI s1) (s2 := nI s2) (H := nI 30) (im := im) (by decide) (by decide) (show _ = (12 : Int32) by decide)
  by_cases u0 : un = 0
  · have hi : ¬ im = 0 := fun w => hmu.mp w u0
    rw [if_pos ((mb_u (by decide) _ _).mpr hi)] at hkd
    have f1 : fX11_logic un = 0 := by unfold fX11_logic; rw [if_pos u0]
    have f2 : fX11_logic__zV c (nI L) (nI st) (nI d) (nI s1) (nI s2) un z z (nI 30) = z := by unfold fX11_logic__zV; rw [if_pos u0]
    rw [f1, f2]
    exact ill_WO h hkd vt sat c _ rf re r8 rg rl
  · rw [if_neg (fun w => (mb_u (by decide) _ _).mp w (hmu.mpr u0))] at hkd
    exact logic_WO h u0 (by decide) hkd vt sat c _ rf re r8 rg rl
theorem w2_31 {S E L st d s1 s2 md : Nat} {im un tb : Int32} {x z xS zX : Nat → Int32} (h : HY S E L st d s1 s2 md 2 im un tb x z xS zX) {vt : Int32} (hvt : fX11_vlmax vt = nI (16 * E / S)) (sat : Int32) (c : Int64) (rf re r8 rg : Int32) (rl : Int64) : WK S E L st d s1 s2 md 2 (nI 31) im un tb x z xS zX vt sat c rf re r8 rg rl := by
  have e1 : fX11_works (nI st) (nI d) (nI s1) (nI s2) 2 (nI 31) (nI S) (nI E) un = (if fX11_logic un = 0 then (0 : Int32) else 1) := by
    simp (decide := true) only [fX11_works, fX11_mixed, pX11_mixed_299_S1, pX11_mixed_319_S1, pX11_mixed_339_S1, pX11_mixed_359_S1, pX11_mixed_380_S1, pX11_mixed_401_S1, pX11_mixed_422_S1, pX11_mixed_443_S1, pX11_mixed_489_S1, pX11_mixed_507_S1, pX11_mixed_523_S1, pX11_mixed_540_S1, pX11_mixed_613_S1, pX11_mixed_630_S1, pX11_mixed_651_S1, pX11_mixed_859_S1, if_true, if_false]
  have e2 : fX11_works__zV c (nI L) vt (nI st) (nI md) sat (nI d) (nI s1) (nI s2) 2 (nI 31) (nI S) (nI E) un zX z z = fX11_logic__zV c (nI L) (nI st) (nI d) (nI s1) (nI s2) un z z (nI 31) := by
    simp (decide := true) only [fX11_works__zV, fX11_mixed__zV, pX11_mixed_299_zV, pX11_mixed_319_zV, pX11_mixed_339_zV, pX11_mixed_359_zV, pX11_mixed_380_zV, pX11_mixed_401_zV, pX11_mixed_422_zV, pX11_mixed_443_zV, pX11_mixed_489_zV, pX11_mixed_507_zV, pX11_mixed_523_zV, pX11_mixed_540_zV, pX11_mixed_613_zV, pX11_mixed_630_zV, pX11_mixed_651_zV, pX11_mixed_859_zV, if_true, if_false]
  have e3 : fX11_works__m_vxsat c (nI L) vt (nI st) (nI md) sat (nI d) (nI s1) (nI s2) 2 (nI 31) (nI S) (nI E) un zX z z = sat := by
    simp (decide := true) only [fX11_works__m_vxsat, fX11_mixed__m_vxsat, pX11_mixed_299_m_vxsat, pX11_mixed_319_m_vxsat, pX11_mixed_339_m_vxsat, pX11_mixed_359_m_vxsat, pX11_mixed_380_m_vxsat, pX11_mixed_401_m_vxsat, pX11_mixed_422_m_vxsat, pX11_mixed_443_m_vxsat, if_true, if_false]
  have e4 : fX11_works__zX (nI L) (nI st) (nI d) (nI s1) (nI s2) 2 (nI 31) (nI S) un zX z = zX := by
    simp (decide := true) only [fX11_works__zX, fX11_mixed__zX, pX11_mixed_523_zX, if_true, if_false]
  unfold WK
  rw [e1, e2, e3, e4]
  refine WO_b ?_
  have hmu := h.2.2.2.2.2.2.2.2.2.2.2.2.1
  have hkd := kd_plain (F := 2) (s1 := nI s1) (s2 := nI s2) (H := nI 31) (im := im) (by decide) (by decide) (show _ = (12 : Int32) by decide)
  by_cases u0 : un = 0
  · have hi : ¬ im = 0 := fun w => hmu.mp w u0
    rw [if_pos ((mb_u (by decide) _ _).mpr hi)] at hkd
    have f1 : fX11_logic un = 0 := by unfold fX11_logic; rw [if_pos u0]
    have f2 : fX11_logic__zV c (nI L) (nI st) (nI d) (nI s1) (nI s2) un z z (nI 31) = z := by unfold fX11_logic__zV; rw [if_pos u0]
    rw [f1, f2]
    exact ill_WO h hkd vt sat c _ rf re r8 rg rl
  · rw [if_neg (fun w => (mb_u (by decide) _ _).mp w (hmu.mpr u0))] at hkd
    exact logic_WO h u0 (by decide) hkd vt sat c _ rf re r8 rg rl
theorem w2_32 {S E L st d s1 s2 md : Nat} {im un tb : Int32} {x z xS zX : Nat → Int32} (h : HY S E L st d s1 s2 md 2 im un tb x z xS zX) {vt : Int32} (hvt : fX11_vlmax vt = nI (16 * E / S)) (sat : Int32) (c : Int64) (rf re r8 rg : Int32) (rl : Int64) : WK S E L st d s1 s2 md 2 (nI 32) im un tb x z xS zX vt sat c rf re r8 rg rl := by
  have e1 : fX11_works (nI st) (nI d) (nI s1) (nI s2) 2 (nI 32) (nI S) (nI E) un = fX11_alike (nI d) (nI s1) (nI s2) 2 (nI S) (nI E) un := by
    simp (decide := true) only [fX11_works, fX11_mixed, pX11_mixed_299_S1, pX11_mixed_319_S1, pX11_mixed_339_S1, pX11_mixed_359_S1, pX11_mixed_380_S1, pX11_mixed_401_S1, pX11_mixed_422_S1, pX11_mixed_443_S1, pX11_mixed_489_S1, pX11_mixed_507_S1, pX11_mixed_523_S1, pX11_mixed_540_S1, pX11_mixed_613_S1, pX11_mixed_630_S1, pX11_mixed_651_S1, pX11_mixed_859_S1, if_true, if_false]
  have e2 : fX11_works__zV c (nI L) vt (nI st) (nI md) sat (nI d) (nI s1) (nI s2) 2 (nI 32) (nI S) (nI E) un zX z z = fX11_alike__zV c (nI L) vt (nI st) (nI md) sat (nI d) (nI s1) (nI s2) 2 (nI S) (nI E) un zX z z 28 := by
    simp (decide := true) only [fX11_works__zV, fX11_mixed__zV, pX11_mixed_299_zV, pX11_mixed_319_zV, pX11_mixed_339_zV, pX11_mixed_359_zV, pX11_mixed_380_zV, pX11_mixed_401_zV, pX11_mixed_422_zV, pX11_mixed_443_zV, pX11_mixed_489_zV, pX11_mixed_507_zV, pX11_mixed_523_zV, pX11_mixed_540_zV, pX11_mixed_613_zV, pX11_mixed_630_zV, pX11_mixed_651_zV, pX11_mixed_859_zV, if_true, if_false]
  have e3 : fX11_works__m_vxsat c (nI L) vt (nI st) (nI md) sat (nI d) (nI s1) (nI s2) 2 (nI 32) (nI S) (nI E) un zX z z = fX11_alike__m_vxsat c (nI L) vt (nI st) (nI md) sat (nI d) (nI s1) (nI s2) 2 (nI S) (nI E) un zX z z 28 := by
    simp (decide := true) only [fX11_works__m_vxsat, fX11_mixed__m_vxsat, pX11_mixed_299_m_vxsat, pX11_mixed_319_m_vxsat, pX11_mixed_339_m_vxsat, pX11_mixed_359_m_vxsat, pX11_mixed_380_m_vxsat, pX11_mixed_401_m_vxsat, pX11_mixed_422_m_vxsat, pX11_mixed_443_m_vxsat, if_true, if_false]
  have e4 : fX11_works__zX (nI L) (nI st) (nI d) (nI s1) (nI s2) 2 (nI 32) (nI S) un zX z = zX := by
    simp (decide := true) only [fX11_works__zX, fX11_mixed__zX, pX11_mixed_523_zX, if_true, if_false]
  unfold WK
  rw [e1, e2, e3, e4]
  exact alike_WO h (by decide) (by rw [kd_plain (by decide) (by decide) (show _ = (1 : Int32) by decide), mb_free (by decide)]) vt sat c _ rf re r8 rg rl
theorem w2_33 {S E L st d s1 s2 md : Nat} {im un tb : Int32} {x z xS zX : Nat → Int32} (h : HY S E L st d s1 s2 md 2 im un tb x z xS zX) {vt : Int32} (hvt : fX11_vlmax vt = nI (16 * E / S)) (sat : Int32) (c : Int64) (rf re r8 rg : Int32) (rl : Int64) : WK S E L st d s1 s2 md 2 (nI 33) im un tb x z xS zX vt sat c rf re r8 rg rl := by
  have e1 : fX11_works (nI st) (nI d) (nI s1) (nI s2) 2 (nI 33) (nI S) (nI E) un = fX11_alike (nI d) (nI s1) (nI s2) 2 (nI S) (nI E) un := by
    simp (decide := true) only [fX11_works, fX11_mixed, pX11_mixed_299_S1, pX11_mixed_319_S1, pX11_mixed_339_S1, pX11_mixed_359_S1, pX11_mixed_380_S1, pX11_mixed_401_S1, pX11_mixed_422_S1, pX11_mixed_443_S1, pX11_mixed_489_S1, pX11_mixed_507_S1, pX11_mixed_523_S1, pX11_mixed_540_S1, pX11_mixed_613_S1, pX11_mixed_630_S1, pX11_mixed_651_S1, pX11_mixed_859_S1, if_true, if_false]
  have e2 : fX11_works__zV c (nI L) vt (nI st) (nI md) sat (nI d) (nI s1) (nI s2) 2 (nI 33) (nI S) (nI E) un zX z z = fX11_alike__zV c (nI L) vt (nI st) (nI md) sat (nI d) (nI s1) (nI s2) 2 (nI S) (nI E) un zX z z 29 := by
    simp (decide := true) only [fX11_works__zV, fX11_mixed__zV, pX11_mixed_299_zV, pX11_mixed_319_zV, pX11_mixed_339_zV, pX11_mixed_359_zV, pX11_mixed_380_zV, pX11_mixed_401_zV, pX11_mixed_422_zV, pX11_mixed_443_zV, pX11_mixed_489_zV, pX11_mixed_507_zV, pX11_mixed_523_zV, pX11_mixed_540_zV, pX11_mixed_613_zV, pX11_mixed_630_zV, pX11_mixed_651_zV, pX11_mixed_859_zV, if_true, if_false]
  have e3 : fX11_works__m_vxsat c (nI L) vt (nI st) (nI md) sat (nI d) (nI s1) (nI s2) 2 (nI 33) (nI S) (nI E) un zX z z = fX11_alike__m_vxsat c (nI L) vt (nI st) (nI md) sat (nI d) (nI s1) (nI s2) 2 (nI S) (nI E) un zX z z 29 := by
    simp (decide := true) only [fX11_works__m_vxsat, fX11_mixed__m_vxsat, pX11_mixed_299_m_vxsat, pX11_mixed_319_m_vxsat, pX11_mixed_339_m_vxsat, pX11_mixed_359_m_vxsat, pX11_mixed_380_m_vxsat, pX11_mixed_401_m_vxsat, pX11_mixed_422_m_vxsat, pX11_mixed_443_m_vxsat, if_true, if_false]
  have e4 : fX11_works__zX (nI L) (nI st) (nI d) (nI s1) (nI s2) 2 (nI 33) (nI S) un zX z = zX := by
    simp (decide := true) only [fX11_works__zX, fX11_mixed__zX, pX11_mixed_523_zX, if_true, if_false]
  unfold WK
  rw [e1, e2, e3, e4]
  exact alike_WO h (by decide) (by rw [kd_plain (by decide) (by decide) (show _ = (1 : Int32) by decide), mb_free (by decide)]) vt sat c _ rf re r8 rg rl
theorem w2_34 {S E L st d s1 s2 md : Nat} {im un tb : Int32} {x z xS zX : Nat → Int32} (h : HY S E L st d s1 s2 md 2 im un tb x z xS zX) {vt : Int32} (hvt : fX11_vlmax vt = nI (16 * E / S)) (sat : Int32) (c : Int64) (rf re r8 rg : Int32) (rl : Int64) : WK S E L st d s1 s2 md 2 (nI 34) im un tb x z xS zX vt sat c rf re r8 rg rl := by
  have e1 : fX11_works (nI st) (nI d) (nI s1) (nI s2) 2 (nI 34) (nI S) (nI E) un = fX11_alike (nI d) (nI s1) (nI s2) 2 (nI S) (nI E) un := by
    simp (decide := true) only [fX11_works, fX11_mixed, pX11_mixed_299_S1, pX11_mixed_319_S1, pX11_mixed_339_S1, pX11_mixed_359_S1, pX11_mixed_380_S1, pX11_mixed_401_S1, pX11_mixed_422_S1, pX11_mixed_443_S1, pX11_mixed_489_S1, pX11_mixed_507_S1, pX11_mixed_523_S1, pX11_mixed_540_S1, pX11_mixed_613_S1, pX11_mixed_630_S1, pX11_mixed_651_S1, pX11_mixed_859_S1, if_true, if_false]
  have e2 : fX11_works__zV c (nI L) vt (nI st) (nI md) sat (nI d) (nI s1) (nI s2) 2 (nI 34) (nI S) (nI E) un zX z z = fX11_alike__zV c (nI L) vt (nI st) (nI md) sat (nI d) (nI s1) (nI s2) 2 (nI S) (nI E) un zX z z 30 := by
    simp (decide := true) only [fX11_works__zV, fX11_mixed__zV, pX11_mixed_299_zV, pX11_mixed_319_zV, pX11_mixed_339_zV, pX11_mixed_359_zV, pX11_mixed_380_zV, pX11_mixed_401_zV, pX11_mixed_422_zV, pX11_mixed_443_zV, pX11_mixed_489_zV, pX11_mixed_507_zV, pX11_mixed_523_zV, pX11_mixed_540_zV, pX11_mixed_613_zV, pX11_mixed_630_zV, pX11_mixed_651_zV, pX11_mixed_859_zV, if_true, if_false]
  have e3 : fX11_works__m_vxsat c (nI L) vt (nI st) (nI md) sat (nI d) (nI s1) (nI s2) 2 (nI 34) (nI S) (nI E) un zX z z = fX11_alike__m_vxsat c (nI L) vt (nI st) (nI md) sat (nI d) (nI s1) (nI s2) 2 (nI S) (nI E) un zX z z 30 := by
    simp (decide := true) only [fX11_works__m_vxsat, fX11_mixed__m_vxsat, pX11_mixed_299_m_vxsat, pX11_mixed_319_m_vxsat, pX11_mixed_339_m_vxsat, pX11_mixed_359_m_vxsat, pX11_mixed_380_m_vxsat, pX11_mixed_401_m_vxsat, pX11_mixed_422_m_vxsat, pX11_mixed_443_m_vxsat, if_true, if_false]
  have e4 : fX11_works__zX (nI L) (nI st) (nI d) (nI s1) (nI s2) 2 (nI 34) (nI S) un zX z = zX := by
    simp (decide := true) only [fX11_works__zX, fX11_mixed__zX, pX11_mixed_523_zX, if_true, if_false]
  unfold WK
  rw [e1, e2, e3, e4]
  exact alike_WO h (by decide) (by rw [kd_plain (by decide) (by decide) (show _ = (1 : Int32) by decide), mb_free (by decide)]) vt sat c _ rf re r8 rg rl
theorem w2_35 {S E L st d s1 s2 md : Nat} {im un tb : Int32} {x z xS zX : Nat → Int32} (h : HY S E L st d s1 s2 md 2 im un tb x z xS zX) {vt : Int32} (hvt : fX11_vlmax vt = nI (16 * E / S)) (sat : Int32) (c : Int64) (rf re r8 rg : Int32) (rl : Int64) : WK S E L st d s1 s2 md 2 (nI 35) im un tb x z xS zX vt sat c rf re r8 rg rl := by
  have e1 : fX11_works (nI st) (nI d) (nI s1) (nI s2) 2 (nI 35) (nI S) (nI E) un = fX11_alike (nI d) (nI s1) (nI s2) 2 (nI S) (nI E) un := by
    simp (decide := true) only [fX11_works, fX11_mixed, pX11_mixed_299_S1, pX11_mixed_319_S1, pX11_mixed_339_S1, pX11_mixed_359_S1, pX11_mixed_380_S1, pX11_mixed_401_S1, pX11_mixed_422_S1, pX11_mixed_443_S1, pX11_mixed_489_S1, pX11_mixed_507_S1, pX11_mixed_523_S1, pX11_mixed_540_S1, pX11_mixed_613_S1, pX11_mixed_630_S1, pX11_mixed_651_S1, pX11_mixed_859_S1, if_true, if_false]
  have e2 : fX11_works__zV c (nI L) vt (nI st) (nI md) sat (nI d) (nI s1) (nI s2) 2 (nI 35) (nI S) (nI E) un zX z z = fX11_alike__zV c (nI L) vt (nI st) (nI md) sat (nI d) (nI s1) (nI s2) 2 (nI S) (nI E) un zX z z 31 := by
    simp (decide := true) only [fX11_works__zV, fX11_mixed__zV, pX11_mixed_299_zV, pX11_mixed_319_zV, pX11_mixed_339_zV, pX11_mixed_359_zV, pX11_mixed_380_zV, pX11_mixed_401_zV, pX11_mixed_422_zV, pX11_mixed_443_zV, pX11_mixed_489_zV, pX11_mixed_507_zV, pX11_mixed_523_zV, pX11_mixed_540_zV, pX11_mixed_613_zV, pX11_mixed_630_zV, pX11_mixed_651_zV, pX11_mixed_859_zV, if_true, if_false]
  have e3 : fX11_works__m_vxsat c (nI L) vt (nI st) (nI md) sat (nI d) (nI s1) (nI s2) 2 (nI 35) (nI S) (nI E) un zX z z = fX11_alike__m_vxsat c (nI L) vt (nI st) (nI md) sat (nI d) (nI s1) (nI s2) 2 (nI S) (nI E) un zX z z 31 := by
    simp (decide := true) only [fX11_works__m_vxsat, fX11_mixed__m_vxsat, pX11_mixed_299_m_vxsat, pX11_mixed_319_m_vxsat, pX11_mixed_339_m_vxsat, pX11_mixed_359_m_vxsat, pX11_mixed_380_m_vxsat, pX11_mixed_401_m_vxsat, pX11_mixed_422_m_vxsat, pX11_mixed_443_m_vxsat, if_true, if_false]
  have e4 : fX11_works__zX (nI L) (nI st) (nI d) (nI s1) (nI s2) 2 (nI 35) (nI S) un zX z = zX := by
    simp (decide := true) only [fX11_works__zX, fX11_mixed__zX, pX11_mixed_523_zX, if_true, if_false]
  unfold WK
  rw [e1, e2, e3, e4]
  exact alike_WO h (by decide) (by rw [kd_plain (by decide) (by decide) (show _ = (1 : Int32) by decide), mb_free (by decide)]) vt sat c _ rf re r8 rg rl
theorem w2_36 {S E L st d s1 s2 md : Nat} {im un tb : Int32} {x z xS zX : Nat → Int32} (h : HY S E L st d s1 s2 md 2 im un tb x z xS zX) {vt : Int32} (hvt : fX11_vlmax vt = nI (16 * E / S)) (sat : Int32) (c : Int64) (rf re r8 rg : Int32) (rl : Int64) : WK S E L st d s1 s2 md 2 (nI 36) im un tb x z xS zX vt sat c rf re r8 rg rl := by
  have e1 : fX11_works (nI st) (nI d) (nI s1) (nI s2) 2 (nI 36) (nI S) (nI E) un = fX11_alike (nI d) (nI s1) (nI s2) 2 (nI S) (nI E) un := by
    simp (decide := true) only [fX11_works, fX11_mixed, pX11_mixed_299_S1, pX11_mixed_319_S1, pX11_mixed_339_S1, pX11_mixed_359_S1, pX11_mixed_380_S1, pX11_mixed_401_S1, pX11_mixed_422_S1, pX11_mixed_443_S1, pX11_mixed_489_S1, pX11_mixed_507_S1, pX11_mixed_523_S1, pX11_mixed_540_S1, pX11_mixed_613_S1, pX11_mixed_630_S1, pX11_mixed_651_S1, pX11_mixed_859_S1, if_true, if_false]
  have e2 : fX11_works__zV c (nI L) vt (nI st) (nI md) sat (nI d) (nI s1) (nI s2) 2 (nI 36) (nI S) (nI E) un zX z z = fX11_alike__zV c (nI L) vt (nI st) (nI md) sat (nI d) (nI s1) (nI s2) 2 (nI S) (nI E) un zX z z 26 := by
    simp (decide := true) only [fX11_works__zV, fX11_mixed__zV, pX11_mixed_299_zV, pX11_mixed_319_zV, pX11_mixed_339_zV, pX11_mixed_359_zV, pX11_mixed_380_zV, pX11_mixed_401_zV, pX11_mixed_422_zV, pX11_mixed_443_zV, pX11_mixed_489_zV, pX11_mixed_507_zV, pX11_mixed_523_zV, pX11_mixed_540_zV, pX11_mixed_613_zV, pX11_mixed_630_zV, pX11_mixed_651_zV, pX11_mixed_859_zV, if_true, if_false]
  have e3 : fX11_works__m_vxsat c (nI L) vt (nI st) (nI md) sat (nI d) (nI s1) (nI s2) 2 (nI 36) (nI S) (nI E) un zX z z = fX11_alike__m_vxsat c (nI L) vt (nI st) (nI md) sat (nI d) (nI s1) (nI s2) 2 (nI S) (nI E) un zX z z 26 := by
    simp (decide := true) only [fX11_works__m_vxsat, fX11_mixed__m_vxsat, pX11_mixed_299_m_vxsat, pX11_mixed_319_m_vxsat, pX11_mixed_339_m_vxsat, pX11_mixed_359_m_vxsat, pX11_mixed_380_m_vxsat, pX11_mixed_401_m_vxsat, pX11_mixed_422_m_vxsat, pX11_mixed_443_m_vxsat, if_true, if_false]
  have e4 : fX11_works__zX (nI L) (nI st) (nI d) (nI s1) (nI s2) 2 (nI 36) (nI S) un zX z = zX := by
    simp (decide := true) only [fX11_works__zX, fX11_mixed__zX, pX11_mixed_523_zX, if_true, if_false]
  unfold WK
  rw [e1, e2, e3, e4]
  exact alike_WO h (by decide) (by rw [kd_plain (by decide) (by decide) (show _ = (1 : Int32) by decide), mb_free (by decide)]) vt sat c _ rf re r8 rg rl
theorem w2_37 {S E L st d s1 s2 md : Nat} {im un tb : Int32} {x z xS zX : Nat → Int32} (h : HY S E L st d s1 s2 md 2 im un tb x z xS zX) {vt : Int32} (hvt : fX11_vlmax vt = nI (16 * E / S)) (sat : Int32) (c : Int64) (rf re r8 rg : Int32) (rl : Int64) : WK S E L st d s1 s2 md 2 (nI 37) im un tb x z xS zX vt sat c rf re r8 rg rl := by
  have e1 : fX11_works (nI st) (nI d) (nI s1) (nI s2) 2 (nI 37) (nI S) (nI E) un = fX11_alike (nI d) (nI s1) (nI s2) 2 (nI S) (nI E) un := by
    simp (decide := true) only [fX11_works, fX11_mixed, pX11_mixed_299_S1, pX11_mixed_319_S1, pX11_mixed_339_S1, pX11_mixed_359_S1, pX11_mixed_380_S1, pX11_mixed_401_S1, pX11_mixed_422_S1, pX11_mixed_443_S1, pX11_mixed_489_S1, pX11_mixed_507_S1, pX11_mixed_523_S1, pX11_mixed_540_S1, pX11_mixed_613_S1, pX11_mixed_630_S1, pX11_mixed_651_S1, pX11_mixed_859_S1, if_true, if_false]
  have e2 : fX11_works__zV c (nI L) vt (nI st) (nI md) sat (nI d) (nI s1) (nI s2) 2 (nI 37) (nI S) (nI E) un zX z z = fX11_alike__zV c (nI L) vt (nI st) (nI md) sat (nI d) (nI s1) (nI s2) 2 (nI S) (nI E) un zX z z 24 := by
    simp (decide := true) only [fX11_works__zV, fX11_mixed__zV, pX11_mixed_299_zV, pX11_mixed_319_zV, pX11_mixed_339_zV, pX11_mixed_359_zV, pX11_mixed_380_zV, pX11_mixed_401_zV, pX11_mixed_422_zV, pX11_mixed_443_zV, pX11_mixed_489_zV, pX11_mixed_507_zV, pX11_mixed_523_zV, pX11_mixed_540_zV, pX11_mixed_613_zV, pX11_mixed_630_zV, pX11_mixed_651_zV, pX11_mixed_859_zV, if_true, if_false]
  have e3 : fX11_works__m_vxsat c (nI L) vt (nI st) (nI md) sat (nI d) (nI s1) (nI s2) 2 (nI 37) (nI S) (nI E) un zX z z = fX11_alike__m_vxsat c (nI L) vt (nI st) (nI md) sat (nI d) (nI s1) (nI s2) 2 (nI S) (nI E) un zX z z 24 := by
    simp (decide := true) only [fX11_works__m_vxsat, fX11_mixed__m_vxsat, pX11_mixed_299_m_vxsat, pX11_mixed_319_m_vxsat, pX11_mixed_339_m_vxsat, pX11_mixed_359_m_vxsat, pX11_mixed_380_m_vxsat, pX11_mixed_401_m_vxsat, pX11_mixed_422_m_vxsat, pX11_mixed_443_m_vxsat, if_true, if_false]
  have e4 : fX11_works__zX (nI L) (nI st) (nI d) (nI s1) (nI s2) 2 (nI 37) (nI S) un zX z = zX := by
    simp (decide := true) only [fX11_works__zX, fX11_mixed__zX, pX11_mixed_523_zX, if_true, if_false]
  unfold WK
  rw [e1, e2, e3, e4]
  exact alike_WO h (by decide) (by rw [kd_plain (by decide) (by decide) (show _ = (1 : Int32) by decide), mb_free (by decide)]) vt sat c _ rf re r8 rg rl
theorem w2_38 {S E L st d s1 s2 md : Nat} {im un tb : Int32} {x z xS zX : Nat → Int32} (h : HY S E L st d s1 s2 md 2 im un tb x z xS zX) {vt : Int32} (hvt : fX11_vlmax vt = nI (16 * E / S)) (sat : Int32) (c : Int64) (rf re r8 rg : Int32) (rl : Int64) : WK S E L st d s1 s2 md 2 (nI 38) im un tb x z xS zX vt sat c rf re r8 rg rl := by
  have e1 : fX11_works (nI st) (nI d) (nI s1) (nI s2) 2 (nI 38) (nI S) (nI E) un = fX11_alike (nI d) (nI s1) (nI s2) 2 (nI S) (nI E) un := by
    simp (decide := true) only [fX11_works, fX11_mixed, pX11_mixed_299_S1, pX11_mixed_319_S1, pX11_mixed_339_S1, pX11_mixed_359_S1, pX11_mixed_380_S1, pX11_mixed_401_S1, pX11_mixed_422_S1, pX11_mixed_443_S1, pX11_mixed_489_S1, pX11_mixed_507_S1, pX11_mixed_523_S1, pX11_mixed_540_S1, pX11_mixed_613_S1, pX11_mixed_630_S1, pX11_mixed_651_S1, pX11_mixed_859_S1, if_true, if_false]
  have e2 : fX11_works__zV c (nI L) vt (nI st) (nI md) sat (nI d) (nI s1) (nI s2) 2 (nI 38) (nI S) (nI E) un zX z z = fX11_alike__zV c (nI L) vt (nI st) (nI md) sat (nI d) (nI s1) (nI s2) 2 (nI S) (nI E) un zX z z 27 := by
    simp (decide := true) only [fX11_works__zV, fX11_mixed__zV, pX11_mixed_299_zV, pX11_mixed_319_zV, pX11_mixed_339_zV, pX11_mixed_359_zV, pX11_mixed_380_zV, pX11_mixed_401_zV, pX11_mixed_422_zV, pX11_mixed_443_zV, pX11_mixed_489_zV, pX11_mixed_507_zV, pX11_mixed_523_zV, pX11_mixed_540_zV, pX11_mixed_613_zV, pX11_mixed_630_zV, pX11_mixed_651_zV, pX11_mixed_859_zV, if_true, if_false]
  have e3 : fX11_works__m_vxsat c (nI L) vt (nI st) (nI md) sat (nI d) (nI s1) (nI s2) 2 (nI 38) (nI S) (nI E) un zX z z = fX11_alike__m_vxsat c (nI L) vt (nI st) (nI md) sat (nI d) (nI s1) (nI s2) 2 (nI S) (nI E) un zX z z 27 := by
    simp (decide := true) only [fX11_works__m_vxsat, fX11_mixed__m_vxsat, pX11_mixed_299_m_vxsat, pX11_mixed_319_m_vxsat, pX11_mixed_339_m_vxsat, pX11_mixed_359_m_vxsat, pX11_mixed_380_m_vxsat, pX11_mixed_401_m_vxsat, pX11_mixed_422_m_vxsat, pX11_mixed_443_m_vxsat, if_true, if_false]
  have e4 : fX11_works__zX (nI L) (nI st) (nI d) (nI s1) (nI s2) 2 (nI 38) (nI S) un zX z = zX := by
    simp (decide := true) only [fX11_works__zX, fX11_mixed__zX, pX11_mixed_523_zX, if_true, if_false]
  unfold WK
  rw [e1, e2, e3, e4]
  exact alike_WO h (by decide) (by rw [kd_plain (by decide) (by decide) (show _ = (1 : Int32) by decide), mb_free (by decide)]) vt sat c _ rf re r8 rg rl
theorem w2_39 {S E L st d s1 s2 md : Nat} {im un tb : Int32} {x z xS zX : Nat → Int32} (h : HY S E L st d s1 s2 md 2 im un tb x z xS zX) {vt : Int32} (hvt : fX11_vlmax vt = nI (16 * E / S)) (sat : Int32) (c : Int64) (rf re r8 rg : Int32) (rl : Int64) : WK S E L st d s1 s2 md 2 (nI 39) im un tb x z xS zX vt sat c rf re r8 rg rl := by
  have e1 : fX11_works (nI st) (nI d) (nI s1) (nI s2) 2 (nI 39) (nI S) (nI E) un = fX11_alike (nI d) (nI s1) (nI s2) 2 (nI S) (nI E) un := by
    simp (decide := true) only [fX11_works, fX11_mixed, pX11_mixed_299_S1, pX11_mixed_319_S1, pX11_mixed_339_S1, pX11_mixed_359_S1, pX11_mixed_380_S1, pX11_mixed_401_S1, pX11_mixed_422_S1, pX11_mixed_443_S1, pX11_mixed_489_S1, pX11_mixed_507_S1, pX11_mixed_523_S1, pX11_mixed_540_S1, pX11_mixed_613_S1, pX11_mixed_630_S1, pX11_mixed_651_S1, pX11_mixed_859_S1, if_true, if_false]
  have e2 : fX11_works__zV c (nI L) vt (nI st) (nI md) sat (nI d) (nI s1) (nI s2) 2 (nI 39) (nI S) (nI E) un zX z z = fX11_alike__zV c (nI L) vt (nI st) (nI md) sat (nI d) (nI s1) (nI s2) 2 (nI S) (nI E) un zX z z 25 := by
    simp (decide := true) only [fX11_works__zV, fX11_mixed__zV, pX11_mixed_299_zV, pX11_mixed_319_zV, pX11_mixed_339_zV, pX11_mixed_359_zV, pX11_mixed_380_zV, pX11_mixed_401_zV, pX11_mixed_422_zV, pX11_mixed_443_zV, pX11_mixed_489_zV, pX11_mixed_507_zV, pX11_mixed_523_zV, pX11_mixed_540_zV, pX11_mixed_613_zV, pX11_mixed_630_zV, pX11_mixed_651_zV, pX11_mixed_859_zV, if_true, if_false]
  have e3 : fX11_works__m_vxsat c (nI L) vt (nI st) (nI md) sat (nI d) (nI s1) (nI s2) 2 (nI 39) (nI S) (nI E) un zX z z = fX11_alike__m_vxsat c (nI L) vt (nI st) (nI md) sat (nI d) (nI s1) (nI s2) 2 (nI S) (nI E) un zX z z 25 := by
    simp (decide := true) only [fX11_works__m_vxsat, fX11_mixed__m_vxsat, pX11_mixed_299_m_vxsat, pX11_mixed_319_m_vxsat, pX11_mixed_339_m_vxsat, pX11_mixed_359_m_vxsat, pX11_mixed_380_m_vxsat, pX11_mixed_401_m_vxsat, pX11_mixed_422_m_vxsat, pX11_mixed_443_m_vxsat, if_true, if_false]
  have e4 : fX11_works__zX (nI L) (nI st) (nI d) (nI s1) (nI s2) 2 (nI 39) (nI S) un zX z = zX := by
    simp (decide := true) only [fX11_works__zX, fX11_mixed__zX, pX11_mixed_523_zX, if_true, if_false]
  unfold WK
  rw [e1, e2, e3, e4]
  exact alike_WO h (by decide) (by rw [kd_plain (by decide) (by decide) (show _ = (1 : Int32) by decide), mb_free (by decide)]) vt sat c _ rf re r8 rg rl
theorem w2_40 {S E L st d s1 s2 md : Nat} {im un tb : Int32} {x z xS zX : Nat → Int32} (h : HY S E L st d s1 s2 md 2 im un tb x z xS zX) {vt : Int32} (hvt : fX11_vlmax vt = nI (16 * E / S)) (sat : Int32) (c : Int64) (rf re r8 rg : Int32) (rl : Int64) : WK S E L st d s1 s2 md 2 (nI 40) im un tb x z xS zX vt sat c rf re r8 rg rl := by
  have e1 : fX11_works (nI st) (nI d) (nI s1) (nI s2) 2 (nI 40) (nI S) (nI E) un = 0 := by
    simp (decide := true) only [fX11_works, fX11_mixed, pX11_mixed_299_S1, pX11_mixed_319_S1, pX11_mixed_339_S1, pX11_mixed_359_S1, pX11_mixed_380_S1, pX11_mixed_401_S1, pX11_mixed_422_S1, pX11_mixed_443_S1, pX11_mixed_489_S1, pX11_mixed_507_S1, pX11_mixed_523_S1, pX11_mixed_540_S1, pX11_mixed_613_S1, pX11_mixed_630_S1, pX11_mixed_651_S1, pX11_mixed_859_S1, if_true, if_false]
  have e2 : fX11_works__zV c (nI L) vt (nI st) (nI md) sat (nI d) (nI s1) (nI s2) 2 (nI 40) (nI S) (nI E) un zX z z = z := by
    simp (decide := true) only [fX11_works__zV, fX11_mixed__zV, pX11_mixed_299_zV, pX11_mixed_319_zV, pX11_mixed_339_zV, pX11_mixed_359_zV, pX11_mixed_380_zV, pX11_mixed_401_zV, pX11_mixed_422_zV, pX11_mixed_443_zV, pX11_mixed_489_zV, pX11_mixed_507_zV, pX11_mixed_523_zV, pX11_mixed_540_zV, pX11_mixed_613_zV, pX11_mixed_630_zV, pX11_mixed_651_zV, pX11_mixed_859_zV, if_true, if_false]
  have e3 : fX11_works__m_vxsat c (nI L) vt (nI st) (nI md) sat (nI d) (nI s1) (nI s2) 2 (nI 40) (nI S) (nI E) un zX z z = sat := by
    simp (decide := true) only [fX11_works__m_vxsat, fX11_mixed__m_vxsat, pX11_mixed_299_m_vxsat, pX11_mixed_319_m_vxsat, pX11_mixed_339_m_vxsat, pX11_mixed_359_m_vxsat, pX11_mixed_380_m_vxsat, pX11_mixed_401_m_vxsat, pX11_mixed_422_m_vxsat, pX11_mixed_443_m_vxsat, if_true, if_false]
  have e4 : fX11_works__zX (nI L) (nI st) (nI d) (nI s1) (nI s2) 2 (nI 40) (nI S) un zX z = zX := by
    simp (decide := true) only [fX11_works__zX, fX11_mixed__zX, pX11_mixed_523_zX, if_true, if_false]
  unfold WK
  rw [e1, e2, e3, e4]
  exact ill_WO h (kd_none (by decide)) vt sat c _ rf re r8 rg rl
theorem w2_41 {S E L st d s1 s2 md : Nat} {im un tb : Int32} {x z xS zX : Nat → Int32} (h : HY S E L st d s1 s2 md 2 im un tb x z xS zX) {vt : Int32} (hvt : fX11_vlmax vt = nI (16 * E / S)) (sat : Int32) (c : Int64) (rf re r8 rg : Int32) (rl : Int64) : WK S E L st d s1 s2 md 2 (nI 41) im un tb x z xS zX vt sat c rf re r8 rg rl := by
  have e1 : fX11_works (nI st) (nI d) (nI s1) (nI s2) 2 (nI 41) (nI S) (nI E) un = fX11_alike (nI d) (nI s1) (nI s2) 2 (nI S) (nI E) un := by
    simp (decide := true) only [fX11_works, fX11_mixed, pX11_mixed_299_S1, pX11_mixed_319_S1, pX11_mixed_339_S1, pX11_mixed_359_S1, pX11_mixed_380_S1, pX11_mixed_401_S1, pX11_mixed_422_S1, pX11_mixed_443_S1, pX11_mixed_489_S1, pX11_mixed_507_S1, pX11_mixed_523_S1, pX11_mixed_540_S1, pX11_mixed_613_S1, pX11_mixed_630_S1, pX11_mixed_651_S1, pX11_mixed_859_S1, if_true, if_false]
  have e2 : fX11_works__zV c (nI L) vt (nI st) (nI md) sat (nI d) (nI s1) (nI s2) 2 (nI 41) (nI S) (nI E) un zX z z = fX11_alike__zV c (nI L) vt (nI st) (nI md) sat (nI d) (nI s1) (nI s2) 2 (nI S) (nI E) un zX z z 34 := by
    simp (decide := true) only [fX11_works__zV, fX11_mixed__zV, pX11_mixed_299_zV, pX11_mixed_319_zV, pX11_mixed_339_zV, pX11_mixed_359_zV, pX11_mixed_380_zV, pX11_mixed_401_zV, pX11_mixed_422_zV, pX11_mixed_443_zV, pX11_mixed_489_zV, pX11_mixed_507_zV, pX11_mixed_523_zV, pX11_mixed_540_zV, pX11_mixed_613_zV, pX11_mixed_630_zV, pX11_mixed_651_zV, pX11_mixed_859_zV, if_true, if_false]
  have e3 : fX11_works__m_vxsat c (nI L) vt (nI st) (nI md) sat (nI d) (nI s1) (nI s2) 2 (nI 41) (nI S) (nI E) un zX z z = fX11_alike__m_vxsat c (nI L) vt (nI st) (nI md) sat (nI d) (nI s1) (nI s2) 2 (nI S) (nI E) un zX z z 34 := by
    simp (decide := true) only [fX11_works__m_vxsat, fX11_mixed__m_vxsat, pX11_mixed_299_m_vxsat, pX11_mixed_319_m_vxsat, pX11_mixed_339_m_vxsat, pX11_mixed_359_m_vxsat, pX11_mixed_380_m_vxsat, pX11_mixed_401_m_vxsat, pX11_mixed_422_m_vxsat, pX11_mixed_443_m_vxsat, if_true, if_false]
  have e4 : fX11_works__zX (nI L) (nI st) (nI d) (nI s1) (nI s2) 2 (nI 41) (nI S) un zX z = zX := by
    simp (decide := true) only [fX11_works__zX, fX11_mixed__zX, pX11_mixed_523_zX, if_true, if_false]
  unfold WK
  rw [e1, e2, e3, e4]
  exact alike_WO h (by decide) (by rw [kd_plain (by decide) (by decide) (show _ = (1 : Int32) by decide), mb_free (by decide)]) vt sat c _ rf re r8 rg rl
theorem w2_42 {S E L st d s1 s2 md : Nat} {im un tb : Int32} {x z xS zX : Nat → Int32} (h : HY S E L st d s1 s2 md 2 im un tb x z xS zX) {vt : Int32} (hvt : fX11_vlmax vt = nI (16 * E / S)) (sat : Int32) (c : Int64) (rf re r8 rg : Int32) (rl : Int64) : WK S E L st d s1 s2 md 2 (nI 42) im un tb x z xS zX vt sat c rf re r8 rg rl := by
  have e1 : fX11_works (nI st) (nI d) (nI s1) (nI s2) 2 (nI 42) (nI S) (nI E) un = 0 := by
    simp (decide := true) only [fX11_works, fX11_mixed, pX11_mixed_299_S1, pX11_mixed_319_S1, pX11_mixed_339_S1, pX11_mixed_359_S1, pX11_mixed_380_S1, pX11_mixed_401_S1, pX11_mixed_422_S1, pX11_mixed_443_S1, pX11_mixed_489_S1, pX11_mixed_507_S1, pX11_mixed_523_S1, pX11_mixed_540_S1, pX11_mixed_613_S1, pX11_mixed_630_S1, pX11_mixed_651_S1, pX11_mixed_859_S1, if_true, if_false]
  have e2 : fX11_works__zV c (nI L) vt (nI st) (nI md) sat (nI d) (nI s1) (nI s2) 2 (nI 42) (nI S) (nI E) un zX z z = z := by
    simp (decide := true) only [fX11_works__zV, fX11_mixed__zV, pX11_mixed_299_zV, pX11_mixed_319_zV, pX11_mixed_339_zV, pX11_mixed_359_zV, pX11_mixed_380_zV, pX11_mixed_401_zV, pX11_mixed_422_zV, pX11_mixed_443_zV, pX11_mixed_489_zV, pX11_mixed_507_zV, pX11_mixed_523_zV, pX11_mixed_540_zV, pX11_mixed_613_zV, pX11_mixed_630_zV, pX11_mixed_651_zV, pX11_mixed_859_zV, if_true, if_false]
  have e3 : fX11_works__m_vxsat c (nI L) vt (nI st) (nI md) sat (nI d) (nI s1) (nI s2) 2 (nI 42) (nI S) (nI E) un zX z z = sat := by
    simp (decide := true) only [fX11_works__m_vxsat, fX11_mixed__m_vxsat, pX11_mixed_299_m_vxsat, pX11_mixed_319_m_vxsat, pX11_mixed_339_m_vxsat, pX11_mixed_359_m_vxsat, pX11_mixed_380_m_vxsat, pX11_mixed_401_m_vxsat, pX11_mixed_422_m_vxsat, pX11_mixed_443_m_vxsat, if_true, if_false]
  have e4 : fX11_works__zX (nI L) (nI st) (nI d) (nI s1) (nI s2) 2 (nI 42) (nI S) un zX z = zX := by
    simp (decide := true) only [fX11_works__zX, fX11_mixed__zX, pX11_mixed_523_zX, if_true, if_false]
  unfold WK
  rw [e1, e2, e3, e4]
  exact ill_WO h (kd_none (by decide)) vt sat c _ rf re r8 rg rl
theorem w2_43 {S E L st d s1 s2 md : Nat} {im un tb : Int32} {x z xS zX : Nat → Int32} (h : HY S E L st d s1 s2 md 2 im un tb x z xS zX) {vt : Int32} (hvt : fX11_vlmax vt = nI (16 * E / S)) (sat : Int32) (c : Int64) (rf re r8 rg : Int32) (rl : Int64) : WK S E L st d s1 s2 md 2 (nI 43) im un tb x z xS zX vt sat c rf re r8 rg rl := by
  have e1 : fX11_works (nI st) (nI d) (nI s1) (nI s2) 2 (nI 43) (nI S) (nI E) un = fX11_alike (nI d) (nI s1) (nI s2) 2 (nI S) (nI E) un := by
    simp (decide := true) only [fX11_works, fX11_mixed, pX11_mixed_299_S1, pX11_mixed_319_S1, pX11_mixed_339_S1, pX11_mixed_359_S1, pX11_mixed_380_S1, pX11_mixed_401_S1, pX11_mixed_422_S1, pX11_mixed_443_S1, pX11_mixed_489_S1, pX11_mixed_507_S1, pX11_mixed_523_S1, pX11_mixed_540_S1, pX11_mixed_613_S1, pX11_mixed_630_S1, pX11_mixed_651_S1, pX11_mixed_859_S1, if_true, if_false]
  have e2 : fX11_works__zV c (nI L) vt (nI st) (nI md) sat (nI d) (nI s1) (nI s2) 2 (nI 43) (nI S) (nI E) un zX z z = fX11_alike__zV c (nI L) vt (nI st) (nI md) sat (nI d) (nI s1) (nI s2) 2 (nI S) (nI E) un zX z z 35 := by
    simp (decide := true) only [fX11_works__zV, fX11_mixed__zV, pX11_mixed_299_zV, pX11_mixed_319_zV, pX11_mixed_339_zV, pX11_mixed_359_zV, pX11_mixed_380_zV, pX11_mixed_401_zV, pX11_mixed_422_zV, pX11_mixed_443_zV, pX11_mixed_489_zV, pX11_mixed_507_zV, pX11_mixed_523_zV, pX11_mixed_540_zV, pX11_mixed_613_zV, pX11_mixed_630_zV, pX11_mixed_651_zV, pX11_mixed_859_zV, if_true, if_false]
  have e3 : fX11_works__m_vxsat c (nI L) vt (nI st) (nI md) sat (nI d) (nI s1) (nI s2) 2 (nI 43) (nI S) (nI E) un zX z z = fX11_alike__m_vxsat c (nI L) vt (nI st) (nI md) sat (nI d) (nI s1) (nI s2) 2 (nI S) (nI E) un zX z z 35 := by
    simp (decide := true) only [fX11_works__m_vxsat, fX11_mixed__m_vxsat, pX11_mixed_299_m_vxsat, pX11_mixed_319_m_vxsat, pX11_mixed_339_m_vxsat, pX11_mixed_359_m_vxsat, pX11_mixed_380_m_vxsat, pX11_mixed_401_m_vxsat, pX11_mixed_422_m_vxsat, pX11_mixed_443_m_vxsat, if_true, if_false]
  have e4 : fX11_works__zX (nI L) (nI st) (nI d) (nI s1) (nI s2) 2 (nI 43) (nI S) un zX z = zX := by
    simp (decide := true) only [fX11_works__zX, fX11_mixed__zX, pX11_mixed_523_zX, if_true, if_false]
  unfold WK
  rw [e1, e2, e3, e4]
  exact alike_WO h (by decide) (by rw [kd_plain (by decide) (by decide) (show _ = (1 : Int32) by decide), mb_free (by decide)]) vt sat c _ rf re r8 rg rl
theorem w2_44 {S E L st d s1 s2 md : Nat} {im un tb : Int32} {x z xS zX : Nat → Int32} (h : HY S E L st d s1 s2 md 2 im un tb x z xS zX) {vt : Int32} (hvt : fX11_vlmax vt = nI (16 * E / S)) (sat : Int32) (c : Int64) (rf re r8 rg : Int32) (rl : Int64) : WK S E L st d s1 s2 md 2 (nI 44) im un tb x z xS zX vt sat c rf re r8 rg rl := by
  have e1 : fX11_works (nI st) (nI d) (nI s1) (nI s2) 2 (nI 44) (nI S) (nI E) un = 0 := by
    simp (decide := true) only [fX11_works, fX11_mixed, pX11_mixed_299_S1, pX11_mixed_319_S1, pX11_mixed_339_S1, pX11_mixed_359_S1, pX11_mixed_380_S1, pX11_mixed_401_S1, pX11_mixed_422_S1, pX11_mixed_443_S1, pX11_mixed_489_S1, pX11_mixed_507_S1, pX11_mixed_523_S1, pX11_mixed_540_S1, pX11_mixed_613_S1, pX11_mixed_630_S1, pX11_mixed_651_S1, pX11_mixed_859_S1, if_true, if_false]
  have e2 : fX11_works__zV c (nI L) vt (nI st) (nI md) sat (nI d) (nI s1) (nI s2) 2 (nI 44) (nI S) (nI E) un zX z z = z := by
    simp (decide := true) only [fX11_works__zV, fX11_mixed__zV, pX11_mixed_299_zV, pX11_mixed_319_zV, pX11_mixed_339_zV, pX11_mixed_359_zV, pX11_mixed_380_zV, pX11_mixed_401_zV, pX11_mixed_422_zV, pX11_mixed_443_zV, pX11_mixed_489_zV, pX11_mixed_507_zV, pX11_mixed_523_zV, pX11_mixed_540_zV, pX11_mixed_613_zV, pX11_mixed_630_zV, pX11_mixed_651_zV, pX11_mixed_859_zV, if_true, if_false]
  have e3 : fX11_works__m_vxsat c (nI L) vt (nI st) (nI md) sat (nI d) (nI s1) (nI s2) 2 (nI 44) (nI S) (nI E) un zX z z = sat := by
    simp (decide := true) only [fX11_works__m_vxsat, fX11_mixed__m_vxsat, pX11_mixed_299_m_vxsat, pX11_mixed_319_m_vxsat, pX11_mixed_339_m_vxsat, pX11_mixed_359_m_vxsat, pX11_mixed_380_m_vxsat, pX11_mixed_401_m_vxsat, pX11_mixed_422_m_vxsat, pX11_mixed_443_m_vxsat, if_true, if_false]
  have e4 : fX11_works__zX (nI L) (nI st) (nI d) (nI s1) (nI s2) 2 (nI 44) (nI S) un zX z = zX := by
    simp (decide := true) only [fX11_works__zX, fX11_mixed__zX, pX11_mixed_523_zX, if_true, if_false]
  unfold WK
  rw [e1, e2, e3, e4]
  exact ill_WO h (kd_none (by decide)) vt sat c _ rf re r8 rg rl
theorem w2_45 {S E L st d s1 s2 md : Nat} {im un tb : Int32} {x z xS zX : Nat → Int32} (h : HY S E L st d s1 s2 md 2 im un tb x z xS zX) {vt : Int32} (hvt : fX11_vlmax vt = nI (16 * E / S)) (sat : Int32) (c : Int64) (rf re r8 rg : Int32) (rl : Int64) : WK S E L st d s1 s2 md 2 (nI 45) im un tb x z xS zX vt sat c rf re r8 rg rl := by
  have e1 : fX11_works (nI st) (nI d) (nI s1) (nI s2) 2 (nI 45) (nI S) (nI E) un = fX11_alike (nI d) (nI s1) (nI s2) 2 (nI S) (nI E) un := by
    simp (decide := true) only [fX11_works, fX11_mixed, pX11_mixed_299_S1, pX11_mixed_319_S1, pX11_mixed_339_S1, pX11_mixed_359_S1, pX11_mixed_380_S1, pX11_mixed_401_S1, pX11_mixed_422_S1, pX11_mixed_443_S1, pX11_mixed_489_S1, pX11_mixed_507_S1, pX11_mixed_523_S1, pX11_mixed_540_S1, pX11_mixed_613_S1, pX11_mixed_630_S1, pX11_mixed_651_S1, pX11_mixed_859_S1, if_true, if_false]
  have e2 : fX11_works__zV c (nI L) vt (nI st) (nI md) sat (nI d) (nI s1) (nI s2) 2 (nI 45) (nI S) (nI E) un zX z z = fX11_alike__zV c (nI L) vt (nI st) (nI md) sat (nI d) (nI s1) (nI s2) 2 (nI S) (nI E) un zX z z 32 := by
    simp (decide := true) only [fX11_works__zV, fX11_mixed__zV, pX11_mixed_299_zV, pX11_mixed_319_zV, pX11_mixed_339_zV, pX11_mixed_359_zV, pX11_mixed_380_zV, pX11_mixed_401_zV, pX11_mixed_422_zV, pX11_mixed_443_zV, pX11_mixed_489_zV, pX11_mixed_507_zV, pX11_mixed_523_zV, pX11_mixed_540_zV, pX11_mixed_613_zV, pX11_mixed_630_zV, pX11_mixed_651_zV, pX11_mixed_859_zV, if_true, if_false]
  have e3 : fX11_works__m_vxsat c (nI L) vt (nI st) (nI md) sat (nI d) (nI s1) (nI s2) 2 (nI 45) (nI S) (nI E) un zX z z = fX11_alike__m_vxsat c (nI L) vt (nI st) (nI md) sat (nI d) (nI s1) (nI s2) 2 (nI S) (nI E) un zX z z 32 := by
    simp (decide := true) only [fX11_works__m_vxsat, fX11_mixed__m_vxsat, pX11_mixed_299_m_vxsat, pX11_mixed_319_m_vxsat, pX11_mixed_339_m_vxsat, pX11_mixed_359_m_vxsat, pX11_mixed_380_m_vxsat, pX11_mixed_401_m_vxsat, pX11_mixed_422_m_vxsat, pX11_mixed_443_m_vxsat, if_true, if_false]
  have e4 : fX11_works__zX (nI L) (nI st) (nI d) (nI s1) (nI s2) 2 (nI 45) (nI S) un zX z = zX := by
    simp (decide := true) only [fX11_works__zX, fX11_mixed__zX, pX11_mixed_523_zX, if_true, if_false]
  unfold WK
  rw [e1, e2, e3, e4]
  exact alike_WO h (by decide) (by rw [kd_plain (by decide) (by decide) (show _ = (1 : Int32) by decide), mb_free (by decide)]) vt sat c _ rf re r8 rg rl
theorem w2_46 {S E L st d s1 s2 md : Nat} {im un tb : Int32} {x z xS zX : Nat → Int32} (h : HY S E L st d s1 s2 md 2 im un tb x z xS zX) {vt : Int32} (hvt : fX11_vlmax vt = nI (16 * E / S)) (sat : Int32) (c : Int64) (rf re r8 rg : Int32) (rl : Int64) : WK S E L st d s1 s2 md 2 (nI 46) im un tb x z xS zX vt sat c rf re r8 rg rl := by
  have e1 : fX11_works (nI st) (nI d) (nI s1) (nI s2) 2 (nI 46) (nI S) (nI E) un = 0 := by
    simp (decide := true) only [fX11_works, fX11_mixed, pX11_mixed_299_S1, pX11_mixed_319_S1, pX11_mixed_339_S1, pX11_mixed_359_S1, pX11_mixed_380_S1, pX11_mixed_401_S1, pX11_mixed_422_S1, pX11_mixed_443_S1, pX11_mixed_489_S1, pX11_mixed_507_S1, pX11_mixed_523_S1, pX11_mixed_540_S1, pX11_mixed_613_S1, pX11_mixed_630_S1, pX11_mixed_651_S1, pX11_mixed_859_S1, if_true, if_false]
  have e2 : fX11_works__zV c (nI L) vt (nI st) (nI md) sat (nI d) (nI s1) (nI s2) 2 (nI 46) (nI S) (nI E) un zX z z = z := by
    simp (decide := true) only [fX11_works__zV, fX11_mixed__zV, pX11_mixed_299_zV, pX11_mixed_319_zV, pX11_mixed_339_zV, pX11_mixed_359_zV, pX11_mixed_380_zV, pX11_mixed_401_zV, pX11_mixed_422_zV, pX11_mixed_443_zV, pX11_mixed_489_zV, pX11_mixed_507_zV, pX11_mixed_523_zV, pX11_mixed_540_zV, pX11_mixed_613_zV, pX11_mixed_630_zV, pX11_mixed_651_zV, pX11_mixed_859_zV, if_true, if_false]
  have e3 : fX11_works__m_vxsat c (nI L) vt (nI st) (nI md) sat (nI d) (nI s1) (nI s2) 2 (nI 46) (nI S) (nI E) un zX z z = sat := by
    simp (decide := true) only [fX11_works__m_vxsat, fX11_mixed__m_vxsat, pX11_mixed_299_m_vxsat, pX11_mixed_319_m_vxsat, pX11_mixed_339_m_vxsat, pX11_mixed_359_m_vxsat, pX11_mixed_380_m_vxsat, pX11_mixed_401_m_vxsat, pX11_mixed_422_m_vxsat, pX11_mixed_443_m_vxsat, if_true, if_false]
  have e4 : fX11_works__zX (nI L) (nI st) (nI d) (nI s1) (nI s2) 2 (nI 46) (nI S) un zX z = zX := by
    simp (decide := true) only [fX11_works__zX, fX11_mixed__zX, pX11_mixed_523_zX, if_true, if_false]
  unfold WK
  rw [e1, e2, e3, e4]
  exact ill_WO h (kd_none (by decide)) vt sat c _ rf re r8 rg rl
theorem w2_47 {S E L st d s1 s2 md : Nat} {im un tb : Int32} {x z xS zX : Nat → Int32} (h : HY S E L st d s1 s2 md 2 im un tb x z xS zX) {vt : Int32} (hvt : fX11_vlmax vt = nI (16 * E / S)) (sat : Int32) (c : Int64) (rf re r8 rg : Int32) (rl : Int64) : WK S E L st d s1 s2 md 2 (nI 47) im un tb x z xS zX vt sat c rf re r8 rg rl := by
  have e1 : fX11_works (nI st) (nI d) (nI s1) (nI s2) 2 (nI 47) (nI S) (nI E) un = fX11_alike (nI d) (nI s1) (nI s2) 2 (nI S) (nI E) un := by
    simp (decide := true) only [fX11_works, fX11_mixed, pX11_mixed_299_S1, pX11_mixed_319_S1, pX11_mixed_339_S1, pX11_mixed_359_S1, pX11_mixed_380_S1, pX11_mixed_401_S1, pX11_mixed_422_S1, pX11_mixed_443_S1, pX11_mixed_489_S1, pX11_mixed_507_S1, pX11_mixed_523_S1, pX11_mixed_540_S1, pX11_mixed_613_S1, pX11_mixed_630_S1, pX11_mixed_651_S1, pX11_mixed_859_S1, if_true, if_false]
  have e2 : fX11_works__zV c (nI L) vt (nI st) (nI md) sat (nI d) (nI s1) (nI s2) 2 (nI 47) (nI S) (nI E) un zX z z = fX11_alike__zV c (nI L) vt (nI st) (nI md) sat (nI d) (nI s1) (nI s2) 2 (nI S) (nI E) un zX z z 33 := by
    simp (decide := true) only [fX11_works__zV, fX11_mixed__zV, pX11_mixed_299_zV, pX11_mixed_319_zV, pX11_mixed_339_zV, pX11_mixed_359_zV, pX11_mixed_380_zV, pX11_mixed_401_zV, pX11_mixed_422_zV, pX11_mixed_443_zV, pX11_mixed_489_zV, pX11_mixed_507_zV, pX11_mixed_523_zV, pX11_mixed_540_zV, pX11_mixed_613_zV, pX11_mixed_630_zV, pX11_mixed_651_zV, pX11_mixed_859_zV, if_true, if_false]
  have e3 : fX11_works__m_vxsat c (nI L) vt (nI st) (nI md) sat (nI d) (nI s1) (nI s2) 2 (nI 47) (nI S) (nI E) un zX z z = fX11_alike__m_vxsat c (nI L) vt (nI st) (nI md) sat (nI d) (nI s1) (nI s2) 2 (nI S) (nI E) un zX z z 33 := by
    simp (decide := true) only [fX11_works__m_vxsat, fX11_mixed__m_vxsat, pX11_mixed_299_m_vxsat, pX11_mixed_319_m_vxsat, pX11_mixed_339_m_vxsat, pX11_mixed_359_m_vxsat, pX11_mixed_380_m_vxsat, pX11_mixed_401_m_vxsat, pX11_mixed_422_m_vxsat, pX11_mixed_443_m_vxsat, if_true, if_false]
  have e4 : fX11_works__zX (nI L) (nI st) (nI d) (nI s1) (nI s2) 2 (nI 47) (nI S) un zX z = zX := by
    simp (decide := true) only [fX11_works__zX, fX11_mixed__zX, pX11_mixed_523_zX, if_true, if_false]
  unfold WK
  rw [e1, e2, e3, e4]
  exact alike_WO h (by decide) (by rw [kd_plain (by decide) (by decide) (show _ = (1 : Int32) by decide), mb_free (by decide)]) vt sat c _ rf re r8 rg rl
theorem w2_48 {S E L st d s1 s2 md : Nat} {im un tb : Int32} {x z xS zX : Nat → Int32} (h : HY S E L st d s1 s2 md 2 im un tb x z xS zX) {vt : Int32} (hvt : fX11_vlmax vt = nI (16 * E / S)) (sat : Int32) (c : Int64) (rf re r8 rg : Int32) (rl : Int64) : WK S E L st d s1 s2 md 2 (nI 48) im un tb x z xS zX vt sat c rf re r8 rg rl := by
  have e1 : fX11_works (nI st) (nI d) (nI s1) (nI s2) 2 (nI 48) (nI S) (nI E) un = fX11_widens (nI d) (nI s1) (nI s2) 2 (nI S) (nI E) un 0 := by
    simp (decide := true) only [fX11_works, fX11_mixed, pX11_mixed_299_S1, pX11_mixed_319_S1, pX11_mixed_339_S1, pX11_mixed_359_S1, pX11_mixed_380_S1, pX11_mixed_401_S1, pX11_mixed_422_S1, pX11_mixed_443_S1, pX11_mixed_489_S1, pX11_mixed_507_S1, pX11_mixed_523_S1, pX11_mixed_540_S1, pX11_mixed_613_S1, pX11_mixed_630_S1, pX11_mixed_651_S1, pX11_mixed_859_S1, if_true, if_false]
  have e2 : fX11_works__zV c (nI L) vt (nI st) (nI md) sat (nI d) (nI s1) (nI s2) 2 (nI 48) (nI S) (nI E) un zX z z = fX11_widens__zV c (nI L) vt (nI st) (nI d) (nI s1) (nI s2) 2 (nI S) (nI E) un zX z z 0 0 0 := by
    simp (decide := true) only [fX11_works__zV, fX11_mixed__zV, pX11_mixed_299_zV, pX11_mixed_319_zV, pX11_mixed_339_zV, pX11_mixed_359_zV, pX11_mixed_380_zV, pX11_mixed_401_zV, pX11_mixed_422_zV, pX11_mixed_443_zV, pX11_mixed_489_zV, pX11_mixed_507_zV, pX11_mixed_523_zV, pX11_mixed_540_zV, pX11_mixed_613_zV, pX11_mixed_630_zV, pX11_mixed_651_zV, pX11_mixed_859_zV, if_true, if_false]
  have e3 : fX11_works__m_vxsat c (nI L) vt (nI st) (nI md) sat (nI d) (nI s1) (nI s2) 2 (nI 48) (nI S) (nI E) un zX z z = sat := by
    simp (decide := true) only [fX11_works__m_vxsat, fX11_mixed__m_vxsat, pX11_mixed_299_m_vxsat, pX11_mixed_319_m_vxsat, pX11_mixed_339_m_vxsat, pX11_mixed_359_m_vxsat, pX11_mixed_380_m_vxsat, pX11_mixed_401_m_vxsat, pX11_mixed_422_m_vxsat, pX11_mixed_443_m_vxsat, if_true, if_false]
  have e4 : fX11_works__zX (nI L) (nI st) (nI d) (nI s1) (nI s2) 2 (nI 48) (nI S) un zX z = zX := by
    simp (decide := true) only [fX11_works__zX, fX11_mixed__zX, pX11_mixed_523_zX, if_true, if_false]
  unfold WK
  rw [e1, e2, e3, e4]
  exact widens_WO h (by decide) (by rw [kd_plain (by decide) (by decide) (show _ = (7 : Int32) by decide), mb_free (by decide)]) vt sat c _ rf re r8 rg rl
theorem w2_49 {S E L st d s1 s2 md : Nat} {im un tb : Int32} {x z xS zX : Nat → Int32} (h : HY S E L st d s1 s2 md 2 im un tb x z xS zX) {vt : Int32} (hvt : fX11_vlmax vt = nI (16 * E / S)) (sat : Int32) (c : Int64) (rf re r8 rg : Int32) (rl : Int64) : WK S E L st d s1 s2 md 2 (nI 49) im un tb x z xS zX vt sat c rf re r8 rg rl := by
  have e1 : fX11_works (nI st) (nI d) (nI s1) (nI s2) 2 (nI 49) (nI S) (nI E) un = fX11_widens (nI d) (nI s1) (nI s2) 2 (nI S) (nI E) un 0 := by
    simp (decide := true) only [fX11_works, fX11_mixed, pX11_mixed_299_S1, pX11_mixed_319_S1, pX11_mixed_339_S1, pX11_mixed_359_S1, pX11_mixed_380_S1, pX11_mixed_401_S1, pX11_mixed_422_S1, pX11_mixed_443_S1, pX11_mixed_489_S1, pX11_mixed_507_S1, pX11_mixed_523_S1, pX11_mixed_540_S1, pX11_mixed_613_S1, pX11_mixed_630_S1, pX11_mixed_651_S1, pX11_mixed_859_S1, if_true, if_false]
  have e2 : fX11_works__zV c (nI L) vt (nI st) (nI md) sat (nI d) (nI s1) (nI s2) 2 (nI 49) (nI S) (nI E) un zX z z = fX11_widens__zV c (nI L) vt (nI st) (nI d) (nI s1) (nI s2) 2 (nI S) (nI E) un zX z z 1 0 0 := by
    simp (decide := true) only [fX11_works__zV, fX11_mixed__zV, pX11_mixed_299_zV, pX11_mixed_319_zV, pX11_mixed_339_zV, pX11_mixed_359_zV, pX11_mixed_380_zV, pX11_mixed_401_zV, pX11_mixed_422_zV, pX11_mixed_443_zV, pX11_mixed_489_zV, pX11_mixed_507_zV, pX11_mixed_523_zV, pX11_mixed_540_zV, pX11_mixed_613_zV, pX11_mixed_630_zV, pX11_mixed_651_zV, pX11_mixed_859_zV, if_true, if_false]
  have e3 : fX11_works__m_vxsat c (nI L) vt (nI st) (nI md) sat (nI d) (nI s1) (nI s2) 2 (nI 49) (nI S) (nI E) un zX z z = sat := by
    simp (decide := true) only [fX11_works__m_vxsat, fX11_mixed__m_vxsat, pX11_mixed_299_m_vxsat, pX11_mixed_319_m_vxsat, pX11_mixed_339_m_vxsat, pX11_mixed_359_m_vxsat, pX11_mixed_380_m_vxsat, pX11_mixed_401_m_vxsat, pX11_mixed_422_m_vxsat, pX11_mixed_443_m_vxsat, if_true, if_false]
  have e4 : fX11_works__zX (nI L) (nI st) (nI d) (nI s1) (nI s2) 2 (nI 49) (nI S) un zX z = zX := by
    simp (decide := true) only [fX11_works__zX, fX11_mixed__zX, pX11_mixed_523_zX, if_true, if_false]
  unfold WK
  rw [e1, e2, e3, e4]
  exact widens_WO h (by decide) (by rw [kd_plain (by decide) (by decide) (show _ = (7 : Int32) by decide), mb_free (by decide)]) vt sat c _ rf re r8 rg rl
theorem w2_50 {S E L st d s1 s2 md : Nat} {im un tb : Int32} {x z xS zX : Nat → Int32} (h : HY S E L st d s1 s2 md 2 im un tb x z xS zX) {vt : Int32} (hvt : fX11_vlmax vt = nI (16 * E / S)) (sat : Int32) (c : Int64) (rf re r8 rg : Int32) (rl : Int64) : WK S E L st d s1 s2 md 2 (nI 50) im un tb x z xS zX vt sat c rf re r8 rg rl := by
  have e1 : fX11_works (nI st) (nI d) (nI s1) (nI s2) 2 (nI 50) (nI S) (nI E) un = fX11_widens (nI d) (nI s1) (nI s2) 2 (nI S) (nI E) un 0 := by
    simp (decide := true) only [fX11_works, fX11_mixed, pX11_mixed_299_S1, pX11_mixed_319_S1, pX11_mixed_339_S1, pX11_mixed_359_S1, pX11_mixed_380_S1, pX11_mixed_401_S1, pX11_mixed_422_S1, pX11_mixed_443_S1, pX11_mixed_489_S1, pX11_mixed_507_S1, pX11_mixed_523_S1, pX11_mixed_540_S1, pX11_mixed_613_S1, pX11_mixed_630_S1, pX11_mixed_651_S1, pX11_mixed_859_S1, if_true, if_false]
  have e2 : fX11_works__zV c (nI L) vt (nI st) (nI md) sat (nI d) (nI s1) (nI s2) 2 (nI 50) (nI S) (nI E) un zX z z = fX11_widens__zV c (nI L) vt (nI st) (nI d) (nI s1) (nI s2) 2 (nI S) (nI E) un zX z z 0 1 0 := by
    simp (decide := true) only [fX11_works__zV, fX11_mixed__zV, pX11_mixed_299_zV, pX11_mixed_319_zV, pX11_mixed_339_zV, pX11_mixed_359_zV, pX11_mixed_380_zV, pX11_mixed_401_zV, pX11_mixed_422_zV, pX11_mixed_443_zV, pX11_mixed_489_zV, pX11_mixed_507_zV, pX11_mixed_523_zV, pX11_mixed_540_zV, pX11_mixed_613_zV, pX11_mixed_630_zV, pX11_mixed_651_zV, pX11_mixed_859_zV, if_true, if_false]
  have e3 : fX11_works__m_vxsat c (nI L) vt (nI st) (nI md) sat (nI d) (nI s1) (nI s2) 2 (nI 50) (nI S) (nI E) un zX z z = sat := by
    simp (decide := true) only [fX11_works__m_vxsat, fX11_mixed__m_vxsat, pX11_mixed_299_m_vxsat, pX11_mixed_319_m_vxsat, pX11_mixed_339_m_vxsat, pX11_mixed_359_m_vxsat, pX11_mixed_380_m_vxsat, pX11_mixed_401_m_vxsat, pX11_mixed_422_m_vxsat, pX11_mixed_443_m_vxsat, if_true, if_false]
  have e4 : fX11_works__zX (nI L) (nI st) (nI d) (nI s1) (nI s2) 2 (nI 50) (nI S) un zX z = zX := by
    simp (decide := true) only [fX11_works__zX, fX11_mixed__zX, pX11_mixed_523_zX, if_true, if_false]
  unfold WK
  rw [e1, e2, e3, e4]
  exact widens_WO h (by decide) (by rw [kd_plain (by decide) (by decide) (show _ = (7 : Int32) by decide), mb_free (by decide)]) vt sat c _ rf re r8 rg rl
theorem w2_51 {S E L st d s1 s2 md : Nat} {im un tb : Int32} {x z xS zX : Nat → Int32} (h : HY S E L st d s1 s2 md 2 im un tb x z xS zX) {vt : Int32} (hvt : fX11_vlmax vt = nI (16 * E / S)) (sat : Int32) (c : Int64) (rf re r8 rg : Int32) (rl : Int64) : WK S E L st d s1 s2 md 2 (nI 51) im un tb x z xS zX vt sat c rf re r8 rg rl := by
  have e1 : fX11_works (nI st) (nI d) (nI s1) (nI s2) 2 (nI 51) (nI S) (nI E) un = fX11_widens (nI d) (nI s1) (nI s2) 2 (nI S) (nI E) un 0 := by
    simp (decide := true) only [fX11_works, fX11_mixed, pX11_mixed_299_S1, pX11_mixed_319_S1, pX11_mixed_339_S1, pX11_mixed_359_S1, pX11_mixed_380_S1, pX11_mixed_401_S1, pX11_mixed_422_S1, pX11_mixed_443_S1, pX11_mixed_489_S1, pX11_mixed_507_S1, pX11_mixed_523_S1, pX11_mixed_540_S1, pX11_mixed_613_S1, pX11_mixed_630_S1, pX11_mixed_651_S1, pX11_mixed_859_S1, if_true, if_false]
  have e2 : fX11_works__zV c (nI L) vt (nI st) (nI md) sat (nI d) (nI s1) (nI s2) 2 (nI 51) (nI S) (nI E) un zX z z = fX11_widens__zV c (nI L) vt (nI st) (nI d) (nI s1) (nI s2) 2 (nI S) (nI E) un zX z z 1 1 0 := by
    simp (decide := true) only [fX11_works__zV, fX11_mixed__zV, pX11_mixed_299_zV, pX11_mixed_319_zV, pX11_mixed_339_zV, pX11_mixed_359_zV, pX11_mixed_380_zV, pX11_mixed_401_zV, pX11_mixed_422_zV, pX11_mixed_443_zV, pX11_mixed_489_zV, pX11_mixed_507_zV, pX11_mixed_523_zV, pX11_mixed_540_zV, pX11_mixed_613_zV, pX11_mixed_630_zV, pX11_mixed_651_zV, pX11_mixed_859_zV, if_true, if_false]
  have e3 : fX11_works__m_vxsat c (nI L) vt (nI st) (nI md) sat (nI d) (nI s1) (nI s2) 2 (nI 51) (nI S) (nI E) un zX z z = sat := by
    simp (decide := true) only [fX11_works__m_vxsat, fX11_mixed__m_vxsat, pX11_mixed_299_m_vxsat, pX11_mixed_319_m_vxsat, pX11_mixed_339_m_vxsat, pX11_mixed_359_m_vxsat, pX11_mixed_380_m_vxsat, pX11_mixed_401_m_vxsat, pX11_mixed_422_m_vxsat, pX11_mixed_443_m_vxsat, if_true, if_false]
  have e4 : fX11_works__zX (nI L) (nI st) (nI d) (nI s1) (nI s2) 2 (nI 51) (nI S) un zX z = zX := by
    simp (decide := true) only [fX11_works__zX, fX11_mixed__zX, pX11_mixed_523_zX, if_true, if_false]
  unfold WK
  rw [e1, e2, e3, e4]
  exact widens_WO h (by decide) (by rw [kd_plain (by decide) (by decide) (show _ = (7 : Int32) by decide), mb_free (by decide)]) vt sat c _ rf re r8 rg rl
theorem w2_52 {S E L st d s1 s2 md : Nat} {im un tb : Int32} {x z xS zX : Nat → Int32} (h : HY S E L st d s1 s2 md 2 im un tb x z xS zX) {vt : Int32} (hvt : fX11_vlmax vt = nI (16 * E / S)) (sat : Int32) (c : Int64) (rf re r8 rg : Int32) (rl : Int64) : WK S E L st d s1 s2 md 2 (nI 52) im un tb x z xS zX vt sat c rf re r8 rg rl := by
  have e1 : fX11_works (nI st) (nI d) (nI s1) (nI s2) 2 (nI 52) (nI S) (nI E) un = fX11_widens (nI d) (nI s1) (nI s2) 2 (nI S) (nI E) un 1 := by
    simp (decide := true) only [fX11_works, fX11_mixed, pX11_mixed_299_S1, pX11_mixed_319_S1, pX11_mixed_339_S1, pX11_mixed_359_S1, pX11_mixed_380_S1, pX11_mixed_401_S1, pX11_mixed_422_S1, pX11_mixed_443_S1, pX11_mixed_489_S1, pX11_mixed_507_S1, pX11_mixed_523_S1, pX11_mixed_540_S1, pX11_mixed_613_S1, pX11_mixed_630_S1, pX11_mixed_651_S1, pX11_mixed_859_S1, if_true, if_false]
  have e2 : fX11_works__zV c (nI L) vt (nI st) (nI md) sat (nI d) (nI s1) (nI s2) 2 (nI 52) (nI S) (nI E) un zX z z = fX11_widens__zV c (nI L) vt (nI st) (nI d) (nI s1) (nI s2) 2 (nI S) (nI E) un zX z z 0 0 1 := by
    simp (decide := true) only [fX11_works__zV, fX11_mixed__zV, pX11_mixed_299_zV, pX11_mixed_319_zV, pX11_mixed_339_zV, pX11_mixed_359_zV, pX11_mixed_380_zV, pX11_mixed_401_zV, pX11_mixed_422_zV, pX11_mixed_443_zV, pX11_mixed_489_zV, pX11_mixed_507_zV, pX11_mixed_523_zV, pX11_mixed_540_zV, pX11_mixed_613_zV, pX11_mixed_630_zV, pX11_mixed_651_zV, pX11_mixed_859_zV, if_true, if_false]
  have e3 : fX11_works__m_vxsat c (nI L) vt (nI st) (nI md) sat (nI d) (nI s1) (nI s2) 2 (nI 52) (nI S) (nI E) un zX z z = sat := by
    simp (decide := true) only [fX11_works__m_vxsat, fX11_mixed__m_vxsat, pX11_mixed_299_m_vxsat, pX11_mixed_319_m_vxsat, pX11_mixed_339_m_vxsat, pX11_mixed_359_m_vxsat, pX11_mixed_380_m_vxsat, pX11_mixed_401_m_vxsat, pX11_mixed_422_m_vxsat, pX11_mixed_443_m_vxsat, if_true, if_false]
  have e4 : fX11_works__zX (nI L) (nI st) (nI d) (nI s1) (nI s2) 2 (nI 52) (nI S) un zX z = zX := by
    simp (decide := true) only [fX11_works__zX, fX11_mixed__zX, pX11_mixed_523_zX, if_true, if_false]
  unfold WK
  rw [e1, e2, e3, e4]
  exact widensW_WO h (by decide) (by rw [kd_plain (by decide) (by decide) (show _ = (8 : Int32) by decide), mb_free (by decide)]) vt sat c _ rf re r8 rg rl
theorem w2_53 {S E L st d s1 s2 md : Nat} {im un tb : Int32} {x z xS zX : Nat → Int32} (h : HY S E L st d s1 s2 md 2 im un tb x z xS zX) {vt : Int32} (hvt : fX11_vlmax vt = nI (16 * E / S)) (sat : Int32) (c : Int64) (rf re r8 rg : Int32) (rl : Int64) : WK S E L st d s1 s2 md 2 (nI 53) im un tb x z xS zX vt sat c rf re r8 rg rl := by
  have e1 : fX11_works (nI st) (nI d) (nI s1) (nI s2) 2 (nI 53) (nI S) (nI E) un = fX11_widens (nI d) (nI s1) (nI s2) 2 (nI S) (nI E) un 1 := by
    simp (decide := true) only [fX11_works, fX11_mixed, pX11_mixed_299_S1, pX11_mixed_319_S1, pX11_mixed_339_S1, pX11_mixed_359_S1, pX11_mixed_380_S1, pX11_mixed_401_S1, pX11_mixed_422_S1, pX11_mixed_443_S1, pX11_mixed_489_S1, pX11_mixed_507_S1, pX11_mixed_523_S1, pX11_mixed_540_S1, pX11_mixed_613_S1, pX11_mixed_630_S1, pX11_mixed_651_S1, pX11_mixed_859_S1, if_true, if_false]
  have e2 : fX11_works__zV c (nI L) vt (nI st) (nI md) sat (nI d) (nI s1) (nI s2) 2 (nI 53) (nI S) (nI E) un zX z z = fX11_widens__zV c (nI L) vt (nI st) (nI d) (nI s1) (nI s2) 2 (nI S) (nI E) un zX z z 1 0 1 := by
    simp (decide := true) only [fX11_works__zV, fX11_mixed__zV, pX11_mixed_299_zV, pX11_mixed_319_zV, pX11_mixed_339_zV, pX11_mixed_359_zV, pX11_mixed_380_zV, pX11_mixed_401_zV, pX11_mixed_422_zV, pX11_mixed_443_zV, pX11_mixed_489_zV, pX11_mixed_507_zV, pX11_mixed_523_zV, pX11_mixed_540_zV, pX11_mixed_613_zV, pX11_mixed_630_zV, pX11_mixed_651_zV, pX11_mixed_859_zV, if_true, if_false]
  have e3 : fX11_works__m_vxsat c (nI L) vt (nI st) (nI md) sat (nI d) (nI s1) (nI s2) 2 (nI 53) (nI S) (nI E) un zX z z = sat := by
    simp (decide := true) only [fX11_works__m_vxsat, fX11_mixed__m_vxsat, pX11_mixed_299_m_vxsat, pX11_mixed_319_m_vxsat, pX11_mixed_339_m_vxsat, pX11_mixed_359_m_vxsat, pX11_mixed_380_m_vxsat, pX11_mixed_401_m_vxsat, pX11_mixed_422_m_vxsat, pX11_mixed_443_m_vxsat, if_true, if_false]
  have e4 : fX11_works__zX (nI L) (nI st) (nI d) (nI s1) (nI s2) 2 (nI 53) (nI S) un zX z = zX := by
    simp (decide := true) only [fX11_works__zX, fX11_mixed__zX, pX11_mixed_523_zX, if_true, if_false]
  unfold WK
  rw [e1, e2, e3, e4]
  exact widensW_WO h (by decide) (by rw [kd_plain (by decide) (by decide) (show _ = (8 : Int32) by decide), mb_free (by decide)]) vt sat c _ rf re r8 rg rl
theorem w2_54 {S E L st d s1 s2 md : Nat} {im un tb : Int32} {x z xS zX : Nat → Int32} (h : HY S E L st d s1 s2 md 2 im un tb x z xS zX) {vt : Int32} (hvt : fX11_vlmax vt = nI (16 * E / S)) (sat : Int32) (c : Int64) (rf re r8 rg : Int32) (rl : Int64) : WK S E L st d s1 s2 md 2 (nI 54) im un tb x z xS zX vt sat c rf re r8 rg rl := by
  have e1 : fX11_works (nI st) (nI d) (nI s1) (nI s2) 2 (nI 54) (nI S) (nI E) un = fX11_widens (nI d) (nI s1) (nI s2) 2 (nI S) (nI E) un 1 := by
    simp (decide := true) only [fX11_works, fX11_mixed, pX11_mixed_299_S1, pX11_mixed_319_S1, pX11_mixed_339_S1, pX11_mixed_359_S1, pX11_mixed_380_S1, pX11_mixed_401_S1, pX11_mixed_422_S1, pX11_mixed_443_S1, pX11_mixed_489_S1, pX11_mixed_507_S1, pX11_mixed_523_S1, pX11_mixed_540_S1, pX11_mixed_613_S1, pX11_mixed_630_S1, pX11_mixed_651_S1, pX11_mixed_859_S1, if_true, if_false]
  have e2 : fX11_works__zV c (nI L) vt (nI st) (nI md) sat (nI d) (nI s1) (nI s2) 2 (nI 54) (nI S) (nI E) un zX z z = fX11_widens__zV c (nI L) vt (nI st) (nI d) (nI s1) (nI s2) 2 (nI S) (nI E) un zX z z 0 1 1 := by
    simp (decide := true) only [fX11_works__zV, fX11_mixed__zV, pX11_mixed_299_zV, pX11_mixed_319_zV, pX11_mixed_339_zV, pX11_mixed_359_zV, pX11_mixed_380_zV, pX11_mixed_401_zV, pX11_mixed_422_zV, pX11_mixed_443_zV, pX11_mixed_489_zV, pX11_mixed_507_zV, pX11_mixed_523_zV, pX11_mixed_540_zV, pX11_mixed_613_zV, pX11_mixed_630_zV, pX11_mixed_651_zV, pX11_mixed_859_zV, if_true, if_false]
  have e3 : fX11_works__m_vxsat c (nI L) vt (nI st) (nI md) sat (nI d) (nI s1) (nI s2) 2 (nI 54) (nI S) (nI E) un zX z z = sat := by
    simp (decide := true) only [fX11_works__m_vxsat, fX11_mixed__m_vxsat, pX11_mixed_299_m_vxsat, pX11_mixed_319_m_vxsat, pX11_mixed_339_m_vxsat, pX11_mixed_359_m_vxsat, pX11_mixed_380_m_vxsat, pX11_mixed_401_m_vxsat, pX11_mixed_422_m_vxsat, pX11_mixed_443_m_vxsat, if_true, if_false]
  have e4 : fX11_works__zX (nI L) (nI st) (nI d) (nI s1) (nI s2) 2 (nI 54) (nI S) un zX z = zX := by
    simp (decide := true) only [fX11_works__zX, fX11_mixed__zX, pX11_mixed_523_zX, if_true, if_false]
  unfold WK
  rw [e1, e2, e3, e4]
  exact widensW_WO h (by decide) (by rw [kd_plain (by decide) (by decide) (show _ = (8 : Int32) by decide), mb_free (by decide)]) vt sat c _ rf re r8 rg rl
theorem w2_55 {S E L st d s1 s2 md : Nat} {im un tb : Int32} {x z xS zX : Nat → Int32} (h : HY S E L st d s1 s2 md 2 im un tb x z xS zX) {vt : Int32} (hvt : fX11_vlmax vt = nI (16 * E / S)) (sat : Int32) (c : Int64) (rf re r8 rg : Int32) (rl : Int64) : WK S E L st d s1 s2 md 2 (nI 55) im un tb x z xS zX vt sat c rf re r8 rg rl := by
  have e1 : fX11_works (nI st) (nI d) (nI s1) (nI s2) 2 (nI 55) (nI S) (nI E) un = fX11_widens (nI d) (nI s1) (nI s2) 2 (nI S) (nI E) un 1 := by
    simp (decide := true) only [fX11_works, fX11_mixed, pX11_mixed_299_S1, pX11_mixed_319_S1, pX11_mixed_339_S1, pX11_mixed_359_S1, pX11_mixed_380_S1, pX11_mixed_401_S1, pX11_mixed_422_S1, pX11_mixed_443_S1, pX11_mixed_489_S1, pX11_mixed_507_S1, pX11_mixed_523_S1, pX11_mixed_540_S1, pX11_mixed_613_S1, pX11_mixed_630_S1, pX11_mixed_651_S1, pX11_mixed_859_S1, if_true, if_false]
  have e2 : fX11_works__zV c (nI L) vt (nI st) (nI md) sat (nI d) (nI s1) (nI s2) 2 (nI 55) (nI S) (nI E) un zX z z = fX11_widens__zV c (nI L) vt (nI st) (nI d) (nI s1) (nI s2) 2 (nI S) (nI E) un zX z z 1 1 1 := by
    simp (decide := true) only [fX11_works__zV, fX11_mixed__zV, pX11_mixed_299_zV, pX11_mixed_319_zV, pX11_mixed_339_zV, pX11_mixed_359_zV, pX11_mixed_380_zV, pX11_mixed_401_zV, pX11_mixed_422_zV, pX11_mixed_443_zV, pX11_mixed_489_zV, pX11_mixed_507_zV, pX11_mixed_523_zV, pX11_mixed_540_zV, pX11_mixed_613_zV, pX11_mixed_630_zV, pX11_mixed_651_zV, pX11_mixed_859_zV, if_true, if_false]
  have e3 : fX11_works__m_vxsat c (nI L) vt (nI st) (nI md) sat (nI d) (nI s1) (nI s2) 2 (nI 55) (nI S) (nI E) un zX z z = sat := by
    simp (decide := true) only [fX11_works__m_vxsat, fX11_mixed__m_vxsat, pX11_mixed_299_m_vxsat, pX11_mixed_319_m_vxsat, pX11_mixed_339_m_vxsat, pX11_mixed_359_m_vxsat, pX11_mixed_380_m_vxsat, pX11_mixed_401_m_vxsat, pX11_mixed_422_m_vxsat, pX11_mixed_443_m_vxsat, if_true, if_false]
  have e4 : fX11_works__zX (nI L) (nI st) (nI d) (nI s1) (nI s2) 2 (nI 55) (nI S) un zX z = zX := by
    simp (decide := true) only [fX11_works__zX, fX11_mixed__zX, pX11_mixed_523_zX, if_true, if_false]
  unfold WK
  rw [e1, e2, e3, e4]
  exact widensW_WO h (by decide) (by rw [kd_plain (by decide) (by decide) (show _ = (8 : Int32) by decide), mb_free (by decide)]) vt sat c _ rf re r8 rg rl
theorem w2_56 {S E L st d s1 s2 md : Nat} {im un tb : Int32} {x z xS zX : Nat → Int32} (h : HY S E L st d s1 s2 md 2 im un tb x z xS zX) {vt : Int32} (hvt : fX11_vlmax vt = nI (16 * E / S)) (sat : Int32) (c : Int64) (rf re r8 rg : Int32) (rl : Int64) : WK S E L st d s1 s2 md 2 (nI 56) im un tb x z xS zX vt sat c rf re r8 rg rl := by
  have e1 : fX11_works (nI st) (nI d) (nI s1) (nI s2) 2 (nI 56) (nI S) (nI E) un = fX11_multiplies (nI d) (nI s1) (nI s2) 2 (nI S) (nI E) un := by
    simp (decide := true) only [fX11_works, fX11_mixed, pX11_mixed_299_S1, pX11_mixed_319_S1, pX11_mixed_339_S1, pX11_mixed_359_S1, pX11_mixed_380_S1, pX11_mixed_401_S1, pX11_mixed_422_S1, pX11_mixed_443_S1, pX11_mixed_489_S1, pX11_mixed_507_S1, pX11_mixed_523_S1, pX11_mixed_540_S1, pX11_mixed_613_S1, pX11_mixed_630_S1, pX11_mixed_651_S1, pX11_mixed_859_S1, if_true, if_false]
  have e2 : fX11_works__zV c (nI L) vt (nI st) (nI md) sat (nI d) (nI s1) (nI s2) 2 (nI 56) (nI S) (nI E) un zX z z = fX11_multiplies__zV c (nI L) vt (nI st) (nI d) (nI s1) (nI s2) 2 (nI S) (nI E) un zX z z 0 0 0 := by
    simp (decide := true) only [fX11_works__zV, fX11_mixed__zV, pX11_mixed_299_zV, pX11_mixed_319_zV, pX11_mixed_339_zV, pX11_mixed_359_zV, pX11_mixed_380_zV, pX11_mixed_401_zV, pX11_mixed_422_zV, pX11_mixed_443_zV, pX11_mixed_489_zV, pX11_mixed_507_zV, pX11_mixed_523_zV, pX11_mixed_540_zV, pX11_mixed_613_zV, pX11_mixed_630_zV, pX11_mixed_651_zV, pX11_mixed_859_zV, if_true, if_false]
  have e3 : fX11_works__m_vxsat c (nI L) vt (nI st) (nI md) sat (nI d) (nI s1) (nI s2) 2 (nI 56) (nI S) (nI E) un zX z z = sat := by
    simp (decide := true) only [fX11_works__m_vxsat, fX11_mixed__m_vxsat, pX11_mixed_299_m_vxsat, pX11_mixed_319_m_vxsat, pX11_mixed_339_m_vxsat, pX11_mixed_359_m_vxsat, pX11_mixed_380_m_vxsat, pX11_mixed_401_m_vxsat, pX11_mixed_422_m_vxsat, pX11_mixed_443_m_vxsat, if_true, if_false]
  have e4 : fX11_works__zX (nI L) (nI st) (nI d) (nI s1) (nI s2) 2 (nI 56) (nI S) un zX z = zX := by
    simp (decide := true) only [fX11_works__zX, fX11_mixed__zX, pX11_mixed_523_zX, if_true, if_false]
  unfold WK
  rw [e1, e2, e3, e4]
  exact multiplies_WO h (by decide) (by rw [kd_plain (by decide) (by decide) (show _ = (7 : Int32) by decide), mb_free (by decide)]) vt sat c _ rf re r8 rg rl
theorem w2_57 {S E L st d s1 s2 md : Nat} {im un tb : Int32} {x z xS zX : Nat → Int32} (h : HY S E L st d s1 s2 md 2 im un tb x z xS zX) {vt : Int32} (hvt : fX11_vlmax vt = nI (16 * E / S)) (sat : Int32) (c : Int64) (rf re r8 rg : Int32) (rl : Int64) : WK S E L st d s1 s2 md 2 (nI 57) im un tb x z xS zX vt sat c rf re r8 rg rl := by
  have e1 : fX11_works (nI st) (nI d) (nI s1) (nI s2) 2 (nI 57) (nI S) (nI E) un = 0 := by
    simp (decide := true) only [fX11_works, fX11_mixed, pX11_mixed_299_S1, pX11_mixed_319_S1, pX11_mixed_339_S1, pX11_mixed_359_S1, pX11_mixed_380_S1, pX11_mixed_401_S1, pX11_mixed_422_S1, pX11_mixed_443_S1, pX11_mixed_489_S1, pX11_mixed_507_S1, pX11_mixed_523_S1, pX11_mixed_540_S1, pX11_mixed_613_S1, pX11_mixed_630_S1, pX11_mixed_651_S1, pX11_mixed_859_S1, if_true, if_false]
  have e2 : fX11_works__zV c (nI L) vt (nI st) (nI md) sat (nI d) (nI s1) (nI s2) 2 (nI 57) (nI S) (nI E) un zX z z = z := by
    simp (decide := true) only [fX11_works__zV, fX11_mixed__zV, pX11_mixed_299_zV, pX11_mixed_319_zV, pX11_mixed_339_zV, pX11_mixed_359_zV, pX11_mixed_380_zV, pX11_mixed_401_zV, pX11_mixed_422_zV, pX11_mixed_443_zV, pX11_mixed_489_zV, pX11_mixed_507_zV, pX11_mixed_523_zV, pX11_mixed_540_zV, pX11_mixed_613_zV, pX11_mixed_630_zV, pX11_mixed_651_zV, pX11_mixed_859_zV, if_true, if_false]
  have e3 : fX11_works__m_vxsat c (nI L) vt (nI st) (nI md) sat (nI d) (nI s1) (nI s2) 2 (nI 57) (nI S) (nI E) un zX z z = sat := by
    simp (decide := true) only [fX11_works__m_vxsat, fX11_mixed__m_vxsat, pX11_mixed_299_m_vxsat, pX11_mixed_319_m_vxsat, pX11_mixed_339_m_vxsat, pX11_mixed_359_m_vxsat, pX11_mixed_380_m_vxsat, pX11_mixed_401_m_vxsat, pX11_mixed_422_m_vxsat, pX11_mixed_443_m_vxsat, if_true, if_false]
  have e4 : fX11_works__zX (nI L) (nI st) (nI d) (nI s1) (nI s2) 2 (nI 57) (nI S) un zX z = zX := by
    simp (decide := true) only [fX11_works__zX, fX11_mixed__zX, pX11_mixed_523_zX, if_true, if_false]
  unfold WK
  rw [e1, e2, e3, e4]
  exact ill_WO h (kd_none (by decide)) vt sat c _ rf re r8 rg rl
theorem w2_58 {S E L st d s1 s2 md : Nat} {im un tb : Int32} {x z xS zX : Nat → Int32} (h : HY S E L st d s1 s2 md 2 im un tb x z xS zX) {vt : Int32} (hvt : fX11_vlmax vt = nI (16 * E / S)) (sat : Int32) (c : Int64) (rf re r8 rg : Int32) (rl : Int64) : WK S E L st d s1 s2 md 2 (nI 58) im un tb x z xS zX vt sat c rf re r8 rg rl := by
  have e1 : fX11_works (nI st) (nI d) (nI s1) (nI s2) 2 (nI 58) (nI S) (nI E) un = fX11_multiplies (nI d) (nI s1) (nI s2) 2 (nI S) (nI E) un := by
    simp (decide := true) only [fX11_works, fX11_mixed, pX11_mixed_299_S1, pX11_mixed_319_S1, pX11_mixed_339_S1, pX11_mixed_359_S1, pX11_mixed_380_S1, pX11_mixed_401_S1, pX11_mixed_422_S1, pX11_mixed_443_S1, pX11_mixed_489_S1, pX11_mixed_507_S1, pX11_mixed_523_S1, pX11_mixed_540_S1, pX11_mixed_613_S1, pX11_mixed_630_S1, pX11_mixed_651_S1, pX11_mixed_859_S1, if_true, if_false]
  have e2 : fX11_works__zV c (nI L) vt (nI st) (nI md) sat (nI d) (nI s1) (nI s2) 2 (nI 58) (nI S) (nI E) un zX z z = fX11_multiplies__zV c (nI L) vt (nI st) (nI d) (nI s1) (nI s2) 2 (nI S) (nI E) un zX z z 1 0 0 := by
    simp (decide := true) only [fX11_works__zV, fX11_mixed__zV, pX11_mixed_299_zV, pX11_mixed_319_zV, pX11_mixed_339_zV, pX11_mixed_359_zV, pX11_mixed_380_zV, pX11_mixed_401_zV, pX11_mixed_422_zV, pX11_mixed_443_zV, pX11_mixed_489_zV, pX11_mixed_507_zV, pX11_mixed_523_zV, pX11_mixed_540_zV, pX11_mixed_613_zV, pX11_mixed_630_zV, pX11_mixed_651_zV, pX11_mixed_859_zV, if_true, if_false]
  have e3 : fX11_works__m_vxsat c (nI L) vt (nI st) (nI md) sat (nI d) (nI s1) (nI s2) 2 (nI 58) (nI S) (nI E) un zX z z = sat := by
    simp (decide := true) only [fX11_works__m_vxsat, fX11_mixed__m_vxsat, pX11_mixed_299_m_vxsat, pX11_mixed_319_m_vxsat, pX11_mixed_339_m_vxsat, pX11_mixed_359_m_vxsat, pX11_mixed_380_m_vxsat, pX11_mixed_401_m_vxsat, pX11_mixed_422_m_vxsat, pX11_mixed_443_m_vxsat, if_true, if_false]
  have e4 : fX11_works__zX (nI L) (nI st) (nI d) (nI s1) (nI s2) 2 (nI 58) (nI S) un zX z = zX := by
    simp (decide := true) only [fX11_works__zX, fX11_mixed__zX, pX11_mixed_523_zX, if_true, if_false]
  unfold WK
  rw [e1, e2, e3, e4]
  exact multiplies_WO h (by decide) (by rw [kd_plain (by decide) (by decide) (show _ = (7 : Int32) by decide), mb_free (by decide)]) vt sat c _ rf re r8 rg rl
theorem w2_59 {S E L st d s1 s2 md : Nat} {im un tb : Int32} {x z xS zX : Nat → Int32} (h : HY S E L st d s1 s2 md 2 im un tb x z xS zX) {vt : Int32} (hvt : fX11_vlmax vt = nI (16 * E / S)) (sat : Int32) (c : Int64) (rf re r8 rg : Int32) (rl : Int64) : WK S E L st d s1 s2 md 2 (nI 59) im un tb x z xS zX vt sat c rf re r8 rg rl := by
  have e1 : fX11_works (nI st) (nI d) (nI s1) (nI s2) 2 (nI 59) (nI S) (nI E) un = fX11_multiplies (nI d) (nI s1) (nI s2) 2 (nI S) (nI E) un := by
    simp (decide := true) only [fX11_works, fX11_mixed, pX11_mixed_299_S1, pX11_mixed_319_S1, pX11_mixed_339_S1, pX11_mixed_359_S1, pX11_mixed_380_S1, pX11_mixed_401_S1, pX11_mixed_422_S1, pX11_mixed_443_S1, pX11_mixed_489_S1, pX11_mixed_507_S1, pX11_mixed_523_S1, pX11_mixed_540_S1, pX11_mixed_613_S1, pX11_mixed_630_S1, pX11_mixed_651_S1, pX11_mixed_859_S1, if_true, if_false]
  have e2 : fX11_works__zV c (nI L) vt (nI st) (nI md) sat (nI d) (nI s1) (nI s2) 2 (nI 59) (nI S) (nI E) un zX z z = fX11_multiplies__zV c (nI L) vt (nI st) (nI d) (nI s1) (nI s2) 2 (nI S) (nI E) un zX z z 1 1 0 := by
    simp (decide := true) only [fX11_works__zV, fX11_mixed__zV, pX11_mixed_299_zV, pX11_mixed_319_zV, pX11_mixed_339_zV, pX11_mixed_359_zV, pX11_mixed_380_zV, pX11_mixed_401_zV, pX11_mixed_422_zV, pX11_mixed_443_zV, pX11_mixed_489_zV, pX11_mixed_507_zV, pX11_mixed_523_zV, pX11_mixed_540_zV, pX11_mixed_613_zV, pX11_mixed_630_zV, pX11_mixed_651_zV, pX11_mixed_859_zV, if_true, if_false]
  have e3 : fX11_works__m_vxsat c (nI L) vt (nI st) (nI md) sat (nI d) (nI s1) (nI s2) 2 (nI 59) (nI S) (nI E) un zX z z = sat := by
    simp (decide := true) only [fX11_works__m_vxsat, fX11_mixed__m_vxsat, pX11_mixed_299_m_vxsat, pX11_mixed_319_m_vxsat, pX11_mixed_339_m_vxsat, pX11_mixed_359_m_vxsat, pX11_mixed_380_m_vxsat, pX11_mixed_401_m_vxsat, pX11_mixed_422_m_vxsat, pX11_mixed_443_m_vxsat, if_true, if_false]
  have e4 : fX11_works__zX (nI L) (nI st) (nI d) (nI s1) (nI s2) 2 (nI 59) (nI S) un zX z = zX := by
    simp (decide := true) only [fX11_works__zX, fX11_mixed__zX, pX11_mixed_523_zX, if_true, if_false]
  unfold WK
  rw [e1, e2, e3, e4]
  exact multiplies_WO h (by decide) (by rw [kd_plain (by decide) (by decide) (show _ = (7 : Int32) by decide), mb_free (by decide)]) vt sat c _ rf re r8 rg rl
theorem w2_60 {S E L st d s1 s2 md : Nat} {im un tb : Int32} {x z xS zX : Nat → Int32} (h : HY S E L st d s1 s2 md 2 im un tb x z xS zX) {vt : Int32} (hvt : fX11_vlmax vt = nI (16 * E / S)) (sat : Int32) (c : Int64) (rf re r8 rg : Int32) (rl : Int64) : WK S E L st d s1 s2 md 2 (nI 60) im un tb x z xS zX vt sat c rf re r8 rg rl := by
  have e1 : fX11_works (nI st) (nI d) (nI s1) (nI s2) 2 (nI 60) (nI S) (nI E) un = fX11_multiplies (nI d) (nI s1) (nI s2) 2 (nI S) (nI E) un := by
    simp (decide := true) only [fX11_works, fX11_mixed, pX11_mixed_299_S1, pX11_mixed_319_S1, pX11_mixed_339_S1, pX11_mixed_359_S1, pX11_mixed_380_S1, pX11_mixed_401_S1, pX11_mixed_422_S1, pX11_mixed_443_S1, pX11_mixed_489_S1, pX11_mixed_507_S1, pX11_mixed_523_S1, pX11_mixed_540_S1, pX11_mixed_613_S1, pX11_mixed_630_S1, pX11_mixed_651_S1, pX11_mixed_859_S1, if_true, if_false]
  have e2 : fX11_works__zV c (nI L) vt (nI st) (nI md) sat (nI d) (nI s1) (nI s2) 2 (nI 60) (nI S) (nI E) un zX z z = fX11_multiplies__zV c (nI L) vt (nI st) (nI d) (nI s1) (nI s2) 2 (nI S) (nI E) un zX z z 0 0 1 := by
    simp (decide := true) only [fX11_works__zV, fX11_mixed__zV, pX11_mixed_299_zV, pX11_mixed_319_zV, pX11_mixed_339_zV, pX11_mixed_359_zV, pX11_mixed_380_zV, pX11_mixed_401_zV, pX11_mixed_422_zV, pX11_mixed_443_zV, pX11_mixed_489_zV, pX11_mixed_507_zV, pX11_mixed_523_zV, pX11_mixed_540_zV, pX11_mixed_613_zV, pX11_mixed_630_zV, pX11_mixed_651_zV, pX11_mixed_859_zV, if_true, if_false]
  have e3 : fX11_works__m_vxsat c (nI L) vt (nI st) (nI md) sat (nI d) (nI s1) (nI s2) 2 (nI 60) (nI S) (nI E) un zX z z = sat := by
    simp (decide := true) only [fX11_works__m_vxsat, fX11_mixed__m_vxsat, pX11_mixed_299_m_vxsat, pX11_mixed_319_m_vxsat, pX11_mixed_339_m_vxsat, pX11_mixed_359_m_vxsat, pX11_mixed_380_m_vxsat, pX11_mixed_401_m_vxsat, pX11_mixed_422_m_vxsat, pX11_mixed_443_m_vxsat, if_true, if_false]
  have e4 : fX11_works__zX (nI L) (nI st) (nI d) (nI s1) (nI s2) 2 (nI 60) (nI S) un zX z = zX := by
    simp (decide := true) only [fX11_works__zX, fX11_mixed__zX, pX11_mixed_523_zX, if_true, if_false]
  unfold WK
  rw [e1, e2, e3, e4]
  exact multiplies_WO h (by decide) (by rw [kd_plain (by decide) (by decide) (show _ = (7 : Int32) by decide), mb_free (by decide)]) vt sat c _ rf re r8 rg rl
theorem w2_61 {S E L st d s1 s2 md : Nat} {im un tb : Int32} {x z xS zX : Nat → Int32} (h : HY S E L st d s1 s2 md 2 im un tb x z xS zX) {vt : Int32} (hvt : fX11_vlmax vt = nI (16 * E / S)) (sat : Int32) (c : Int64) (rf re r8 rg : Int32) (rl : Int64) : WK S E L st d s1 s2 md 2 (nI 61) im un tb x z xS zX vt sat c rf re r8 rg rl := by
  have e1 : fX11_works (nI st) (nI d) (nI s1) (nI s2) 2 (nI 61) (nI S) (nI E) un = fX11_multiplies (nI d) (nI s1) (nI s2) 2 (nI S) (nI E) un := by
    simp (decide := true) only [fX11_works, fX11_mixed, pX11_mixed_299_S1, pX11_mixed_319_S1, pX11_mixed_339_S1, pX11_mixed_359_S1, pX11_mixed_380_S1, pX11_mixed_401_S1, pX11_mixed_422_S1, pX11_mixed_443_S1, pX11_mixed_489_S1, pX11_mixed_507_S1, pX11_mixed_523_S1, pX11_mixed_540_S1, pX11_mixed_613_S1, pX11_mixed_630_S1, pX11_mixed_651_S1, pX11_mixed_859_S1, if_true, if_false]
  have e2 : fX11_works__zV c (nI L) vt (nI st) (nI md) sat (nI d) (nI s1) (nI s2) 2 (nI 61) (nI S) (nI E) un zX z z = fX11_multiplies__zV c (nI L) vt (nI st) (nI d) (nI s1) (nI s2) 2 (nI S) (nI E) un zX z z 1 1 1 := by
    simp (decide := true) only [fX11_works__zV, fX11_mixed__zV, pX11_mixed_299_zV, pX11_mixed_319_zV, pX11_mixed_339_zV, pX11_mixed_359_zV, pX11_mixed_380_zV, pX11_mixed_401_zV, pX11_mixed_422_zV, pX11_mixed_443_zV, pX11_mixed_489_zV, pX11_mixed_507_zV, pX11_mixed_523_zV, pX11_mixed_540_zV, pX11_mixed_613_zV, pX11_mixed_630_zV, pX11_mixed_651_zV, pX11_mixed_859_zV, if_true, if_false]
  have e3 : fX11_works__m_vxsat c (nI L) vt (nI st) (nI md) sat (nI d) (nI s1) (nI s2) 2 (nI 61) (nI S) (nI E) un zX z z = sat := by
    simp (decide := true) only [fX11_works__m_vxsat, fX11_mixed__m_vxsat, pX11_mixed_299_m_vxsat, pX11_mixed_319_m_vxsat, pX11_mixed_339_m_vxsat, pX11_mixed_359_m_vxsat, pX11_mixed_380_m_vxsat, pX11_mixed_401_m_vxsat, pX11_mixed_422_m_vxsat, pX11_mixed_443_m_vxsat, if_true, if_false]
  have e4 : fX11_works__zX (nI L) (nI st) (nI d) (nI s1) (nI s2) 2 (nI 61) (nI S) un zX z = zX := by
    simp (decide := true) only [fX11_works__zX, fX11_mixed__zX, pX11_mixed_523_zX, if_true, if_false]
  unfold WK
  rw [e1, e2, e3, e4]
  exact multiplies_WO h (by decide) (by rw [kd_plain (by decide) (by decide) (show _ = (7 : Int32) by decide), mb_free (by decide)]) vt sat c _ rf re r8 rg rl
theorem w2_62 {S E L st d s1 s2 md : Nat} {im un tb : Int32} {x z xS zX : Nat → Int32} (h : HY S E L st d s1 s2 md 2 im un tb x z xS zX) {vt : Int32} (hvt : fX11_vlmax vt = nI (16 * E / S)) (sat : Int32) (c : Int64) (rf re r8 rg : Int32) (rl : Int64) : WK S E L st d s1 s2 md 2 (nI 62) im un tb x z xS zX vt sat c rf re r8 rg rl := by
  have e1 : fX11_works (nI st) (nI d) (nI s1) (nI s2) 2 (nI 62) (nI S) (nI E) un = 0 := by
    simp (decide := true) only [fX11_works, fX11_mixed, pX11_mixed_299_S1, pX11_mixed_319_S1, pX11_mixed_339_S1, pX11_mixed_359_S1, pX11_mixed_380_S1, pX11_mixed_401_S1, pX11_mixed_422_S1, pX11_mixed_443_S1, pX11_mixed_489_S1, pX11_mixed_507_S1, pX11_mixed_523_S1, pX11_mixed_540_S1, pX11_mixed_613_S1, pX11_mixed_630_S1, pX11_mixed_651_S1, pX11_mixed_859_S1, if_true, if_false]
  have e2 : fX11_works__zV c (nI L) vt (nI st) (nI md) sat (nI d) (nI s1) (nI s2) 2 (nI 62) (nI S) (nI E) un zX z z = z := by
    simp (decide := true) only [fX11_works__zV, fX11_mixed__zV, pX11_mixed_299_zV, pX11_mixed_319_zV, pX11_mixed_339_zV, pX11_mixed_359_zV, pX11_mixed_380_zV, pX11_mixed_401_zV, pX11_mixed_422_zV, pX11_mixed_443_zV, pX11_mixed_489_zV, pX11_mixed_507_zV, pX11_mixed_523_zV, pX11_mixed_540_zV, pX11_mixed_613_zV, pX11_mixed_630_zV, pX11_mixed_651_zV, pX11_mixed_859_zV, if_true, if_false]
  have e3 : fX11_works__m_vxsat c (nI L) vt (nI st) (nI md) sat (nI d) (nI s1) (nI s2) 2 (nI 62) (nI S) (nI E) un zX z z = sat := by
    simp (decide := true) only [fX11_works__m_vxsat, fX11_mixed__m_vxsat, pX11_mixed_299_m_vxsat, pX11_mixed_319_m_vxsat, pX11_mixed_339_m_vxsat, pX11_mixed_359_m_vxsat, pX11_mixed_380_m_vxsat, pX11_mixed_401_m_vxsat, pX11_mixed_422_m_vxsat, pX11_mixed_443_m_vxsat, if_true, if_false]
  have e4 : fX11_works__zX (nI L) (nI st) (nI d) (nI s1) (nI s2) 2 (nI 62) (nI S) un zX z = zX := by
    simp (decide := true) only [fX11_works__zX, fX11_mixed__zX, pX11_mixed_523_zX, if_true, if_false]
  unfold WK
  rw [e1, e2, e3, e4]
  exact ill_WO h (kd_none (by decide)) vt sat c _ rf re r8 rg rl
theorem w2_63 {S E L st d s1 s2 md : Nat} {im un tb : Int32} {x z xS zX : Nat → Int32} (h : HY S E L st d s1 s2 md 2 im un tb x z xS zX) {vt : Int32} (hvt : fX11_vlmax vt = nI (16 * E / S)) (sat : Int32) (c : Int64) (rf re r8 rg : Int32) (rl : Int64) : WK S E L st d s1 s2 md 2 (nI 63) im un tb x z xS zX vt sat c rf re r8 rg rl := by
  have e1 : fX11_works (nI st) (nI d) (nI s1) (nI s2) 2 (nI 63) (nI S) (nI E) un = fX11_multiplies (nI d) (nI s1) (nI s2) 2 (nI S) (nI E) un := by
    simp (decide := true) only [fX11_works, fX11_mixed, pX11_mixed_299_S1, pX11_mixed_319_S1, pX11_mixed_339_S1, pX11_mixed_359_S1, pX11_mixed_380_S1, pX11_mixed_401_S1, pX11_mixed_422_S1, pX11_mixed_443_S1, pX11_mixed_489_S1, pX11_mixed_507_S1, pX11_mixed_523_S1, pX11_mixed_540_S1, pX11_mixed_613_S1, pX11_mixed_630_S1, pX11_mixed_651_S1, pX11_mixed_859_S1, if_true, if_false]
  have e2 : fX11_works__zV c (nI L) vt (nI st) (nI md) sat (nI d) (nI s1) (nI s2) 2 (nI 63) (nI S) (nI E) un zX z z = fX11_multiplies__zV c (nI L) vt (nI st) (nI d) (nI s1) (nI s2) 2 (nI S) (nI E) un zX z z 0 1 1 := by
    simp (decide := true) only [fX11_works__zV, fX11_mixed__zV, pX11_mixed_299_zV, pX11_mixed_319_zV, pX11_mixed_339_zV, pX11_mixed_359_zV, pX11_mixed_380_zV, pX11_mixed_401_zV, pX11_mixed_422_zV, pX11_mixed_443_zV, pX11_mixed_489_zV, pX11_mixed_507_zV, pX11_mixed_523_zV, pX11_mixed_540_zV, pX11_mixed_613_zV, pX11_mixed_630_zV, pX11_mixed_651_zV, pX11_mixed_859_zV, if_true, if_false]
  have e3 : fX11_works__m_vxsat c (nI L) vt (nI st) (nI md) sat (nI d) (nI s1) (nI s2) 2 (nI 63) (nI S) (nI E) un zX z z = sat := by
    simp (decide := true) only [fX11_works__m_vxsat, fX11_mixed__m_vxsat, pX11_mixed_299_m_vxsat, pX11_mixed_319_m_vxsat, pX11_mixed_339_m_vxsat, pX11_mixed_359_m_vxsat, pX11_mixed_380_m_vxsat, pX11_mixed_401_m_vxsat, pX11_mixed_422_m_vxsat, pX11_mixed_443_m_vxsat, if_true, if_false]
  have e4 : fX11_works__zX (nI L) (nI st) (nI d) (nI s1) (nI s2) 2 (nI 63) (nI S) un zX z = zX := by
    simp (decide := true) only [fX11_works__zX, fX11_mixed__zX, pX11_mixed_523_zX, if_true, if_false]
  unfold WK
  rw [e1, e2, e3, e4]
  exact multiplies_WO h (by decide) (by rw [kd_plain (by decide) (by decide) (show _ = (7 : Int32) by decide), mb_free (by decide)]) vt sat c _ rf re r8 rg rl
theorem wF2 {S E L st d s1 s2 md : Nat} {im un tb : Int32} {x z xS zX : Nat → Int32} (h : HY S E L st d s1 s2 md 2 im un tb x z xS zX) {vt : Int32} (hvt : fX11_vlmax vt = nI (16 * E / S)) (sat : Int32) (c : Int64) (rf re r8 rg : Int32) (rl : Int64) : ∀ hh, hh < 64 → WK S E L st d s1 s2 md 2 (nI hh) im un tb x z xS zX vt sat c rf re r8 rg rl
  | 0, _ => w2_0 h hvt sat c rf re r8 rg rl
  | 1, _ => w2_1 h hvt sat c rf re r8 rg rl
  | 2, _ => w2_2 h hvt sat c rf re r8 rg rl
  | 3, _ => w2_3 h hvt sat c rf re r8 rg rl
  | 4, _ => w2_4 h hvt sat c rf re r8 rg rl
  | 5, _ => w2_5 h hvt sat c rf re r8 rg rl
  | 6, _ => w2_6 h hvt sat c rf re r8 rg rl
  | 7, _ => w2_7 h hvt sat c rf re r8 rg rl
  | 8, _ => w2_8 h hvt sat c rf re r8 rg rl
  | 9, _ => w2_9 h hvt sat c rf re r8 rg rl
  | 10, _ => w2_10 h hvt sat c rf re r8 rg rl
  | 11, _ => w2_11 h hvt sat c rf re r8 rg rl
  | 12, _ => w2_12 h hvt sat c rf re r8 rg rl
  | 13, _ => w2_13 h hvt sat c rf re r8 rg rl
  | 14, _ => w2_14 h hvt sat c rf re r8 rg rl
  | 15, _ => w2_15 h hvt sat c rf re r8 rg rl
  | 16, _ => w2_16 h hvt sat c rf re r8 rg rl
  | 17, _ => w2_17 h hvt sat c rf re r8 rg rl
  | 18, _ => w2_18 h hvt sat c rf re r8 rg rl
  | 19, _ => w2_19 h hvt sat c rf re r8 rg rl
  | 20, _ => w2_20 h hvt sat c rf re r8 rg rl
  | 21, _ => w2_21 h hvt sat c rf re r8 rg rl
  | 22, _ => w2_22 h hvt sat c rf re r8 rg rl
  | 23, _ => w2_23 h hvt sat c rf re r8 rg rl
  | 24, _ => w2_24 h hvt sat c rf re r8 rg rl
  | 25, _ => w2_25 h hvt sat c rf re r8 rg rl
  | 26, _ => w2_26 h hvt sat c rf re r8 rg rl
  | 27, _ => w2_27 h hvt sat c rf re r8 rg rl
  | 28, _ => w2_28 h hvt sat c rf re r8 rg rl
  | 29, _ => w2_29 h hvt sat c rf re r8 rg rl
  | 30, _ => w2_30 h hvt sat c rf re r8 rg rl
  | 31, _ => w2_31 h hvt sat c rf re r8 rg rl
  | 32, _ => w2_32 h hvt sat c rf re r8 rg rl
  | 33, _ => w2_33 h hvt sat c rf re r8 rg rl
  | 34, _ => w2_34 h hvt sat c rf re r8 rg rl
  | 35, _ => w2_35 h hvt sat c rf re r8 rg rl
  | 36, _ => w2_36 h hvt sat c rf re r8 rg rl
  | 37, _ => w2_37 h hvt sat c rf re r8 rg rl
  | 38, _ => w2_38 h hvt sat c rf re r8 rg rl
  | 39, _ => w2_39 h hvt sat c rf re r8 rg rl
  | 40, _ => w2_40 h hvt sat c rf re r8 rg rl
  | 41, _ => w2_41 h hvt sat c rf re r8 rg rl
  | 42, _ => w2_42 h hvt sat c rf re r8 rg rl
  | 43, _ => w2_43 h hvt sat c rf re r8 rg rl
  | 44, _ => w2_44 h hvt sat c rf re r8 rg rl
  | 45, _ => w2_45 h hvt sat c rf re r8 rg rl
  | 46, _ => w2_46 h hvt sat c rf re r8 rg rl
  | 47, _ => w2_47 h hvt sat c rf re r8 rg rl
  | 48, _ => w2_48 h hvt sat c rf re r8 rg rl
  | 49, _ => w2_49 h hvt sat c rf re r8 rg rl
  | 50, _ => w2_50 h hvt sat c rf re r8 rg rl
  | 51, _ => w2_51 h hvt sat c rf re r8 rg rl
  | 52, _ => w2_52 h hvt sat c rf re r8 rg rl
  | 53, _ => w2_53 h hvt sat c rf re r8 rg rl
  | 54, _ => w2_54 h hvt sat c rf re r8 rg rl
  | 55, _ => w2_55 h hvt sat c rf re r8 rg rl
  | 56, _ => w2_56 h hvt sat c rf re r8 rg rl
  | 57, _ => w2_57 h hvt sat c rf re r8 rg rl
  | 58, _ => w2_58 h hvt sat c rf re r8 rg rl
  | 59, _ => w2_59 h hvt sat c rf re r8 rg rl
  | 60, _ => w2_60 h hvt sat c rf re r8 rg rl
  | 61, _ => w2_61 h hvt sat c rf re r8 rg rl
  | 62, _ => w2_62 h hvt sat c rf re r8 rg rl
  | 63, _ => w2_63 h hvt sat c rf re r8 rg rl
  | n + 64, hn => absurd hn (by omega)
