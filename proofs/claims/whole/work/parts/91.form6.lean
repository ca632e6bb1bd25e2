/-! ===== form 6 ===== -/
theorem w6_0 {S E L st d s1 s2 md : Nat} {im un tb : Int32} {x z xS zX : Nat → Int32} (h : HY S E L st d s1 s2 md 6 im un tb x z xS zX) {vt : Int32} (hvt : fX11_vlmax vt = nI (16 * E / S)) (sat : Int32) (c : Int64) (rf re r8 rg : Int32) (rl : Int64) : WK S E L st d s1 s2 md 6 (nI 0) im un tb x z xS zX vt sat c rf re r8 rg rl := by
  have e1 : fX11_works (nI st) (nI d) (nI s1) (nI s2) 6 (nI 0) (nI S) (nI E) un = 0 := by
    simp (decide := true) only [fX11_works, fX11_mixed, pX11_mixed_299_S1, pX11_mixed_319_S1, pX11_mixed_339_S1, pX11_mixed_359_S1, pX11_mixed_380_S1, pX11_mixed_401_S1, pX11_mixed_422_S1, pX11_mixed_443_S1, pX11_mixed_489_S1, pX11_mixed_507_S1, pX11_mixed_523_S1, pX11_mixed_540_S1, pX11_mixed_613_S1, pX11_mixed_630_S1, pX11_mixed_651_S1, pX11_mixed_859_S1, if_true, if_false]
  have e2 : fX11_works__zV c (nI L) vt (nI st) (nI md) sat (nI d) (nI s1) (nI s2) 6 (nI 0) (nI S) (nI E) un zX z z = z := by
    simp (decide := true) only [fX11_works__zV, fX11_mixed__zV, pX11_mixed_299_zV, pX11_mixed_319_zV, pX11_mixed_339_zV, pX11_mixed_359_zV, pX11_mixed_380_zV, pX11_mixed_401_zV, pX11_mixed_422_zV, pX11_mixed_443_zV, pX11_mixed_489_zV, pX11_mixed_507_zV, pX11_mixed_523_zV, pX11_mixed_540_zV, pX11_mixed_613_zV, pX11_mixed_630_zV, pX11_mixed_651_zV, pX11_mixed_859_zV, if_true, if_false]
  have e3 : fX11_works__m_vxsat c (nI L) vt (nI st) (nI md) sat (nI d) (nI s1) (nI s2) 6 (nI 0) (nI S) (nI E) un zX z z = sat := by
    simp (decide := true) only [fX11_works__m_vxsat, fX11_mixed__m_vxsat, pX11_mixed_299_m_vxsat, pX11_mixed_319_m_vxsat, pX11_mixed_339_m_vxsat, pX11_mixed_359_m_vxsat, pX11_mixed_380_m_vxsat, pX11_mixed_401_m_vxsat, pX11_mixed_422_m_vxsat, pX11_mixed_443_m_vxsat, if_true, if_false]
  have e4 : fX11_works__zX (nI L) (nI st) (nI d) (nI s1) (nI s2) 6 (nI 0) (nI S) un zX z = zX := by
    simp (decide := true) only [fX11_works__zX, fX11_mixed__zX, pX11_mixed_523_zX, if_true, if_false]
  unfold WK
  rw [e1, e2, e3, e4]
  exact ill_WO h (kd_none (by decide)) vt sat c _ rf re r8 rg rl
theorem w6_1 {S E L st d s1 s2 md : Nat} {im un tb : Int32} {x z xS zX : Nat → Int32} (h : HY S E L st d s1 s2 md 6 im un tb x z xS zX) {vt : Int32} (hvt : fX11_vlmax vt = nI (16 * E / S)) (sat : Int32) (c : Int64) (rf re r8 rg : Int32) (rl : Int64) : WK S E L st d s1 s2 md 6 (nI 1) im un tb x z xS zX vt sat c rf re r8 rg rl := by
  have e1 : fX11_works (nI st) (nI d) (nI s1) (nI s2) 6 (nI 1) (nI S) (nI E) un = 0 := by
    simp (decide := true) only [fX11_works, fX11_mixed, pX11_mixed_299_S1, pX11_mixed_319_S1, pX11_mixed_339_S1, pX11_mixed_359_S1, pX11_mixed_380_S1, pX11_mixed_401_S1, pX11_mixed_422_S1, pX11_mixed_443_S1, pX11_mixed_489_S1, pX11_mixed_507_S1, pX11_mixed_523_S1, pX11_mixed_540_S1, pX11_mixed_613_S1, pX11_mixed_630_S1, pX11_mixed_651_S1, pX11_mixed_859_S1, if_true, if_false]
  have e2 : fX11_works__zV c (nI L) vt (nI st) (nI md) sat (nI d) (nI s1) (nI s2) 6 (nI 1) (nI S) (nI E) un zX z z = z := by
    simp (decide := true) only [fX11_works__zV, fX11_mixed__zV, pX11_mixed_299_zV, pX11_mixed_319_zV, pX11_mixed_339_zV, pX11_mixed_359_zV, pX11_mixed_380_zV, pX11_mixed_401_zV, pX11_mixed_422_zV, pX11_mixed_443_zV, pX11_mixed_489_zV, pX11_mixed_507_zV, pX11_mixed_523_zV, pX11_mixed_540_zV, pX11_mixed_613_zV, pX11_mixed_630_zV, pX11_mixed_651_zV, pX11_mixed_859_zV, if_true, if_false]
  have e3 : fX11_works__m_vxsat c (nI L) vt (nI st) (nI md) sat (nI d) (nI s1) (nI s2) 6 (nI 1) (nI S) (nI E) un zX z z = sat := by
    simp (decide := true) only [fX11_works__m_vxsat, fX11_mixed__m_vxsat, pX11_mixed_299_m_vxsat, pX11_mixed_319_m_vxsat, pX11_mixed_339_m_vxsat, pX11_mixed_359_m_vxsat, pX11_mixed_380_m_vxsat, pX11_mixed_401_m_vxsat, pX11_mixed_422_m_vxsat, pX11_mixed_443_m_vxsat, if_true, if_false]
  have e4 : fX11_works__zX (nI L) (nI st) (nI d) (nI s1) (nI s2) 6 (nI 1) (nI S) un zX z = zX := by
    simp (decide := true) only [fX11_works__zX, fX11_mixed__zX, pX11_mixed_523_zX, if_true, if_false]
  unfold WK
  rw [e1, e2, e3, e4]
  exact ill_WO h (kd_none (by decide)) vt sat c _ rf re r8 rg rl
theorem w6_2 {S E L st d s1 s2 md : Nat} {im un tb : Int32} {x z xS zX : Nat → Int32} (h : HY S E L st d s1 s2 md 6 im un tb x z xS zX) {vt : Int32} (hvt : fX11_vlmax vt = nI (16 * E / S)) (sat : Int32) (c : Int64) (rf re r8 rg : Int32) (rl : Int64) : WK S E L st d s1 s2 md 6 (nI 2) im un tb x z xS zX vt sat c rf re r8 rg rl := by
  have e1 : fX11_works (nI st) (nI d) (nI s1) (nI s2) 6 (nI 2) (nI S) (nI E) un = 0 := by
    simp (decide := true) only [fX11_works, fX11_mixed, pX11_mixed_299_S1, pX11_mixed_319_S1, pX11_mixed_339_S1, pX11_mixed_359_S1, pX11_mixed_380_S1, pX11_mixed_401_S1, pX11_mixed_422_S1, pX11_mixed_443_S1, pX11_mixed_489_S1, pX11_mixed_507_S1, pX11_mixed_523_S1, pX11_mixed_540_S1, pX11_mixed_613_S1, pX11_mixed_630_S1, pX11_mixed_651_S1, pX11_mixed_859_S1, if_true, if_false]
  have e2 : fX11_works__zV c (nI L) vt (nI st) (nI md) sat (nI d) (nI s1) (nI s2) 6 (nI 2) (nI S) (nI E) un zX z z = z := by
    simp (decide := true) only [fX11_works__zV, fX11_mixed__zV, pX11_mixed_299_zV, pX11_mixed_319_zV, pX11_mixed_339_zV, pX11_mixed_359_zV, pX11_mixed_380_zV, pX11_mixed_401_zV, pX11_mixed_422_zV, pX11_mixed_443_zV, pX11_mixed_489_zV, pX11_mixed_507_zV, pX11_mixed_523_zV, pX11_mixed_540_zV, pX11_mixed_613_zV, pX11_mixed_630_zV, pX11_mixed_651_zV, pX11_mixed_859_zV, if_true, if_false]
  have e3 : fX11_works__m_vxsat c (nI L) vt (nI st) (nI md) sat (nI d) (nI s1) (nI s2) 6 (nI 2) (nI S) (nI E) un zX z z = sat := by
    simp (decide := true) only [fX11_works__m_vxsat, fX11_mixed__m_vxsat, pX11_mixed_299_m_vxsat, pX11_mixed_319_m_vxsat, pX11_mixed_339_m_vxsat, pX11_mixed_359_m_vxsat, pX11_mixed_380_m_vxsat, pX11_mixed_401_m_vxsat, pX11_mixed_422_m_vxsat, pX11_mixed_443_m_vxsat, if_true, if_false]
  have e4 : fX11_works__zX (nI L) (nI st) (nI d) (nI s1) (nI s2) 6 (nI 2) (nI S) un zX z = zX := by
    simp (decide := true) only [fX11_works__zX, fX11_mixed__zX, pX11_mixed_523_zX, if_true, if_false]
  unfold WK
  rw [e1, e2, e3, e4]
  exact ill_WO h (kd_none (by decide)) vt sat c _ rf re r8 rg rl
theorem w6_3 {S E L st d s1 s2 md : Nat} {im un tb : Int32} {x z xS zX : Nat → Int32} (h : HY S E L st d s1 s2 md 6 im un tb x z xS zX) {vt : Int32} (hvt : fX11_vlmax vt = nI (16 * E / S)) (sat : Int32) (c : Int64) (rf re r8 rg : Int32) (rl : Int64) : WK S E L st d s1 s2 md 6 (nI 3) im un tb x z xS zX vt sat c rf re r8 rg rl := by
  have e1 : fX11_works (nI st) (nI d) (nI s1) (nI s2) 6 (nI 3) (nI S) (nI E) un = 0 := by
    simp (decide := true) only [fX11_works, fX11_mixed, pX11_mixed_299_S1, pX11_mixed_319_S1, pX11_mixed_339_S1, pX11_mixed_359_S1, pX11_mixed_380_S1, pX11_mixed_401_S1, pX11_mixed_422_S1, pX11_mixed_443_S1, pX11_mixed_489_S1, pX11_mixed_507_S1, pX11_mixed_523_S1, pX11_mixed_540_S1, pX11_mixed_613_S1, pX11_mixed_630_S1, pX11_mixed_651_S1, pX11_mixed_859_S1, if_true, if_false]
  have e2 : fX11_works__zV c (nI L) vt (nI st) (nI md) sat (nI d) (nI s1) (nI s2) 6 (nI 3) (nI S) (nI E) un zX z z = z := by
    simp (decide := true) only [fX11_works__zV, fX11_mixed__zV, pX11_mixed_299_zV, pX11_mixed_319_zV, pX11_mixed_339_zV, pX11_mixed_359_zV, pX11_mixed_380_zV, pX11_mixed_401_zV, pX11_mixed_422_zV, pX11_mixed_443_zV, pX11_mixed_489_zV, pX11_mixed_507_zV, pX11_mixed_523_zV, pX11_mixed_540_zV, pX11_mixed_613_zV, pX11_mixed_630_zV, pX11_mixed_651_zV, pX11_mixed_859_zV, if_true, if_false]
  have e3 : fX11_works__m_vxsat c (nI L) vt (nI st) (nI md) sat (nI d) (nI s1) (nI s2) 6 (nI 3) (nI S) (nI E) un zX z z = sat := by
    simp (decide := true) only [fX11_works__m_vxsat, fX11_mixed__m_vxsat, pX11_mixed_299_m_vxsat, pX11_mixed_319_m_vxsat, pX11_mixed_339_m_vxsat, pX11_mixed_359_m_vxsat, pX11_mixed_380_m_vxsat, pX11_mixed_401_m_vxsat, pX11_mixed_422_m_vxsat, pX11_mixed_443_m_vxsat, if_true, if_false]
  have e4 : fX11_works__zX (nI L) (nI st) (nI d) (nI s1) (nI s2) 6 (nI 3) (nI S) un zX z = zX := by
    simp (decide := true) only [fX11_works__zX, fX11_mixed__zX, pX11_mixed_523_zX, if_true, if_false]
  unfold WK
  rw [e1, e2, e3, e4]
  exact ill_WO h (kd_none (by decide)) vt sat c _ rf re r8 rg rl
theorem w6_4 {S E L st d s1 s2 md : Nat} {im un tb : Int32} {x z xS zX : Nat → Int32} (h : HY S E L st d s1 s2 md 6 im un tb x z xS zX) {vt : Int32} (hvt : fX11_vlmax vt = nI (16 * E / S)) (sat : Int32) (c : Int64) (rf re r8 rg : Int32) (rl : Int64) : WK S E L st d s1 s2 md 6 (nI 4) im un tb x z xS zX vt sat c rf re r8 rg rl := by
  have e1 : fX11_works (nI st) (nI d) (nI s1) (nI s2) 6 (nI 4) (nI S) (nI E) un = 0 := by
    simp (decide := true) only [fX11_works, fX11_mixed, pX11_mixed_299_S1, pX11_mixed_319_S1, pX11_mixed_339_S1, pX11_mixed_359_S1, pX11_mixed_380_S1, pX11_mixed_401_S1, pX11_mixed_422_S1, pX11_mixed_443_S1, pX11_mixed_489_S1, pX11_mixed_507_S1, pX11_mixed_523_S1, pX11_mixed_540_S1, pX11_mixed_613_S1, pX11_mixed_630_S1, pX11_mixed_651_S1, pX11_mixed_859_S1, if_true, if_false]
  have e2 : fX11_works__zV c (nI L) vt (nI st) (nI md) sat (nI d) (nI s1) (nI s2) 6 (nI 4) (nI S) (nI E) un zX z z = z := by
    simp (decide := true) only [fX11_works__zV, fX11_mixed__zV, pX11_mixed_299_zV, pX11_mixed_319_zV, pX11_mixed_339_zV, pX11_mixed_359_zV, pX11_mixed_380_zV, pX11_mixed_401_zV, pX11_mixed_422_zV, pX11_mixed_443_zV, pX11_mixed_489_zV, pX11_mixed_507_zV, pX11_mixed_523_zV, pX11_mixed_540_zV, pX11_mixed_613_zV, pX11_mixed_630_zV, pX11_mixed_651_zV, pX11_mixed_859_zV, if_true, if_false]
  have e3 : fX11_works__m_vxsat c (nI L) vt (nI st) (nI md) sat (nI d) (nI s1) (nI s2) 6 (nI 4) (nI S) (nI E) un zX z z = sat := by
    simp (decide := true) only [fX11_works__m_vxsat, fX11_mixed__m_vxsat, pX11_mixed_299_m_vxsat, pX11_mixed_319_m_vxsat, pX11_mixed_339_m_vxsat, pX11_mixed_359_m_vxsat, pX11_mixed_380_m_vxsat, pX11_mixed_401_m_vxsat, pX11_mixed_422_m_vxsat, pX11_mixed_443_m_vxsat, if_true, if_false]
  have e4 : fX11_works__zX (nI L) (nI st) (nI d) (nI s1) (nI s2) 6 (nI 4) (nI S) un zX z = zX := by
    simp (decide := true) only [fX11_works__zX, fX11_mixed__zX, pX11_mixed_523_zX, if_true, if_false]
  unfold WK
  rw [e1, e2, e3, e4]
  exact ill_WO h (kd_none (by decide)) vt sat c _ rf re r8 rg rl
theorem w6_5 {S E L st d s1 s2 md : Nat} {im un tb : Int32} {x z xS zX : Nat → Int32} (h : HY S E L st d s1 s2 md 6 im un tb x z xS zX) {vt : Int32} (hvt : fX11_vlmax vt = nI (16 * E / S)) (sat : Int32) (c : Int64) (rf re r8 rg : Int32) (rl : Int64) : WK S E L st d s1 s2 md 6 (nI 5) im un tb x z xS zX vt sat c rf re r8 rg rl := by
  have e1 : fX11_works (nI st) (nI d) (nI s1) (nI s2) 6 (nI 5) (nI S) (nI E) un = 0 := by
    simp (decide := true) only [fX11_works, fX11_mixed, pX11_mixed_299_S1, pX11_mixed_319_S1, pX11_mixed_339_S1, pX11_mixed_359_S1, pX11_mixed_380_S1, pX11_mixed_401_S1, pX11_mixed_422_S1, pX11_mixed_443_S1, pX11_mixed_489_S1, pX11_mixed_507_S1, pX11_mixed_523_S1, pX11_mixed_540_S1, pX11_mixed_613_S1, pX11_mixed_630_S1, pX11_mixed_651_S1, pX11_mixed_859_S1, if_true, if_false]
  have e2 : fX11_works__zV c (nI L) vt (nI st) (nI md) sat (nI d) (nI s1) (nI s2) 6 (nI 5) (nI S) (nI E) un zX z z = z := by
    simp (decide := true) only [fX11_works__zV, fX11_mixed__zV, pX11_mixed_299_zV, pX11_mixed_319_zV, pX11_mixed_339_zV, pX11_mixed_359_zV, pX11_mixed_380_zV, pX11_mixed_401_zV, pX11_mixed_422_zV, pX11_mixed_443_zV, pX11_mixed_489_zV, pX11_mixed_507_zV, pX11_mixed_523_zV, pX11_mixed_540_zV, pX11_mixed_613_zV, pX11_mixed_630_zV, pX11_mixed_651_zV, pX11_mixed_859_zV, if_true, if_false]
  have e3 : fX11_works__m_vxsat c (nI L) vt (nI st) (nI md) sat (nI d) (nI s1) (nI s2) 6 (nI 5) (nI S) (nI E) un zX z z = sat := by
    simp (decide := true) only [fX11_works__m_vxsat, fX11_mixed__m_vxsat, pX11_mixed_299_m_vxsat, pX11_mixed_319_m_vxsat, pX11_mixed_339_m_vxsat, pX11_mixed_359_m_vxsat, pX11_mixed_380_m_vxsat, pX11_mixed_401_m_vxsat, pX11_mixed_422_m_vxsat, pX11_mixed_443_m_vxsat, if_true, if_false]
  have e4 : fX11_works__zX (nI L) (nI st) (nI d) (nI s1) (nI s2) 6 (nI 5) (nI S) un zX z = zX := by
    simp (decide := true) only [fX11_works__zX, fX11_mixed__zX, pX11_mixed_523_zX, if_true, if_false]
  unfold WK
  rw [e1, e2, e3, e4]
  exact ill_WO h (kd_none (by decide)) vt sat c _ rf re r8 rg rl
theorem w6_6 {S E L st d s1 s2 md : Nat} {im un tb : Int32} {x z xS zX : Nat → Int32} (h : HY S E L st d s1 s2 md 6 im un tb x z xS zX) {vt : Int32} (hvt : fX11_vlmax vt = nI (16 * E / S)) (sat : Int32) (c : Int64) (rf re r8 rg : Int32) (rl : Int64) : WK S E L st d s1 s2 md 6 (nI 6) im un tb x z xS zX vt sat c rf re r8 rg rl := by
  have e1 : fX11_works (nI st) (nI d) (nI s1) (nI s2) 6 (nI 6) (nI S) (nI E) un = 0 := by
    simp (decide := true) only [fX11_works, fX11_mixed, pX11_mixed_299_S1, pX11_mixed_319_S1, pX11_mixed_339_S1, pX11_mixed_359_S1, pX11_mixed_380_S1, pX11_mixed_401_S1, pX11_mixed_422_S1, pX11_mixed_443_S1, pX11_mixed_489_S1, pX11_mixed_507_S1, pX11_mixed_523_S1, pX11_mixed_540_S1, pX11_mixed_613_S1, pX11_mixed_630_S1, pX11_mixed_651_S1, pX11_mixed_859_S1, if_true, if_false]
  have e2 : fX11_works__zV c (nI L) vt (nI st) (nI md) sat (nI d) (nI s1) (nI s2) 6 (nI 6) (nI S) (nI E) un zX z z = z := by
    simp (decide := true) only [fX11_works__zV, fX11_mixed__zV, pX11_mixed_299_zV, pX11_mixed_319_zV, pX11_mixed_339_zV, pX11_mixed_359_zV, pX11_mixed_380_zV, pX11_mixed_401_zV, pX11_mixed_422_zV, pX11_mixed_443_zV, pX11_mixed_489_zV, pX11_mixed_507_zV, pX11_mixed_523_zV, pX11_mixed_540_zV, pX11_mixed_613_zV, pX11_mixed_630_zV, pX11_mixed_651_zV, pX11_mixed_859_zV, if_true, if_false]
  have e3 : fX11_works__m_vxsat c (nI L) vt (nI st) (nI md) sat (nI d) (nI s1) (nI s2) 6 (nI 6) (nI S) (nI E) un zX z z = sat := by
    simp (decide := true) only [fX11_works__m_vxsat, fX11_mixed__m_vxsat, pX11_mixed_299_m_vxsat, pX11_mixed_319_m_vxsat, pX11_mixed_339_m_vxsat, pX11_mixed_359_m_vxsat, pX11_mixed_380_m_vxsat, pX11_mixed_401_m_vxsat, pX11_mixed_422_m_vxsat, pX11_mixed_443_m_vxsat, if_true, if_false]
  have e4 : fX11_works__zX (nI L) (nI st) (nI d) (nI s1) (nI s2) 6 (nI 6) (nI S) un zX z = zX := by
    simp (decide := true) only [fX11_works__zX, fX11_mixed__zX, pX11_mixed_523_zX, if_true, if_false]
  unfold WK
  rw [e1, e2, e3, e4]
  exact ill_WO h (kd_none (by decide)) vt sat c _ rf re r8 rg rl
theorem w6_7 {S E L st d s1 s2 md : Nat} {im un tb : Int32} {x z xS zX : Nat → Int32} (h : HY S E L st d s1 s2 md 6 im un tb x z xS zX) {vt : Int32} (hvt : fX11_vlmax vt = nI (16 * E / S)) (sat : Int32) (c : Int64) (rf re r8 rg : Int32) (rl : Int64) : WK S E L st d s1 s2 md 6 (nI 7) im un tb x z xS zX vt sat c rf re r8 rg rl := by
  have e1 : fX11_works (nI st) (nI d) (nI s1) (nI s2) 6 (nI 7) (nI S) (nI E) un = 0 := by
    simp (decide := true) only [fX11_works, fX11_mixed, pX11_mixed_299_S1, pX11_mixed_319_S1, pX11_mixed_339_S1, pX11_mixed_359_S1, pX11_mixed_380_S1, pX11_mixed_401_S1, pX11_mixed_422_S1, pX11_mixed_443_S1, pX11_mixed_489_S1, pX11_mixed_507_S1, pX11_mixed_523_S1, pX11_mixed_540_S1, pX11_mixed_613_S1, pX11_mixed_630_S1, pX11_mixed_651_S1, pX11_mixed_859_S1, if_true, if_false]
  have e2 : fX11_works__zV c (nI L) vt (nI st) (nI md) sat (nI d) (nI s1) (nI s2) 6 (nI 7) (nI S) (nI E) un zX z z = z := by
    simp (decide := true) only [fX11_works__zV, fX11_mixed__zV, pX11_mixed_299_zV, pX11_mixed_319_zV, pX11_mixed_339_zV, pX11_mixed_359_zV, pX11_mixed_380_zV, pX11_mixed_401_zV, pX11_mixed_422_zV, pX11_mixed_443_zV, pX11_mixed_489_zV, pX11_mixed_507_zV, pX11_mixed_523_zV, pX11_mixed_540_zV, pX11_mixed_613_zV, pX11_mixed_630_zV, pX11_mixed_651_zV, pX11_mixed_859_zV, if_true, if_false]
  have e3 : fX11_works__m_vxsat c (nI L) vt (nI st) (nI md) sat (nI d) (nI s1) (nI s2) 6 (nI 7) (nI S) (nI E) un zX z z = sat := by
    simp (decide := true) only [fX11_works__m_vxsat, fX11_mixed__m_vxsat, pX11_mixed_299_m_vxsat, pX11_mixed_319_m_vxsat, pX11_mixed_339_m_vxsat, pX11_mixed_359_m_vxsat, pX11_mixed_380_m_vxsat, pX11_mixed_401_m_vxsat, pX11_mixed_422_m_vxsat, pX11_mixed_443_m_vxsat, if_true, if_false]
  have e4 : fX11_works__zX (nI L) (nI st) (nI d) (nI s1) (nI s2) 6 (nI 7) (nI S) un zX z = zX := by
    simp (decide := true) only [fX11_works__zX, fX11_mixed__zX, pX11_mixed_523_zX, if_true, if_false]
  unfold WK
  rw [e1, e2, e3, e4]
  exact ill_WO h (kd_none (by decide)) vt sat c _ rf re r8 rg rl
theorem w6_8 {S E L st d s1 s2 md : Nat} {im un tb : Int32} {x z xS zX : Nat → Int32} (h : HY S E L st d s1 s2 md 6 im un tb x z xS zX) {vt : Int32} (hvt : fX11_vlmax vt = nI (16 * E / S)) (sat : Int32) (c : Int64) (rf re r8 rg : Int32) (rl : Int64) : WK S E L st d s1 s2 md 6 (nI 8) im un tb x z xS zX vt sat c rf re r8 rg rl := by
  have e1 : fX11_works (nI st) (nI d) (nI s1) (nI s2) 6 (nI 8) (nI S) (nI E) un = fX11_alike (nI d) (nI s1) (nI s2) 6 (nI S) (nI E) un := by
    simp (decide := true) only [fX11_works, fX11_mixed, pX11_mixed_299_S1, pX11_mixed_319_S1, pX11_mixed_339_S1, pX11_mixed_359_S1, pX11_mixed_380_S1, pX11_mixed_401_S1, pX11_mixed_422_S1, pX11_mixed_443_S1, pX11_mixed_489_S1, pX11_mixed_507_S1, pX11_mixed_523_S1, pX11_mixed_540_S1, pX11_mixed_613_S1, pX11_mixed_630_S1, pX11_mixed_651_S1, pX11_mixed_859_S1, if_true, if_false]
  have e2 : fX11_works__zV c (nI L) vt (nI st) (nI md) sat (nI d) (nI s1) (nI s2) 6 (nI 8) (nI S) (nI E) un zX z z = fX11_alike__zV c (nI L) vt (nI st) (nI md) sat (nI d) (nI s1) (nI s2) 6 (nI S) (nI E) un zX z z 20 := by
    simp (decide := true) only [fX11_works__zV, fX11_mixed__zV, pX11_mixed_299_zV, pX11_mixed_319_zV, pX11_mixed_339_zV, pX11_mixed_359_zV, pX11_mixed_380_zV, pX11_mixed_401_zV, pX11_mixed_422_zV, pX11_mixed_443_zV, pX11_mixed_489_zV, pX11_mixed_507_zV, pX11_mixed_523_zV, pX11_mixed_540_zV, pX11_mixed_613_zV, pX11_mixed_630_zV, pX11_mixed_651_zV, pX11_mixed_859_zV, if_true, if_false]
  have e3 : fX11_works__m_vxsat c (nI L) vt (nI st) (nI md) sat (nI d) (nI s1) (nI s2) 6 (nI 8) (nI S) (nI E) un zX z z = fX11_alike__m_vxsat c (nI L) vt (nI st) (nI md) sat (nI d) (nI s1) (nI s2) 6 (nI S) (nI E) un zX z z 20 := by
    simp (decide := true) only [fX11_works__m_vxsat, fX11_mixed__m_vxsat, pX11_mixed_299_m_vxsat, pX11_mixed_319_m_vxsat, pX11_mixed_339_m_vxsat, pX11_mixed_359_m_vxsat, pX11_mixed_380_m_vxsat, pX11_mixed_401_m_vxsat, pX11_mixed_422_m_vxsat, pX11_mixed_443_m_vxsat, if_true, if_false]
  have e4 : fX11_works__zX (nI L) (nI st) (nI d) (nI s1) (nI s2) 6 (nI 8) (nI S) un zX z = zX := by
    simp (decide := true) only [fX11_works__zX, fX11_mixed__zX, pX11_mixed_523_zX, if_true, if_false]
  unfold WK
  rw [e1, e2, e3, e4]
  exact alike_WO h (by decide) (by rw [kd_plain (by decide) (by decide) (show _ = (1 : Int32) by decide), mb_free (by decide)]) vt sat c _ rf re r8 rg rl
theorem w6_9 {S E L st d s1 s2 md : Nat} {im un tb : Int32} {x z xS zX : Nat → Int32} (h : HY S E L st d s1 s2 md 6 im un tb x z xS zX) {vt : Int32} (hvt : fX11_vlmax vt = nI (16 * E / S)) (sat : Int32) (c : Int64) (rf re r8 rg : Int32) (rl : Int64) : WK S E L st d s1 s2 md 6 (nI 9) im un tb x z xS zX vt sat c rf re r8 rg rl := by
  have e1 : fX11_works (nI st) (nI d) (nI s1) (nI s2) 6 (nI 9) (nI S) (nI E) un = fX11_alike (nI d) (nI s1) (nI s2) 6 (nI S) (nI E) un := by
    simp (decide := true) only [fX11_works, fX11_mixed, pX11_mixed_299_S1, pX11_mixed_319_S1, pX11_mixed_339_S1, pX11_mixed_359_S1, pX11_mixed_380_S1, pX11_mixed_401_S1, pX11_mixed_422_S1, pX11_mixed_443_S1, pX11_mixed_489_S1, pX11_mixed_507_S1, pX11_mixed_523_S1, pX11_mixed_540_S1, pX11_mixed_613_S1, pX11_mixed_630_S1, pX11_mixed_651_S1, pX11_mixed_859_S1, if_true, if_false]
  have e2 : fX11_works__zV c (nI L) vt (nI st) (nI md) sat (nI d) (nI s1) (nI s2) 6 (nI 9) (nI S) (nI E) un zX z z = fX11_alike__zV c (nI L) vt (nI st) (nI md) sat (nI d) (nI s1) (nI s2) 6 (nI S) (nI E) un zX z z 21 := by
    simp (decide := true) only [fX11_works__zV, fX11_mixed__zV, pX11_mixed_299_zV, pX11_mixed_319_zV, pX11_mixed_339_zV, pX11_mixed_359_zV, pX11_mixed_380_zV, pX11_mixed_401_zV, pX11_mixed_422_zV, pX11_mixed_443_zV, pX11_mixed_489_zV, pX11_mixed_507_zV, pX11_mixed_523_zV, pX11_mixed_540_zV, pX11_mixed_613_zV, pX11_mixed_630_zV, pX11_mixed_651_zV, pX11_mixed_859_zV, if_true, if_false]
  have e3 : fX11_works__m_vxsat c (nI L) vt (nI st) (nI md) sat (nI d) (nI s1) (nI s2) 6 (nI 9) (nI S) (nI E) un zX z z = fX11_alike__m_vxsat c (nI L) vt (nI st) (nI md) sat (nI d) (nI s1) (nI s2) 6 (nI S) (nI E) un zX z z 21 := by
    simp (decide := true) only [fX11_works__m_vxsat, fX11_mixed__m_vxsat, pX11_mixed_299_m_vxsat, pX11_mixed_319_m_vxsat, pX11_mixed_339_m_vxsat, pX11_mixed_359_m_vxsat, pX11_mixed_380_m_vxsat, pX11_mixed_401_m_vxsat, pX11_mixed_422_m_vxsat, pX11_mixed_443_m_vxsat, if_true, if_false]
  have e4 : fX11_works__zX (nI L) (nI st) (nI d) (nI s1) (nI s2) 6 (nI 9) (nI S) un zX z = zX := by
    simp (decide := true) only [fX11_works__zX, fX11_mixed__zX, pX11_mixed_523_zX, if_true, if_false]
  unfold WK
  rw [e1, e2, e3, e4]
  exact alike_WO h (by decide) (by rw [kd_plain (by decide) (by decide) (show _ = (1 : Int32) by decide), mb_free (by decide)]) vt sat c _ rf re r8 rg rl
theorem w6_10 {S E L st d s1 s2 md : Nat} {im un tb : Int32} {x z xS zX : Nat → Int32} (h : HY S E L st d s1 s2 md 6 im un tb x z xS zX) {vt : Int32} (hvt : fX11_vlmax vt = nI (16 * E / S)) (sat : Int32) (c : Int64) (rf re r8 rg : Int32) (rl : Int64) : WK S E L st d s1 s2 md 6 (nI 10) im un tb x z xS zX vt sat c rf re r8 rg rl := by
  have e1 : fX11_works (nI st) (nI d) (nI s1) (nI s2) 6 (nI 10) (nI S) (nI E) un = fX11_alike (nI d) (nI s1) (nI s2) 6 (nI S) (nI E) un := by
    simp (decide := true) only [fX11_works, fX11_mixed, pX11_mixed_299_S1, pX11_mixed_319_S1, pX11_mixed_339_S1, pX11_mixed_359_S1, pX11_mixed_380_S1, pX11_mixed_401_S1, pX11_mixed_422_S1, pX11_mixed_443_S1, pX11_mixed_489_S1, pX11_mixed_507_S1, pX11_mixed_523_S1, pX11_mixed_540_S1, pX11_mixed_613_S1, pX11_mixed_630_S1, pX11_mixed_651_S1, pX11_mixed_859_S1, if_true, if_false]
  have e2 : fX11_works__zV c (nI L) vt (nI st) (nI md) sat (nI d) (nI s1) (nI s2) 6 (nI 10) (nI S) (nI E) un zX z z = fX11_alike__zV c (nI L) vt (nI st) (nI md) sat (nI d) (nI s1) (nI s2) 6 (nI S) (nI E) un zX z z 22 := by
    simp (decide := true) only [fX11_works__zV, fX11_mixed__zV, pX11_mixed_299_zV, pX11_mixed_319_zV, pX11_mixed_339_zV, pX11_mixed_359_zV, pX11_mixed_380_zV, pX11_mixed_401_zV, pX11_mixed_422_zV, pX11_mixed_443_zV, pX11_mixed_489_zV, pX11_mixed_507_zV, pX11_mixed_523_zV, pX11_mixed_540_zV, pX11_mixed_613_zV, pX11_mixed_630_zV, pX11_mixed_651_zV, pX11_mixed_859_zV, if_true, if_false]
  have e3 : fX11_works__m_vxsat c (nI L) vt (nI st) (nI md) sat (nI d) (nI s1) (nI s2) 6 (nI 10) (nI S) (nI E) un zX z z = fX11_alike__m_vxsat c (nI L) vt (nI st) (nI md) sat (nI d) (nI s1) (nI s2) 6 (nI S) (nI E) un zX z z 22 := by
    simp (decide := true) only [fX11_works__m_vxsat, fX11_mixed__m_vxsat, pX11_mixed_299_m_vxsat, pX11_mixed_319_m_vxsat, pX11_mixed_339_m_vxsat, pX11_mixed_359_m_vxsat, pX11_mixed_380_m_vxsat, pX11_mixed_401_m_vxsat, pX11_mixed_422_m_vxsat, pX11_mixed_443_m_vxsat, if_true, if_false]
  have e4 : fX11_works__zX (nI L) (nI st) (nI d) (nI s1) (nI s2) 6 (nI 10) (nI S) un zX z = zX := by
    simp (decide := true) only [fX11_works__zX, fX11_mixed__zX, pX11_mixed_523_zX, if_true, if_false]
  unfold WK
  rw [e1, e2, e3, e4]
  exact alike_WO h (by decide) (by rw [kd_plain (by decide) (by decide) (show _ = (1 : Int32) by decide), mb_free (by decide)]) vt sat c _ rf re r8 rg rl
theorem w6_11 {S E L st d s1 s2 md : Nat} {im un tb : Int32} {x z xS zX : Nat → Int32} (h : HY S E L st d s1 s2 md 6 im un tb x z xS zX) {vt : Int32} (hvt : fX11_vlmax vt = nI (16 * E / S)) (sat : Int32) (c : Int64) (rf re r8 rg : Int32) (rl : Int64) : WK S E L st d s1 s2 md 6 (nI 11) im un tb x z xS zX vt sat c rf re r8 rg rl := by
  have e1 : fX11_works (nI st) (nI d) (nI s1) (nI s2) 6 (nI 11) (nI S) (nI E) un = fX11_alike (nI d) (nI s1) (nI s2) 6 (nI S) (nI E) un := by
    simp (decide := true) only [fX11_works, fX11_mixed, pX11_mixed_299_S1, pX11_mixed_319_S1, pX11_mixed_339_S1, pX11_mixed_359_S1, pX11_mixed_380_S1, pX11_mixed_401_S1, pX11_mixed_422_S1, pX11_mixed_443_S1, pX11_mixed_489_S1, pX11_mixed_507_S1, pX11_mixed_523_S1, pX11_mixed_540_S1, pX11_mixed_613_S1, pX11_mixed_630_S1, pX11_mixed_651_S1, pX11_mixed_859_S1, if_true, if_false]
  have e2 : fX11_works__zV c (nI L) vt (nI st) (nI md) sat (nI d) (nI s1) (nI s2) 6 (nI 11) (nI S) (nI E) un zX z z = fX11_alike__zV c (nI L) vt (nI st) (nI md) sat (nI d) (nI s1) (nI s2) 6 (nI S) (nI E) un zX z z 23 := by
    simp (decide := true) only [fX11_works__zV, fX11_mixed__zV, pX11_mixed_299_zV, pX11_mixed_319_zV, pX11_mixed_339_zV, pX11_mixed_359_zV, pX11_mixed_380_zV, pX11_mixed_401_zV, pX11_mixed_422_zV, pX11_mixed_443_zV, pX11_mixed_489_zV, pX11_mixed_507_zV, pX11_mixed_523_zV, pX11_mixed_540_zV, pX11_mixed_613_zV, pX11_mixed_630_zV, pX11_mixed_651_zV, pX11_mixed_859_zV, if_true, if_false]
  have e3 : fX11_works__m_vxsat c (nI L) vt (nI st) (nI md) sat (nI d) (nI s1) (nI s2) 6 (nI 11) (nI S) (nI E) un zX z z = fX11_alike__m_vxsat c (nI L) vt (nI st) (nI md) sat (nI d) (nI s1) (nI s2) 6 (nI S) (nI E) un zX z z 23 := by
    simp (decide := true) only [fX11_works__m_vxsat, fX11_mixed__m_vxsat, pX11_mixed_299_m_vxsat, pX11_mixed_319_m_vxsat, pX11_mixed_339_m_vxsat, pX11_mixed_359_m_vxsat, pX11_mixed_380_m_vxsat, pX11_mixed_401_m_vxsat, pX11_mixed_422_m_vxsat, pX11_mixed_443_m_vxsat, if_true, if_false]
  have e4 : fX11_works__zX (nI L) (nI st) (nI d) (nI s1) (nI s2) 6 (nI 11) (nI S) un zX z = zX := by
    simp (decide := true) only [fX11_works__zX, fX11_mixed__zX, pX11_mixed_523_zX, if_true, if_false]
  unfold WK
  rw [e1, e2, e3, e4]
  exact alike_WO h (by decide) (by rw [kd_plain (by decide) (by decide) (show _ = (1 : Int32) by decide), mb_free (by decide)]) vt sat c _ rf re r8 rg rl
theorem w6_12 {S E L st d s1 s2 md : Nat} {im un tb : Int32} {x z xS zX : Nat → Int32} (h : HY S E L st d s1 s2 md 6 im un tb x z xS zX) {vt : Int32} (hvt : fX11_vlmax vt = nI (16 * E / S)) (sat : Int32) (c : Int64) (rf re r8 rg : Int32) (rl : Int64) : WK S E L st d s1 s2 md 6 (nI 12) im un tb x z xS zX vt sat c rf re r8 rg rl := by
  have e1 : fX11_works (nI st) (nI d) (nI s1) (nI s2) 6 (nI 12) (nI S) (nI E) un = 0 := by
    simp (decide := true) only [fX11_works, fX11_mixed, pX11_mixed_299_S1, pX11_mixed_319_S1, pX11_mixed_339_S1, pX11_mixed_359_S1, pX11_mixed_380_S1, pX11_mixed_401_S1, pX11_mixed_422_S1, pX11_mixed_443_S1, pX11_mixed_489_S1, pX11_mixed_507_S1, pX11_mixed_523_S1, pX11_mixed_540_S1, pX11_mixed_613_S1, pX11_mixed_630_S1, pX11_mixed_651_S1, pX11_mixed_859_S1, if_true, if_false]
  have e2 : fX11_works__zV c (nI L) vt (nI st) (nI md) sat (nI d) (nI s1) (nI s2) 6 (nI 12) (nI S) (nI E) un zX z z = z := by
    simp (decide := true) only [fX11_works__zV, fX11_mixed__zV, pX11_mixed_299_zV, pX11_mixed_319_zV, pX11_mixed_339_zV, pX11_mixed_359_zV, pX11_mixed_380_zV, pX11_mixed_401_zV, pX11_mixed_422_zV, pX11_mixed_443_zV, pX11_mixed_489_zV, pX11_mixed_507_zV, pX11_mixed_523_zV, pX11_mixed_540_zV, pX11_mixed_613_zV, pX11_mixed_630_zV, pX11_mixed_651_zV, pX11_mixed_859_zV, if_true, if_false]
  have e3 : fX11_works__m_vxsat c (nI L) vt (nI st) (nI md) sat (nI d) (nI s1) (nI s2) 6 (nI 12) (nI S) (nI E) un zX z z = sat := by
    simp (decide := true) only [fX11_works__m_vxsat, fX11_mixed__m_vxsat, pX11_mixed_299_m_vxsat, pX11_mixed_319_m_vxsat, pX11_mixed_339_m_vxsat, pX11_mixed_359_m_vxsat, pX11_mixed_380_m_vxsat, pX11_mixed_401_m_vxsat, pX11_mixed_422_m_vxsat, pX11_mixed_443_m_vxsat, if_true, if_false]
  have e4 : fX11_works__zX (nI L) (nI st) (nI d) (nI s1) (nI s2) 6 (nI 12) (nI S) un zX z = zX := by
    simp (decide := true) only [fX11_works__zX, fX11_mixed__zX, pX11_mixed_523_zX, if_true, if_false]
  unfold WK
  rw [e1, e2, e3, e4]
  exact ill_WO h (kd_none (by decide)) vt sat c _ rf re r8 rg rl
theorem w6_13 {S E L st d s1 s2 md : Nat} {im un tb : Int32} {x z xS zX : Nat → Int32} (h : HY S E L st d s1 s2 md 6 im un tb x z xS zX) {vt : Int32} (hvt : fX11_vlmax vt = nI (16 * E / S)) (sat : Int32) (c : Int64) (rf re r8 rg : Int32) (rl : Int64) : WK S E L st d s1 s2 md 6 (nI 13) im un tb x z xS zX vt sat c rf re r8 rg rl := by
  have e1 : fX11_works (nI st) (nI d) (nI s1) (nI s2) 6 (nI 13) (nI S) (nI E) un = 0 := by
    simp (decide := true) only [fX11_works, fX11_mixed, pX11_mixed_299_S1, pX11_mixed_319_S1, pX11_mixed_339_S1, pX11_mixed_359_S1, pX11_mixed_380_S1, pX11_mixed_401_S1, pX11_mixed_422_S1, pX11_mixed_443_S1, pX11_mixed_489_S1, pX11_mixed_507_S1, pX11_mixed_523_S1, pX11_mixed_540_S1, pX11_mixed_613_S1, pX11_mixed_630_S1, pX11_mixed_651_S1, pX11_mixed_859_S1, if_true, if_false]
  have e2 : fX11_works__zV c (nI L) vt (nI st) (nI md) sat (nI d) (nI s1) (nI s2) 6 (nI 13) (nI S) (nI E) un zX z z = z := by
    simp (decide := true) only [fX11_works__zV, fX11_mixed__zV, pX11_mixed_299_zV, pX11_mixed_319_zV, pX11_mixed_339_zV, pX11_mixed_359_zV, pX11_mixed_380_zV, pX11_mixed_401_zV, pX11_mixed_422_zV, pX11_mixed_443_zV, pX11_mixed_489_zV, pX11_mixed_507_zV, pX11_mixed_523_zV, pX11_mixed_540_zV, pX11_mixed_613_zV, pX11_mixed_630_zV, pX11_mixed_651_zV, pX11_mixed_859_zV, if_true, if_false]
  have e3 : fX11_works__m_vxsat c (nI L) vt (nI st) (nI md) sat (nI d) (nI s1) (nI s2) 6 (nI 13) (nI S) (nI E) un zX z z = sat := by
    simp (decide := true) only [fX11_works__m_vxsat, fX11_mixed__m_vxsat, pX11_mixed_299_m_vxsat, pX11_mixed_319_m_vxsat, pX11_mixed_339_m_vxsat, pX11_mixed_359_m_vxsat, pX11_mixed_380_m_vxsat, pX11_mixed_401_m_vxsat, pX11_mixed_422_m_vxsat, pX11_mixed_443_m_vxsat, if_true, if_false]
  have e4 : fX11_works__zX (nI L) (nI st) (nI d) (nI s1) (nI s2) 6 (nI 13) (nI S) un zX z = zX := by
    simp (decide := true) only [fX11_works__zX, fX11_mixed__zX, pX11_mixed_523_zX, if_true, if_false]
  unfold WK
  rw [e1, e2, e3, e4]
  exact ill_WO h (kd_none (by decide)) vt sat c _ rf re r8 rg rl
theorem w6_14 {S E L st d s1 s2 md : Nat} {im un tb : Int32} {x z xS zX : Nat → Int32} (h : HY S E L st d s1 s2 md 6 im un tb x z xS zX) {vt : Int32} (hvt : fX11_vlmax vt = nI (16 * E / S)) (sat : Int32) (c : Int64) (rf re r8 rg : Int32) (rl : Int64) : WK S E L st d s1 s2 md 6 (nI 14) im un tb x z xS zX vt sat c rf re r8 rg rl := by
  have e1 : fX11_works (nI st) (nI d) (nI s1) (nI s2) 6 (nI 14) (nI S) (nI E) un = (if fX11_slidesOne (nI d) (nI s2) (nI S) (nI E) un 1 = 0 then (0 : Int32) else 1) := by
    simp (decide := true) only [fX11_works, fX11_mixed, pX11_mixed_299_S1, pX11_mixed_319_S1, pX11_mixed_339_S1, pX11_mixed_359_S1, pX11_mixed_380_S1, pX11_mixed_401_S1, pX11_mixed_422_S1, pX11_mixed_443_S1, pX11_mixed_489_S1, pX11_mixed_507_S1, pX11_mixed_523_S1, pX11_mixed_540_S1, pX11_mixed_613_S1, pX11_mixed_630_S1, pX11_mixed_651_S1, pX11_mixed_859_S1, if_true, if_false]
  have e2 : fX11_works__zV c (nI L) vt (nI st) (nI md) sat (nI d) (nI s1) (nI s2) 6 (nI 14) (nI S) (nI E) un zX z z = fX11_slidesOne__zV c (nI L) vt (nI st) (nI d) (nI s1) (nI s2) (nI S) (nI E) un zX z z 1 := by
    simp (decide := true) only [fX11_works__zV, fX11_mixed__zV, pX11_mixed_299_zV, pX11_mixed_319_zV, pX11_mixed_339_zV, pX11_mixed_359_zV, pX11_mixed_380_zV, pX11_mixed_401_zV, pX11_mixed_422_zV, pX11_mixed_443_zV, pX11_mixed_489_zV, pX11_mixed_507_zV, pX11_mixed_523_zV, pX11_mixed_540_zV, pX11_mixed_613_zV, pX11_mixed_630_zV, pX11_mixed_651_zV, pX11_mixed_859_zV, if_true, if_false]
  have e3 : fX11_works__m_vxsat c (nI L) vt (nI st) (nI md) sat (nI d) (nI s1) (nI s2) 6 (nI 14) (nI S) (nI E) un zX z z = sat := by
    simp (decide := true) only [fX11_works__m_vxsat, fX11_mixed__m_vxsat, pX11_mixed_299_m_vxsat, pX11_mixed_319_m_vxsat, pX11_mixed_339_m_vxsat, pX11_mixed_359_m_vxsat, pX11_mixed_380_m_vxsat, pX11_mixed_401_m_vxsat, pX11_mixed_422_m_vxsat, pX11_mixed_443_m_vxsat, if_true, if_false]
  have e4 : fX11_works__zX (nI L) (nI st) (nI d) (nI s1) (nI s2) 6 (nI 14) (nI S) un zX z = zX := by
    simp (decide := true) only [fX11_works__zX, fX11_mixed__zX, pX11_mixed_523_zX, if_true, if_false]
  unfold WK
  rw [e1, e2, e3, e4]
  refine WO_b ?_
  exact slideUp1_WO h rfl (by rw [kd_plain (by decide) (by decide) (show _ = (21 : Int32) by decide), mb_free (by decide)]) vt sat c _ rf re r8 rg rl
theorem w6_15 {S E L st d s1 s2 md : Nat} {im un tb : Int32} {x z xS zX : Nat → Int32} (h : HY S E L st d s1 s2 md 6 im un tb x z xS zX) {vt : Int32} (hvt : fX11_vlmax vt = nI (16 * E / S)) (sat : Int32) (c : Int64) (rf re r8 rg : Int32) (rl : Int64) : WK S E L st d s1 s2 md 6 (nI 15) im un tb x z xS zX vt sat c rf re r8 rg rl := by
  have e1 : fX11_works (nI st) (nI d) (nI s1) (nI s2) 6 (nI 15) (nI S) (nI E) un = (if fX11_slidesOne (nI d) (nI s2) (nI S) (nI E) un 0 = 0 then (0 : Int32) else 1) := by
    simp (decide := true) only [fX11_works, fX11_mixed, pX11_mixed_299_S1, pX11_mixed_319_S1, pX11_mixed_339_S1, pX11_mixed_359_S1, pX11_mixed_380_S1, pX11_mixed_401_S1, pX11_mixed_422_S1, pX11_mixed_443_S1, pX11_mixed_489_S1, pX11_mixed_507_S1, pX11_mixed_523_S1, pX11_mixed_540_S1, pX11_mixed_613_S1, pX11_mixed_630_S1, pX11_mixed_651_S1, pX11_mixed_859_S1, if_true, if_false]
  have e2 : fX11_works__zV c (nI L) vt (nI st) (nI md) sat (nI d) (nI s1) (nI s2) 6 (nI 15) (nI S) (nI E) un zX z z = fX11_slidesOne__zV c (nI L) vt (nI st) (nI d) (nI s1) (nI s2) (nI S) (nI E) un zX z z 0 := by
    simp (decide := true) only [fX11_works__zV, fX11_mixed__zV, pX11_mixed_299_zV, pX11_mixed_319_zV, pX11_mixed_339_zV, pX11_mixed_359_zV, pX11_mixed_380_zV, pX11_mixed_401_zV, pX11_mixed_422_zV, pX11_mixed_443_zV, pX11_mixed_489_zV, pX11_mixed_507_zV, pX11_mixed_523_zV, pX11_mixed_540_zV, pX11_mixed_613_zV, pX11_mixed_630_zV, pX11_mixed_651_zV, pX11_mixed_859_zV, if_true, if_false]
  have e3 : fX11_works__m_vxsat c (nI L) vt (nI st) (nI md) sat (nI d) (nI s1) (nI s2) 6 (nI 15) (nI S) (nI E) un zX z z = sat := by
    simp (decide := true) only [fX11_works__m_vxsat, fX11_mixed__m_vxsat, pX11_mixed_299_m_vxsat, pX11_mixed_319_m_vxsat, pX11_mixed_339_m_vxsat, pX11_mixed_359_m_vxsat, pX11_mixed_380_m_vxsat, pX11_mixed_401_m_vxsat, pX11_mixed_422_m_vxsat, pX11_mixed_443_m_vxsat, if_true, if_false]
  have e4 : fX11_works__zX (nI L) (nI st) (nI d) (nI s1) (nI s2) 6 (nI 15) (nI S) un zX z = zX := by
    simp (decide := true) only [fX11_works__zX, fX11_mixed__zX, pX11_mixed_523_zX, if_true, if_false]
  unfold WK
  rw [e1, e2, e3, e4]
  refine WO_b ?_
  exact slideDown1_WO h rfl (by rw [kd_plain (by decide) (by decide) (show _ = (22 : Int32) by decide), mb_free (by decide)]) vt sat c _ rf re r8 rg rl
theorem w6_16 {S E L st d s1 s2 md : Nat} {im un tb : Int32} {x z xS zX : Nat → Int32} (h : HY S E L st d s1 s2 md 6 im un tb x z xS zX) {vt : Int32} (hvt : fX11_vlmax vt = nI (16 * E / S)) (sat : Int32) (c : Int64) (rf re r8 rg : Int32) (rl : Int64) : WK S E L st d s1 s2 md 6 (nI 16) im un tb x z xS zX vt sat c rf re r8 rg rl := by
  have e1 : fX11_works (nI st) (nI d) (nI s1) (nI s2) 6 (nI 16) (nI S) (nI E) un = fX11_fromX (nI s2) un := by
    simp (decide := true) only [fX11_works, fX11_mixed, pX11_mixed_299_S1, pX11_mixed_319_S1, pX11_mixed_339_S1, pX11_mixed_359_S1, pX11_mixed_380_S1, pX11_mixed_401_S1, pX11_mixed_422_S1, pX11_mixed_443_S1, pX11_mixed_489_S1, pX11_mixed_507_S1, pX11_mixed_523_S1, pX11_mixed_540_S1, pX11_mixed_613_S1, pX11_mixed_630_S1, pX11_mixed_651_S1, pX11_mixed_859_S1, if_true, if_false]
  have e2 : fX11_works__zV c (nI L) vt (nI st) (nI md) sat (nI d) (nI s1) (nI s2) 6 (nI 16) (nI S) (nI E) un zX z z = fX11_fromX__zV c (nI L) vt (nI st) (nI d) (nI s1) (nI s2) (nI S) un zX z := by
    simp (decide := true) only [fX11_works__zV, fX11_mixed__zV, pX11_mixed_299_zV, pX11_mixed_319_zV, pX11_mixed_339_zV, pX11_mixed_359_zV, pX11_mixed_380_zV, pX11_mixed_401_zV, pX11_mixed_422_zV, pX11_mixed_443_zV, pX11_mixed_489_zV, pX11_mixed_507_zV, pX11_mixed_523_zV, pX11_mixed_540_zV, pX11_mixed_613_zV, pX11_mixed_630_zV, pX11_mixed_651_zV, pX11_mixed_859_zV, if_true, if_false]
  have e3 : fX11_works__m_vxsat c (nI L) vt (nI st) (nI md) sat (nI d) (nI s1) (nI s2) 6 (nI 16) (nI S) (nI E) un zX z z = sat := by
    simp (decide := true) only [fX11_works__m_vxsat, fX11_mixed__m_vxsat, pX11_mixed_299_m_vxsat, pX11_mixed_319_m_vxsat, pX11_mixed_339_m_vxsat, pX11_mixed_359_m_vxsat, pX11_mixed_380_m_vxsat, pX11_mixed_401_m_vxsat, pX11_mixed_422_m_vxsat, pX11_mixed_443_m_vxsat, if_true, if_false]
  have e4 : fX11_works__zX (nI L) (nI st) (nI d) (nI s1) (nI s2) 6 (nI 16) (nI S) un zX z = zX := by
    simp (decide := true) only [fX11_works__zX, fX11_mixed__zX, pX11_mixed_523_zX, if_true, if_false]
  unfold WK
  rw [e1, e2, e3, e4]
  have hmu := h.2.2.2.2.2.2.2.2.2.2.2.2.1
  have h2 : s2 < 32 := h.2.2.2.2.2.2.1
  have hr : fX1_refined 6 (nI s1) (nI s2) (nI 16) (fX1_entryOf (fX3_operation 6 (nI 16)) &&& 31) = if nI s2 = 0 then 18 else 0 := by
    unfold fX1_refined; rw [if_neg (by decide), if_neg (by decide), if_pos (by decide)]; unfold pX1_refined_119_S1; rw [if_pos (by decide)]
  by_cases a0 : s2 = 0
  · have e0 : nI s2 = 0 := by rw [a0]; decide
    rw [if_pos e0] at hr
    have hkd := kd_ref (im := im) (by decide) hr
    by_cases u0 : un = 0
    · have hi : ¬ im = 0 := fun w => hmu.mp w u0
      rw [if_pos ((mb_u (by decide) _ _).mpr hi)] at hkd
      have f1 : fX11_fromX (nI s2) un = 0 := by unfold fX11_fromX; rw [if_pos u0]
      have f2 : fX11_fromX__zV c (nI L) vt (nI st) (nI d) (nI s1) (nI s2) (nI S) un zX z = z := by unfold fX11_fromX__zV; rw [if_pos u0]
      rw [f1, f2]
      exact ill_WO h hkd vt sat c _ rf re r8 rg rl
    · rw [if_neg (fun w => (mb_u (by decide) _ _).mp w (hmu.mpr u0))] at hkd
      exact write_WO h u0 a0 rfl hkd vt sat c _ rf re r8 rg rl
  · have e0 : ¬ nI s2 = 0 := nI_ne0 (by omega) (by omega)
    rw [if_neg e0] at hr
    have hkd := kd_ref (im := im) (by decide) hr
    rw [ite_self] at hkd
    have f1 : fX11_fromX (nI s2) un = 0 := by unfold fX11_fromX; rw [if_neg e0, ite_self]
    have f2 : fX11_fromX__zV c (nI L) vt (nI st) (nI d) (nI s1) (nI s2) (nI S) un zX z = z := by unfold fX11_fromX__zV; rw [if_neg e0, ite_self]
    rw [f1, f2]
    exact ill_WO h hkd vt sat c _ rf re r8 rg rl
theorem w6_17 {S E L st d s1 s2 md : Nat} {im un tb : Int32} {x z xS zX : Nat → Int32} (h : HY S E L st d s1 s2 md 6 im un tb x z xS zX) {vt : Int32} (hvt : fX11_vlmax vt = nI (16 * E / S)) (sat : Int32) (c : Int64) (rf re r8 rg : Int32) (rl : Int64) : WK S E L st d s1 s2 md 6 (nI 17) im un tb x z xS zX vt sat c rf re r8 rg rl := by
  have e1 : fX11_works (nI st) (nI d) (nI s1) (nI s2) 6 (nI 17) (nI S) (nI E) un = 0 := by
    simp (decide := true) only [fX11_works, fX11_mixed, pX11_mixed_299_S1, pX11_mixed_319_S1, pX11_mixed_339_S1, pX11_mixed_359_S1, pX11_mixed_380_S1, pX11_mixed_401_S1, pX11_mixed_422_S1, pX11_mixed_443_S1, pX11_mixed_489_S1, pX11_mixed_507_S1, pX11_mixed_523_S1, pX11_mixed_540_S1, pX11_mixed_613_S1, pX11_mixed_630_S1, pX11_mixed_651_S1, pX11_mixed_859_S1, if_true, if_false]
  have e2 : fX11_works__zV c (nI L) vt (nI st) (nI md) sat (nI d) (nI s1) (nI s2) 6 (nI 17) (nI S) (nI E) un zX z z = z := by
    simp (decide := true) only [fX11_works__zV, fX11_mixed__zV, pX11_mixed_299_zV, pX11_mixed_319_zV, pX11_mixed_339_zV, pX11_mixed_359_zV, pX11_mixed_380_zV, pX11_mixed_401_zV, pX11_mixed_422_zV, pX11_mixed_443_zV, pX11_mixed_489_zV, pX11_mixed_507_zV, pX11_mixed_523_zV, pX11_mixed_540_zV, pX11_mixed_613_zV, pX11_mixed_630_zV, pX11_mixed_651_zV, pX11_mixed_859_zV, if_true, if_false]
  have e3 : fX11_works__m_vxsat c (nI L) vt (nI st) (nI md) sat (nI d) (nI s1) (nI s2) 6 (nI 17) (nI S) (nI E) un zX z z = sat := by
    simp (decide := true) only [fX11_works__m_vxsat, fX11_mixed__m_vxsat, pX11_mixed_299_m_vxsat, pX11_mixed_319_m_vxsat, pX11_mixed_339_m_vxsat, pX11_mixed_359_m_vxsat, pX11_mixed_380_m_vxsat, pX11_mixed_401_m_vxsat, pX11_mixed_422_m_vxsat, pX11_mixed_443_m_vxsat, if_true, if_false]
  have e4 : fX11_works__zX (nI L) (nI st) (nI d) (nI s1) (nI s2) 6 (nI 17) (nI S) un zX z = zX := by
    simp (decide := true) only [fX11_works__zX, fX11_mixed__zX, pX11_mixed_523_zX, if_true, if_false]
  unfold WK
  rw [e1, e2, e3, e4]
  exact ill_WO h (kd_none (by decide)) vt sat c _ rf re r8 rg rl
theorem w6_18 {S E L st d s1 s2 md : Nat} {im un tb : Int32} {x z xS zX : Nat → Int32} (h : HY S E L st d s1 s2 md 6 im un tb x z xS zX) {vt : Int32} (hvt : fX11_vlmax vt = nI (16 * E / S)) (sat : Int32) (c : Int64) (rf re r8 rg : Int32) (rl : Int64) : WK S E L st d s1 s2 md 6 (nI 18) im un tb x z xS zX vt sat c rf re r8 rg rl := by
  have e1 : fX11_works (nI st) (nI d) (nI s1) (nI s2) 6 (nI 18) (nI S) (nI E) un = 0 := by
    simp (decide := true) only [fX11_works, fX11_mixed, pX11_mixed_299_S1, pX11_mixed_319_S1, pX11_mixed_339_S1, pX11_mixed_359_S1, pX11_mixed_380_S1, pX11_mixed_401_S1, pX11_mixed_422_S1, pX11_mixed_443_S1, pX11_mixed_489_S1, pX11_mixed_507_S1, pX11_mixed_523_S1, pX11_mixed_540_S1, pX11_mixed_613_S1, pX11_mixed_630_S1, pX11_mixed_651_S1, pX11_mixed_859_S1, if_true, if_false]
  have e2 : fX11_works__zV c (nI L) vt (nI st) (nI md) sat (nI d) (nI s1) (nI s2) 6 (nI 18) (nI S) (nI E) un zX z z = z := by
    simp (decide := true) only [fX11_works__zV, fX11_mixed__zV, pX11_mixed_299_zV, pX11_mixed_319_zV, pX11_mixed_339_zV, pX11_mixed_359_zV, pX11_mixed_380_zV, pX11_mixed_401_zV, pX11_mixed_422_zV, pX11_mixed_443_zV, pX11_mixed_489_zV, pX11_mixed_507_zV, pX11_mixed_523_zV, pX11_mixed_540_zV, pX11_mixed_613_zV, pX11_mixed_630_zV, pX11_mixed_651_zV, pX11_mixed_859_zV, if_true, if_false]
  have e3 : fX11_works__m_vxsat c (nI L) vt (nI st) (nI md) sat (nI d) (nI s1) (nI s2) 6 (nI 18) (nI S) (nI E) un zX z z = sat := by
    simp (decide := true) only [fX11_works__m_vxsat, fX11_mixed__m_vxsat, pX11_mixed_299_m_vxsat, pX11_mixed_319_m_vxsat, pX11_mixed_339_m_vxsat, pX11_mixed_359_m_vxsat, pX11_mixed_380_m_vxsat, pX11_mixed_401_m_vxsat, pX11_mixed_422_m_vxsat, pX11_mixed_443_m_vxsat, if_true, if_false]
  have e4 : fX11_works__zX (nI L) (nI st) (nI d) (nI s1) (nI s2) 6 (nI 18) (nI S) un zX z = zX := by
    simp (decide := true) only [fX11_works__zX, fX11_mixed__zX, pX11_mixed_523_zX, if_true, if_false]
  unfold WK
  rw [e1, e2, e3, e4]
  exact ill_WO h (kd_none (by decide)) vt sat c _ rf re r8 rg rl
theorem w6_19 {S E L st d s1 s2 md : Nat} {im un tb : Int32} {x z xS zX : Nat → Int32} (h : HY S E L st d s1 s2 md 6 im un tb x z xS zX) {vt : Int32} (hvt : fX11_vlmax vt = nI (16 * E / S)) (sat : Int32) (c : Int64) (rf re r8 rg : Int32) (rl : Int64) : WK S E L st d s1 s2 md 6 (nI 19) im un tb x z xS zX vt sat c rf re r8 rg rl := by
  have e1 : fX11_works (nI st) (nI d) (nI s1) (nI s2) 6 (nI 19) (nI S) (nI E) un = 0 := by
    simp (decide := true) only [fX11_works, fX11_mixed, pX11_mixed_299_S1, pX11_mixed_319_S1, pX11_mixed_339_S1, pX11_mixed_359_S1, pX11_mixed_380_S1, pX11_mixed_401_S1, pX11_mixed_422_S1, pX11_mixed_443_S1, pX11_mixed_489_S1, pX11_mixed_507_S1, pX11_mixed_523_S1, pX11_mixed_540_S1, pX11_mixed_613_S1, pX11_mixed_630_S1, pX11_mixed_651_S1, pX11_mixed_859_S1, if_true, if_false]
  have e2 : fX11_works__zV c (nI L) vt (nI st) (nI md) sat (nI d) (nI s1) (nI s2) 6 (nI 19) (nI S) (nI E) un zX z z = z := by
    simp (decide := true) only [fX11_works__zV, fX11_mixed__zV, pX11_mixed_299_zV, pX11_mixed_319_zV, pX11_mixed_339_zV, pX11_mixed_359_zV, pX11_mixed_380_zV, pX11_mixed_401_zV, pX11_mixed_422_zV, pX11_mixed_443_zV, pX11_mixed_489_zV, pX11_mixed_507_zV, pX11_mixed_523_zV, pX11_mixed_540_zV, pX11_mixed_613_zV, pX11_mixed_630_zV, pX11_mixed_651_zV, pX11_mixed_859_zV, if_true, if_false]
  have e3 : fX11_works__m_vxsat c (nI L) vt (nI st) (nI md) sat (nI d) (nI s1) (nI s2) 6 (nI 19) (nI S) (nI E) un zX z z = sat := by
    simp (decide := true) only [fX11_works__m_vxsat, fX11_mixed__m_vxsat, pX11_mixed_299_m_vxsat, pX11_mixed_319_m_vxsat, pX11_mixed_339_m_vxsat, pX11_mixed_359_m_vxsat, pX11_mixed_380_m_vxsat, pX11_mixed_401_m_vxsat, pX11_mixed_422_m_vxsat, pX11_mixed_443_m_vxsat, if_true, if_false]
  have e4 : fX11_works__zX (nI L) (nI st) (nI d) (nI s1) (nI s2) 6 (nI 19) (nI S) un zX z = zX := by
    simp (decide := true) only [fX11_works__zX, fX11_mixed__zX, pX11_mixed_523_zX, if_true, if_false]
  unfold WK
  rw [e1, e2, e3, e4]
  exact ill_WO h (kd_none (by decide)) vt sat c _ rf re r8 rg rl
theorem w6_20 {S E L st d s1 s2 md : Nat} {im un tb : Int32} {x z xS zX : Nat → Int32} (h : HY S E L st d s1 s2 md 6 im un tb x z xS zX) {vt : Int32} (hvt : fX11_vlmax vt = nI (16 * E / S)) (sat : Int32) (c : Int64) (rf re r8 rg : Int32) (rl : Int64) : WK S E L st d s1 s2 md 6 (nI 20) im un tb x z xS zX vt sat c rf re r8 rg rl := by
  have e1 : fX11_works (nI st) (nI d) (nI s1) (nI s2) 6 (nI 20) (nI S) (nI E) un = 0 := by
    simp (decide := true) only [fX11_works, fX11_mixed, pX11_mixed_299_S1, pX11_mixed_319_S1, pX11_mixed_339_S1, pX11_mixed_359_S1, pX11_mixed_380_S1, pX11_mixed_401_S1, pX11_mixed_422_S1, pX11_mixed_443_S1, pX11_mixed_489_S1, pX11_mixed_507_S1, pX11_mixed_523_S1, pX11_mixed_540_S1, pX11_mixed_613_S1, pX11_mixed_630_S1, pX11_mixed_651_S1, pX11_mixed_859_S1, if_true, if_false]
  have e2 : fX11_works__zV c (nI L) vt (nI st) (nI md) sat (nI d) (nI s1) (nI s2) 6 (nI 20) (nI S) (nI E) un zX z z = z := by
    simp (decide := true) only [fX11_works__zV, fX11_mixed__zV, pX11_mixed_299_zV, pX11_mixed_319_zV, pX11_mixed_339_zV, pX11_mixed_359_zV, pX11_mixed_380_zV, pX11_mixed_401_zV, pX11_mixed_422_zV, pX11_mixed_443_zV, pX11_mixed_489_zV, pX11_mixed_507_zV, pX11_mixed_523_zV, pX11_mixed_540_zV, pX11_mixed_613_zV, pX11_mixed_630_zV, pX11_mixed_651_zV, pX11_mixed_859_zV, if_true, if_false]
  have e3 : fX11_works__m_vxsat c (nI L) vt (nI st) (nI md) sat (nI d) (nI s1) (nI s2) 6 (nI 20) (nI S) (nI E) un zX z z = sat := by
    simp (decide := true) only [fX11_works__m_vxsat, fX11_mixed__m_vxsat, pX11_mixed_299_m_vxsat, pX11_mixed_319_m_vxsat, pX11_mixed_339_m_vxsat, pX11_mixed_359_m_vxsat, pX11_mixed_380_m_vxsat, pX11_mixed_401_m_vxsat, pX11_mixed_422_m_vxsat, pX11_mixed_443_m_vxsat, if_true, if_false]
  have e4 : fX11_works__zX (nI L) (nI st) (nI d) (nI s1) (nI s2) 6 (nI 20) (nI S) un zX z = zX := by
    simp (decide := true) only [fX11_works__zX, fX11_mixed__zX, pX11_mixed_523_zX, if_true, if_false]
  unfold WK
  rw [e1, e2, e3, e4]
  exact ill_WO h (kd_none (by decide)) vt sat c _ rf re r8 rg rl
theorem w6_21 {S E L st d s1 s2 md : Nat} {im un tb : Int32} {x z xS zX : Nat → Int32} (h : HY S E L st d s1 s2 md 6 im un tb x z xS zX) {vt : Int32} (hvt : fX11_vlmax vt = nI (16 * E / S)) (sat : Int32) (c : Int64) (rf re r8 rg : Int32) (rl : Int64) : WK S E L st d s1 s2 md 6 (nI 21) im un tb x z xS zX vt sat c rf re r8 rg rl := by
  have e1 : fX11_works (nI st) (nI d) (nI s1) (nI s2) 6 (nI 21) (nI S) (nI E) un = 0 := by
    simp (decide := true) only [fX11_works, fX11_mixed, pX11_mixed_299_S1, pX11_mixed_319_S1, pX11_mixed_339_S1, pX11_mixed_359_S1, pX11_mixed_380_S1, pX11_mixed_401_S1, pX11_mixed_422_S1, pX11_mixed_443_S1, pX11_mixed_489_S1, pX11_mixed_507_S1, pX11_mixed_523_S1, pX11_mixed_540_S1, pX11_mixed_613_S1, pX11_mixed_630_S1, pX11_mixed_651_S1, pX11_mixed_859_S1, if_true, if_false]
  have e2 : fX11_works__zV c (nI L) vt (nI st) (nI md) sat (nI d) (nI s1) (nI s2) 6 (nI 21) (nI S) (nI E) un zX z z = z := by
    simp (decide := true) only [fX11_works__zV, fX11_mixed__zV, pX11_mixed_299_zV, pX11_mixed_319_zV, pX11_mixed_339_zV, pX11_mixed_359_zV, pX11_mixed_380_zV, pX11_mixed_401_zV, pX11_mixed_422_zV, pX11_mixed_443_zV, pX11_mixed_489_zV, pX11_mixed_507_zV, pX11_mixed_523_zV, pX11_mixed_540_zV, pX11_mixed_613_zV, pX11_mixed_630_zV, pX11_mixed_651_zV, pX11_mixed_859_zV, if_true, if_false]
  have e3 : fX11_works__m_vxsat c (nI L) vt (nI st) (nI md) sat (nI d) (nI s1) (nI s2) 6 (nI 21) (nI S) (nI E) un zX z z = sat := by
    simp (decide := true) only [fX11_works__m_vxsat, fX11_mixed__m_vxsat, pX11_mixed_299_m_vxsat, pX11_mixed_319_m_vxsat, pX11_mixed_339_m_vxsat, pX11_mixed_359_m_vxsat, pX11_mixed_380_m_vxsat, pX11_mixed_401_m_vxsat, pX11_mixed_422_m_vxsat, pX11_mixed_443_m_vxsat, if_true, if_false]
  have e4 : fX11_works__zX (nI L) (nI st) (nI d) (nI s1) (nI s2) 6 (nI 21) (nI S) un zX z = zX := by
    simp (decide := true) only [fX11_works__zX, fX11_mixed__zX, pX11_mixed_523_zX, if_true, if_false]
  unfold WK
  rw [e1, e2, e3, e4]
  exact ill_WO h (kd_none (by decide)) vt sat c _ rf re r8 rg rl
theorem w6_22 {S E L st d s1 s2 md : Nat} {im un tb : Int32} {x z xS zX : Nat → Int32} (h : HY S E L st d s1 s2 md 6 im un tb x z xS zX) {vt : Int32} (hvt : fX11_vlmax vt = nI (16 * E / S)) (sat : Int32) (c : Int64) (rf re r8 rg : Int32) (rl : Int64) : WK S E L st d s1 s2 md 6 (nI 22) im un tb x z xS zX vt sat c rf re r8 rg rl := by
  have e1 : fX11_works (nI st) (nI d) (nI s1) (nI s2) 6 (nI 22) (nI S) (nI E) un = 0 := by
    simp (decide := true) only [fX11_works, fX11_mixed, pX11_mixed_299_S1, pX11_mixed_319_S1, pX11_mixed_339_S1, pX11_mixed_359_S1, pX11_mixed_380_S1, pX11_mixed_401_S1, pX11_mixed_422_S1, pX11_mixed_443_S1, pX11_mixed_489_S1, pX11_mixed_507_S1, pX11_mixed_523_S1, pX11_mixed_540_S1, pX11_mixed_613_S1, pX11_mixed_630_S1, pX11_mixed_651_S1, pX11_mixed_859_S1, if_true, if_false]
  have e2 : fX11_works__zV c (nI L) vt (nI st) (nI md) sat (nI d) (nI s1) (nI s2) 6 (nI 22) (nI S) (nI E) un zX z z = z := by
    simp (decide := true) only [fX11_works__zV, fX11_mixed__zV, pX11_mixed_299_zV, pX11_mixed_319_zV, pX11_mixed_339_zV, pX11_mixed_359_zV, pX11_mixed_380_zV, pX11_mixed_401_zV, pX11_mixed_422_zV, pX11_mixed_443_zV, pX11_mixed_489_zV, pX11_mixed_507_zV, pX11_mixed_523_zV, pX11_mixed_540_zV, pX11_mixed_613_zV, pX11_mixed_630_zV, pX11_mixed_651_zV, pX11_mixed_859_zV, if_true, if_false]
  have e3 : fX11_works__m_vxsat c (nI L) vt (nI st) (nI md) sat (nI d) (nI s1) (nI s2) 6 (nI 22) (nI S) (nI E) un zX z z = sat := by
    simp (decide := true) only [fX11_works__m_vxsat, fX11_mixed__m_vxsat, pX11_mixed_299_m_vxsat, pX11_mixed_319_m_vxsat, pX11_mixed_339_m_vxsat, pX11_mixed_359_m_vxsat, pX11_mixed_380_m_vxsat, pX11_mixed_401_m_vxsat, pX11_mixed_422_m_vxsat, pX11_mixed_443_m_vxsat, if_true, if_false]
  have e4 : fX11_works__zX (nI L) (nI st) (nI d) (nI s1) (nI s2) 6 (nI 22) (nI S) un zX z = zX := by
    simp (decide := true) only [fX11_works__zX, fX11_mixed__zX, pX11_mixed_523_zX, if_true, if_false]
  unfold WK
  rw [e1, e2, e3, e4]
  exact ill_WO h (kd_none (by decide)) vt sat c _ rf re r8 rg rl
theorem w6_23 {S E L st d s1 s2 md : Nat} {im un tb : Int32} {x z xS zX : Nat → Int32} (h : HY S E L st d s1 s2 md 6 im un tb x z xS zX) {vt : Int32} (hvt : fX11_vlmax vt = nI (16 * E / S)) (sat : Int32) (c : Int64) (rf re r8 rg : Int32) (rl : Int64) : WK S E L st d s1 s2 md 6 (nI 23) im un tb x z xS zX vt sat c rf re r8 rg rl := by
  have e1 : fX11_works (nI st) (nI d) (nI s1) (nI s2) 6 (nI 23) (nI S) (nI E) un = 0 := by
    simp (decide := true) only [fX11_works, fX11_mixed, pX11_mixed_299_S1, pX11_mixed_319_S1, pX11_mixed_339_S1, pX11_mixed_359_S1, pX11_mixed_380_S1, pX11_mixed_401_S1, pX11_mixed_422_S1, pX11_mixed_443_S1, pX11_mixed_489_S1, pX11_mixed_507_S1, pX11_mixed_523_S1, pX11_mixed_540_S1, pX11_mixed_613_S1, pX11_mixed_630_S1, pX11_mixed_651_S1, pX11_mixed_859_S1, if_true, if_false]
  have e2 : fX11_works__zV c (nI L) vt (nI st) (nI md) sat (nI d) (nI s1) (nI s2) 6 (nI 23) (nI S) (nI E) un zX z z = z := by
    simp (decide := true) only [fX11_works__zV, fX11_mixed__zV, pX11_mixed_299_zV, pX11_mixed_319_zV, pX11_mixed_339_zV, pX11_mixed_359_zV, pX11_mixed_380_zV, pX11_mixed_401_zV, pX11_mixed_422_zV, pX11_mixed_443_zV, pX11_mixed_489_zV, pX11_mixed_507_zV, pX11_mixed_523_zV, pX11_mixed_540_zV, pX11_mixed_613_zV, pX11_mixed_630_zV, pX11_mixed_651_zV, pX11_mixed_859_zV, if_true, if_false]
  have e3 : fX11_works__m_vxsat c (nI L) vt (nI st) (nI md) sat (nI d) (nI s1) (nI s2) 6 (nI 23) (nI S) (nI E) un zX z z = sat := by
    simp (decide := true) only [fX11_works__m_vxsat, fX11_mixed__m_vxsat, pX11_mixed_299_m_vxsat, pX11_mixed_319_m_vxsat, pX11_mixed_339_m_vxsat, pX11_mixed_359_m_vxsat, pX11_mixed_380_m_vxsat, pX11_mixed_401_m_vxsat, pX11_mixed_422_m_vxsat, pX11_mixed_443_m_vxsat, if_true, if_false]
  have e4 : fX11_works__zX (nI L) (nI st) (nI d) (nI s1) (nI s2) 6 (nI 23) (nI S) un zX z = zX := by
    simp (decide := true) only [fX11_works__zX, fX11_mixed__zX, pX11_mixed_523_zX, if_true, if_false]
  unfold WK
  rw [e1, e2, e3, e4]
  exact ill_WO h (kd_none (by decide)) vt sat c _ rf re r8 rg rl
theorem w6_24 {S E L st d s1 s2 md : Nat} {im un tb : Int32} {x z xS zX : Nat → Int32} (h : HY S E L st d s1 s2 md 6 im un tb x z xS zX) {vt : Int32} (hvt : fX11_vlmax vt = nI (16 * E / S)) (sat : Int32) (c : Int64) (rf re r8 rg : Int32) (rl : Int64) : WK S E L st d s1 s2 md 6 (nI 24) im un tb x z xS zX vt sat c rf re r8 rg rl := by
  have e1 : fX11_works (nI st) (nI d) (nI s1) (nI s2) 6 (nI 24) (nI S) (nI E) un = 0 := by
    simp (decide := true) only [fX11_works, fX11_mixed, pX11_mixed_299_S1, pX11_mixed_319_S1, pX11_mixed_339_S1, pX11_mixed_359_S1, pX11_mixed_380_S1, pX11_mixed_401_S1, pX11_mixed_422_S1, pX11_mixed_443_S1, pX11_mixed_489_S1, pX11_mixed_507_S1, pX11_mixed_523_S1, pX11_mixed_540_S1, pX11_mixed_613_S1, pX11_mixed_630_S1, pX11_mixed_651_S1, pX11_mixed_859_S1, if_true, if_false]
  have e2 : fX11_works__zV c (nI L) vt (nI st) (nI md) sat (nI d) (nI s1) (nI s2) 6 (nI 24) (nI S) (nI E) un zX z z = z := by
    simp (decide := true) only [fX11_works__zV, fX11_mixed__zV, pX11_mixed_299_zV, pX11_mixed_319_zV, pX11_mixed_339_zV, pX11_mixed_359_zV, pX11_mixed_380_zV, pX11_mixed_401_zV, pX11_mixed_422_zV, pX11_mixed_443_zV, pX11_mixed_489_zV, pX11_mixed_507_zV, pX11_mixed_523_zV, pX11_mixed_540_zV, pX11_mixed_613_zV, pX11_mixed_630_zV, pX11_mixed_651_zV, pX11_mixed_859_zV, if_true, if_false]
  have e3 : fX11_works__m_vxsat c (nI L) vt (nI st) (nI md) sat (nI d) (nI s1) (nI s2) 6 (nI 24) (nI S) (nI E) un zX z z = sat := by
    simp (decide := true) only [fX11_works__m_vxsat, fX11_mixed__m_vxsat, pX11_mixed_299_m_vxsat, pX11_mixed_319_m_vxsat, pX11_mixed_339_m_vxsat, pX11_mixed_359_m_vxsat, pX11_mixed_380_m_vxsat, pX11_mixed_401_m_vxsat, pX11_mixed_422_m_vxsat, pX11_mixed_443_m_vxsat, if_true, if_false]
  have e4 : fX11_works__zX (nI L) (nI st) (nI d) (nI s1) (nI s2) 6 (nI 24) (nI S) un zX z = zX := by
    simp (decide := true) only [fX11_works__zX, fX11_mixed__zX, pX11_mixed_523_zX, if_true, if_false]
  unfold WK
  rw [e1, e2, e3, e4]
  exact ill_WO h (kd_none (by decide)) vt sat c _ rf re r8 rg rl
theorem w6_25 {S E L st d s1 s2 md : Nat} {im un tb : Int32} {x z xS zX : Nat → Int32} (h : HY S E L st d s1 s2 md 6 im un tb x z xS zX) {vt : Int32} (hvt : fX11_vlmax vt = nI (16 * E / S)) (sat : Int32) (c : Int64) (rf re r8 rg : Int32) (rl : Int64) : WK S E L st d s1 s2 md 6 (nI 25) im un tb x z xS zX vt sat c rf re r8 rg rl := by
  have e1 : fX11_works (nI st) (nI d) (nI s1) (nI s2) 6 (nI 25) (nI S) (nI E) un = 0 := by
    simp (decide := true) only [fX11_works, fX11_mixed, pX11_mixed_299_S1, pX11_mixed_319_S1, pX11_mixed_339_S1, pX11_mixed_359_S1, pX11_mixed_380_S1, pX11_mixed_401_S1, pX11_mixed_422_S1, pX11_mixed_443_S1, pX11_mixed_489_S1, pX11_mixed_507_S1, pX11_mixed_523_S1, pX11_mixed_540_S1, pX11_mixed_613_S1, pX11_mixed_630_S1, pX11_mixed_651_S1, pX11_mixed_859_S1, if_true, if_false]
  have e2 : fX11_works__zV c (nI L) vt (nI st) (nI md) sat (nI d) (nI s1) (nI s2) 6 (nI 25) (nI S) (nI E) un zX z z = z := by
    simp (decide := true) only [fX11_works__zV, fX11_mixed__zV, pX11_mixed_299_zV, pX11_mixed_319_zV, pX11_mixed_339_zV, pX11_mixed_359_zV, pX11_mixed_380_zV, pX11_mixed_401_zV, pX11_mixed_422_zV, pX11_mixed_443_zV, pX11_mixed_489_zV, pX11_mixed_507_zV, pX11_mixed_523_zV, pX11_mixed_540_zV, pX11_mixed_613_zV, pX11_mixed_630_zV, pX11_mixed_651_zV, pX11_mixed_859_zV, if_true, if_false]
  have e3 : fX11_works__m_vxsat c (nI L) vt (nI st) (nI md) sat (nI d) (nI s1) (nI s2) 6 (nI 25) (nI S) (nI E) un zX z z = sat := by
    simp (decide := true) only [fX11_works__m_vxsat, fX11_mixed__m_vxsat, pX11_mixed_299_m_vxsat, pX11_mixed_319_m_vxsat, pX11_mixed_339_m_vxsat, pX11_mixed_359_m_vxsat, pX11_mixed_380_m_vxsat, pX11_mixed_401_m_vxsat, pX11_mixed_422_m_vxsat, pX11_mixed_443_m_vxsat, if_true, if_false]
  have e4 : fX11_works__zX (nI L) (nI st) (nI d) (nI s1) (nI s2) 6 (nI 25) (nI S) un zX z = zX := by
    simp (decide := true) only [fX11_works__zX, fX11_mixed__zX, pX11_mixed_523_zX, if_true, if_false]
  unfold WK
  rw [e1, e2, e3, e4]
  exact ill_WO h (kd_none (by decide)) vt sat c _ rf re r8 rg rl
theorem w6_26 {S E L st d s1 s2 md : Nat} {im un tb : Int32} {x z xS zX : Nat → Int32} (h : HY S E L st d s1 s2 md 6 im un tb x z xS zX) {vt : Int32} (hvt : fX11_vlmax vt = nI (16 * E / S)) (sat : Int32) (c : Int64) (rf re r8 rg : Int32) (rl : Int64) : WK S E L st d s1 s2 md 6 (nI 26) im un tb x z xS zX vt sat c rf re r8 rg rl := by
  have e1 : fX11_works (nI st) (nI d) (nI s1) (nI s2) 6 (nI 26) (nI S) (nI E) un = 0 := by
    simp (decide := true) only [fX11_works, fX11_mixed, pX11_mixed_299_S1, pX11_mixed_319_S1, pX11_mixed_339_S1, pX11_mixed_359_S1, pX11_mixed_380_S1, pX11_mixed_401_S1, pX11_mixed_422_S1, pX11_mixed_443_S1, pX11_mixed_489_S1, pX11_mixed_507_S1, pX11_mixed_523_S1, pX11_mixed_540_S1, pX11_mixed_613_S1, pX11_mixed_630_S1, pX11_mixed_651_S1, pX11_mixed_859_S1, if_true, if_false]
  have e2 : fX11_works__zV c (nI L) vt (nI st) (nI md) sat (nI d) (nI s1) (nI s2) 6 (nI 26) (nI S) (nI E) un zX z z = z := by
    simp (decide := true) only [fX11_works__zV, fX11_mixed__zV, pX11_mixed_299_zV, pX11_mixed_319_zV, pX11_mixed_339_zV, pX11_mixed_359_zV, pX11_mixed_380_zV, pX11_mixed_401_zV, pX11_mixed_422_zV, pX11_mixed_443_zV, pX11_mixed_489_zV, pX11_mixed_507_zV, pX11_mixed_523_zV, pX11_mixed_540_zV, pX11_mixed_613_zV, pX11_mixed_630_zV, pX11_mixed_651_zV, pX11_mixed_859_zV, if_true, if_false]
  have e3 : fX11_works__m_vxsat c (nI L) vt (nI st) (nI md) sat (nI d) (nI s1) (nI s2) 6 (nI 26) (nI S) (nI E) un zX z z = sat := by
    simp (decide := true) only [fX11_works__m_vxsat, fX11_mixed__m_vxsat, pX11_mixed_299_m_vxsat, pX11_mixed_319_m_vxsat, pX11_mixed_339_m_vxsat, pX11_mixed_359_m_vxsat, pX11_mixed_380_m_vxsat, pX11_mixed_401_m_vxsat, pX11_mixed_422_m_vxsat, pX11_mixed_443_m_vxsat, if_true, if_false]
  have e4 : fX11_works__zX (nI L) (nI st) (nI d) (nI s1) (nI s2) 6 (nI 26) (nI S) un zX z = zX := by
    simp (decide := true) only [fX11_works__zX, fX11_mixed__zX, pX11_mixed_523_zX, if_true, if_false]
  unfold WK
  rw [e1, e2, e3, e4]
  exact ill_WO h (kd_none (by decide)) vt sat c _ rf re r8 rg rl
theorem w6_27 {S E L st d s1 s2 md : Nat} {im un tb : Int32} {x z xS zX : Nat → Int32} (h : HY S E L st d s1 s2 md 6 im un tb x z xS zX) {vt : Int32} (hvt : fX11_vlmax vt = nI (16 * E / S)) (sat : Int32) (c : Int64) (rf re r8 rg : Int32) (rl : Int64) : WK S E L st d s1 s2 md 6 (nI 27) im un tb x z xS zX vt sat c rf re r8 rg rl := by
  have e1 : fX11_works (nI st) (nI d) (nI s1) (nI s2) 6 (nI 27) (nI S) (nI E) un = 0 := by
    simp (decide := true) only [fX11_works, fX11_mixed, pX11_mixed_299_S1, pX11_mixed_319_S1, pX11_mixed_339_S1, pX11_mixed_359_S1, pX11_mixed_380_S1, pX11_mixed_401_S1, pX11_mixed_422_S1, pX11_mixed_443_S1, pX11_mixed_489_S1, pX11_mixed_507_S1, pX11_mixed_523_S1, pX11_mixed_540_S1, pX11_mixed_613_S1, pX11_mixed_630_S1, pX11_mixed_651_S1, pX11_mixed_859_S1, if_true, if_false]
  have e2 : fX11_works__zV c (nI L) vt (nI st) (nI md) sat (nI d) (nI s1) (nI s2) 6 (nI 27) (nI S) (nI E) un zX z z = z := by
    simp (decide := true) only [fX11_works__zV, fX11_mixed__zV, pX11_mixed_299_zV, pX11_mixed_319_zV, pX11_mixed_339_zV, pX11_mixed_359_zV, pX11_mixed_380_zV, pX11_mixed_401_zV, pX11_mixed_422_zV, pX11_mixed_443_zV, pX11_mixed_489_zV, pX11_mixed_507_zV, pX11_mixed_523_zV, pX11_mixed_540_zV, pX11_mixed_613_zV, pX11_mixed_630_zV, pX11_mixed_651_zV, pX11_mixed_859_zV, if_true, if_false]
  have e3 : fX11_works__m_vxsat c (nI L) vt (nI st) (nI md) sat (nI d) (nI s1) (nI s2) 6 (nI 27) (nI S) (nI E) un zX z z = sat := by
    simp (decide := true) only [fX11_works__m_vxsat, fX11_mixed__m_vxsat, pX11_mixed_299_m_vxsat, pX11_mixed_319_m_vxsat, pX11_mixed_339_m_vxsat, pX11_mixed_359_m_vxsat, pX11_mixed_380_m_vxsat, pX11_mixed_401_m_vxsat, pX11_mixed_422_m_vxsat, pX11_mixed_443_m_vxsat, if_true, if_false]
  have e4 : fX11_works__zX (nI L) (nI st) (nI d) (nI s1) (nI s2) 6 (nI 27) (nI S) un zX z = zX := by
    simp (decide := true) only [fX11_works__zX, fX11_mixed__zX, pX11_mixed_523_zX, if_true, if_false]
  unfold WK
  rw [e1, e2, e3, e4]
  exact ill_WO h (kd_none (by decide)) vt sat c _ rf re r8 rg rl
theorem w6_28 {S E L st d s1 s2 md : Nat} {im un tb : Int32} {x z xS zX : Nat → Int32} (h : HY S E L st d s1 s2 md 6 im un tb x z xS zX) {vt : Int32} (hvt : fX11_vlmax vt = nI (16 * E / S)) (sat : Int32) (c : Int64) (rf re r8 rg : Int32) (rl : Int64) : WK S E L st d s1 s2 md 6 (nI 28) im un tb x z xS zX vt sat c rf re r8 rg rl := by
  have e1 : fX11_works (nI st) (nI d) (nI s1) (nI s2) 6 (nI 28) (nI S) (nI E) un = 0 := by
    simp (decide := true) only [fX11_works, fX11_mixed, pX11_mixed_299_S1, pX11_mixed_319_S1, pX11_mixed_339_S1, pX11_mixed_359_S1, pX11_mixed_380_S1, pX11_mixed_401_S1, pX11_mixed_422_S1, pX11_mixed_443_S1, pX11_mixed_489_S1, pX11_mixed_507_S1, pX11_mixed_523_S1, pX11_mixed_540_S1, pX11_mixed_613_S1, pX11_mixed_630_S1, pX11_mixed_651_S1, pX11_mixed_859_S1, if_true, if_false]
  have e2 : fX11_works__zV c (nI L) vt (nI st) (nI md) sat (nI d) (nI s1) (nI s2) 6 (nI 28) (nI S) (nI E) un zX z z = z := by
    simp (decide := true) only [fX11_works__zV, fX11_mixed__zV, pX11_mixed_299_zV, pX11_mixed_319_zV, pX11_mixed_339_zV, pX11_mixed_359_zV, pX11_mixed_380_zV, pX11_mixed_401_zV, pX11_mixed_422_zV, pX11_mixed_443_zV, pX11_mixed_489_zV, pX11_mixed_507_zV, pX11_mixed_523_zV, pX11_mixed_540_zV, pX11_mixed_613_zV, pX11_mixed_630_zV, pX11_mixed_651_zV, pX11_mixed_859_zV, if_true, if_false]
  have e3 : fX11_works__m_vxsat c (nI L) vt (nI st) (nI md) sat (nI d) (nI s1) (nI s2) 6 (nI 28) (nI S) (nI E) un zX z z = sat := by
    simp (decide := true) only [fX11_works__m_vxsat, fX11_mixed__m_vxsat, pX11_mixed_299_m_vxsat, pX11_mixed_319_m_vxsat, pX11_mixed_339_m_vxsat, pX11_mixed_359_m_vxsat, pX11_mixed_380_m_vxsat, pX11_mixed_401_m_vxsat, pX11_mixed_422_m_vxsat, pX11_mixed_443_m_vxsat, if_true, if_false]
  have e4 : fX11_works__zX (nI L) (nI st) (nI d) (nI s1) (nI s2) 6 (nI 28) (nI S) un zX z = zX := by
    simp (decide := true) only [fX11_works__zX, fX11_mixed__zX, pX11_mixed_523_zX, if_true, if_false]
  unfold WK
  rw [e1, e2, e3, e4]
  exact ill_WO h (kd_none (by decide)) vt sat c _ rf re r8 rg rl
theorem w6_29 {S E L st d s1 s2 md : Nat} {im un tb : Int32} {x z xS zX : Nat → Int32} (h : HY S E L st d s1 s2 md 6 im un tb x z xS zX) {vt : Int32} (hvt : fX11_vlmax vt = nI (16 * E / S)) (sat : Int32) (c : Int64) (rf re r8 rg : Int32) (rl : Int64) : WK S E L st d s1 s2 md 6 (nI 29) im un tb x z xS zX vt sat c rf re r8 rg rl := by
  have e1 : fX11_works (nI st) (nI d) (nI s1) (nI s2) 6 (nI 29) (nI S) (nI E) un = 0 := by
    simp (decide := true) only [fX11_works, fX11_mixed, pX11_mixed_299_S1, pX11_mixed_319_S1, pX11_mixed_339_S1, pX11_mixed_359_S1, pX11_mixed_380_S1, pX11_mixed_401_S1, pX11_mixed_422_S1, pX11_mixed_443_S1, pX11_mixed_489_S1, pX11_mixed_507_S1, pX11_mixed_523_S1, pX11_mixed_540_S1, pX11_mixed_613_S1, pX11_mixed_630_S1, pX11_mixed_651_S1, pX11_mixed_859_S1, if_true, if_false]
  have e2 : fX11_works__zV c (nI L) vt (nI st) (nI md) sat (nI d) (nI s1) (nI s2) 6 (nI 29) (nI S) (nI E) un zX z z = z := by
    simp (decide := true) only [fX11_works__zV, fX11_mixed__zV, pX11_mixed_299_zV, pX11_mixed_319_zV, pX11_mixed_339_zV, pX11_mixed_359_zV, pX11_mixed_380_zV, pX11_mixed_401_zV, pX11_mixed_422_zV, pX11_mixed_443_zV, pX11_mixed_489_zV, pX11_mixed_507_zV, pX11_mixed_523_zV, pX11_mixed_540_zV, pX11_mixed_613_zV, pX11_mixed_630_zV, pX11_mixed_651_zV, pX11_mixed_859_zV, if_true, if_false]
  have e3 : fX11_works__m_vxsat c (nI L) vt (nI st) (nI md) sat (nI d) (nI s1) (nI s2) 6 (nI 29) (nI S) (nI E) un zX z z = sat := by
    simp (decide := true) only [fX11_works__m_vxsat, fX11_mixed__m_vxsat, pX11_mixed_299_m_vxsat, pX11_mixed_319_m_vxsat, pX11_mixed_339_m_vxsat, pX11_mixed_359_m_vxsat, pX11_mixed_380_m_vxsat, pX11_mixed_401_m_vxsat, pX11_mixed_422_m_vxsat, pX11_mixed_443_m_vxsat, if_true, if_false]
  have e4 : fX11_works__zX (nI L) (nI st) (nI d) (nI s1) (nI s2) 6 (nI 29) (nI S) un zX z = zX := by
    simp (decide := true) only [fX11_works__zX, fX11_mixed__zX, pX11_mixed_523_zX, if_true, if_false]
  unfold WK
  rw [e1, e2, e3, e4]
  exact ill_WO h (kd_none (by decide)) vt sat c _ rf re r8 rg rl
theorem w6_30 {S E L st d s1 s2 md : Nat} {im un tb : Int32} {x z xS zX : Nat → Int32} (h : HY S E L st d s1 s2 md 6 im un tb x z xS zX) {vt : Int32} (hvt : fX11_vlmax vt = nI (16 * E / S)) (sat : Int32) (c : Int64) (rf re r8 rg : Int32) (rl : Int64) : WK S E L st d s1 s2 md 6 (nI 30) im un tb x z xS zX vt sat c rf re r8 rg rl := by
  have e1 : fX11_works (nI st) (nI d) (nI s1) (nI s2) 6 (nI 30) (nI S) (nI E) un = 0 := by
    simp (decide := true) only [fX11_works, fX11_mixed, pX11_mixed_299_S1, pX11_mixed_319_S1, pX11_mixed_339_S1, pX11_mixed_359_S1, pX11_mixed_380_S1, pX11_mixed_401_S1, pX11_mixed_422_S1, pX11_mixed_443_S1, pX11_mixed_489_S1, pX11_mixed_507_S1, pX11_mixed_523_S1, pX11_mixed_540_S1, pX11_mixed_613_S1, pX11_mixed_630_S1, pX11_mixed_651_S1, pX11_mixed_859_S1, if_true, if_false]
  have e2 : fX11_works__zV c (nI L) vt (nI st) (nI md) sat (nI d) (nI s1) (nI s2) 6 (nI 30) (nI S) (nI E) un zX z z = z := by
    simp (decide := true) only [fX11_works__zV, fX11_mixed__zV, pX11_mixed_299_zV, pX11_mixed_319_zV, pX11_mixed_339_zV, pX11_mixed_359_zV, pX11_mixed_380_zV, pX11_mixed_401_zV, pX11_mixed_422_zV, pX11_mixed_443_zV, pX11_mixed_489_zV, pX11_mixed_507_zV, pX11_mixed_523_zV, pX11_mixed_540_zV, pX11_mixed_613_zV, pX11_mixed_630_zV, pX11_mixed_651_zV, pX11_mixed_859_zV, if_true, if_false]
  have e3 : fX11_works__m_vxsat c (nI L) vt (nI st) (nI md) sat (nI d) (nI s1) (nI s2) 6 (nI 30) (nI S) (nI E) un zX z z = sat := by
    simp (decide := true) only [fX11_works__m_vxsat, fX11_mixed__m_vxsat, pX11_mixed_299_m_vxsat, pX11_mixed_319_m_vxsat, pX11_mixed_339_m_vxsat, pX11_mixed_359_m_vxsat, pX11_mixed_380_m_vxsat, pX11_mixed_401_m_vxsat, pX11_mixed_422_m_vxsat, pX11_mixed_443_m_vxsat, if_true, if_false]
  have e4 : fX11_works__zX (nI L) (nI st) (nI d) (nI s1) (nI s2) 6 (nI 30) (nI S) un zX z = zX := by
    simp (decide := true) only [fX11_works__zX, fX11_mixed__zX, pX11_mixed_523_zX, if_true, if_false]
  unfold WK
  rw [e1, e2, e3, e4]
  exact ill_WO h (kd_none (by decide)) vt sat c _ rf re r8 rg rl
theorem w6_31 {S E L st d s1 s2 md : Nat} {im un tb : Int32} {x z xS zX : Nat → Int32} (h : HY S E L st d s1 s2 md 6 im un tb x z xS zX) {vt : Int32} (hvt : fX11_vlmax vt = nI (16 * E / S)) (sat : Int32) (c : Int64) (rf re r8 rg : Int32) (rl : Int64) : WK S E L st d s1 s2 md 6 (nI 31) im un tb x z xS zX vt sat c rf re r8 rg rl := by
  have e1 : fX11_works (nI st) (nI d) (nI s1) (nI s2) 6 (nI 31) (nI S) (nI E) un = 0 := by
    simp (decide := true) only [fX11_works, fX11_mixed, pX11_mixed_299_S1, pX11_mixed_319_S1, pX11_mixed_339_S1, pX11_mixed_359_S1, pX11_mixed_380_S1, pX11_mixed_401_S1, pX11_mixed_422_S1, pX11_mixed_443_S1, pX11_mixed_489_S1, pX11_mixed_507_S1, pX11_mixed_523_S1, pX11_mixed_540_S1, pX11_mixed_613_S1, pX11_mixed_630_S1, pX11_mixed_651_S1, pX11_mixed_859_S1, if_true, if_false]
  have e2 : fX11_works__zV c (nI L) vt (nI st) (nI md) sat (nI d) (nI s1) (nI s2) 6 (nI 31) (nI S) (nI E) un zX z z = z := by
    simp (decide := true) only [fX11_works__zV, fX11_mixed__zV, pX11_mixed_299_zV, pX11_mixed_319_zV, pX11_mixed_339_zV, pX11_mixed_359_zV, pX11_mixed_380_zV, pX11_mixed_401_zV, pX11_mixed_422_zV, pX11_mixed_443_zV, pX11_mixed_489_zV, pX11_mixed_507_zV, pX11_mixed_523_zV, pX11_mixed_540_zV, pX11_mixed_613_zV, pX11_mixed_630_zV, pX11_mixed_651_zV, pX11_mixed_859_zV, if_true, if_false]
  have e3 : fX11_works__m_vxsat c (nI L) vt (nI st) (nI md) sat (nI d) (nI s1) (nI s2) 6 (nI 31) (nI S) (nI E) un zX z z = sat := by
    simp (decide := true) only [fX11_works__m_vxsat, fX11_mixed__m_vxsat, pX11_mixed_299_m_vxsat, pX11_mixed_319_m_vxsat, pX11_mixed_339_m_vxsat, pX11_mixed_359_m_vxsat, pX11_mixed_380_m_vxsat, pX11_mixed_401_m_vxsat, pX11_mixed_422_m_vxsat, pX11_mixed_443_m_vxsat, if_true, if_false]
  have e4 : fX11_works__zX (nI L) (nI st) (nI d) (nI s1) (nI s2) 6 (nI 31) (nI S) un zX z = zX := by
    simp (decide := true) only [fX11_works__zX, fX11_mixed__zX, pX11_mixed_523_zX, if_true, if_false]
  unfold WK
  rw [e1, e2, e3, e4]
  exact ill_WO h (kd_none (by decide)) vt sat c _ rf re r8 rg rl
theorem w6_32 {S E L st d s1 s2 md : Nat} {im un tb : Int32} {x z xS zX : Nat → Int32} (h : HY S E L st d s1 s2 md 6 im un tb x z xS zX) {vt : Int32} (hvt : fX11_vlmax vt = nI (16 * E / S)) (sat : Int32) (c : Int64) (rf re r8 rg : Int32) (rl : Int64) : WK S E L st d s1 s2 md 6 (nI 32) im un tb x z xS zX vt sat c rf re r8 rg rl := by
  have e1 : fX11_works (nI st) (nI d) (nI s1) (nI s2) 6 (nI 32) (nI S) (nI E) un = fX11_alike (nI d) (nI s1) (nI s2) 6 (nI S) (nI E) un := by
    simp (decide := true) only [fX11_works, fX11_mixed, pX11_mixed_299_S1, pX11_mixed_319_S1, pX11_mixed_339_S1, pX11_mixed_359_S1, pX11_mixed_380_S1, pX11_mixed_401_S1, pX11_mixed_422_S1, pX11_mixed_443_S1, pX11_mixed_489_S1, pX11_mixed_507_S1, pX11_mixed_523_S1, pX11_mixed_540_S1, pX11_mixed_613_S1, pX11_mixed_630_S1, pX11_mixed_651_S1, pX11_mixed_859_S1, if_true, if_false]
  have e2 : fX11_works__zV c (nI L) vt (nI st) (nI md) sat (nI d) (nI s1) (nI s2) 6 (nI 32) (nI S) (nI E) un zX z z = fX11_alike__zV c (nI L) vt (nI st) (nI md) sat (nI d) (nI s1) (nI s2) 6 (nI S) (nI E) un zX z z 28 := by
    simp (decide := true) only [fX11_works__zV, fX11_mixed__zV, pX11_mixed_299_zV, pX11_mixed_319_zV, pX11_mixed_339_zV, pX11_mixed_359_zV, pX11_mixed_380_zV, pX11_mixed_401_zV, pX11_mixed_422_zV, pX11_mixed_443_zV, pX11_mixed_489_zV, pX11_mixed_507_zV, pX11_mixed_523_zV, pX11_mixed_540_zV, pX11_mixed_613_zV, pX11_mixed_630_zV, pX11_mixed_651_zV, pX11_mixed_859_zV, if_true, if_false]
  have e3 : fX11_works__m_vxsat c (nI L) vt (nI st) (nI md) sat (nI d) (nI s1) (nI s2) 6 (nI 32) (nI S) (nI E) un zX z z = fX11_alike__m_vxsat c (nI L) vt (nI st) (nI md) sat (nI d) (nI s1) (nI s2) 6 (nI S) (nI E) un zX z z 28 := by
    simp (decide := true) only [fX11_works__m_vxsat, fX11_mixed__m_vxsat, pX11_mixed_299_m_vxsat, pX11_mixed_319_m_vxsat, pX11_mixed_339_m_vxsat, pX11_mixed_359_m_vxsat, pX11_mixed_380_m_vxsat, pX11_mixed_401_m_vxsat, pX11_mixed_422_m_vxsat, pX11_mixed_443_m_vxsat, if_true, if_false]
  have e4 : fX11_works__zX (nI L) (nI st) (nI d) (nI s1) (nI s2) 6 (nI 32) (nI S) un zX z = zX := by
    simp (decide := true) only [fX11_works__zX, fX11_mixed__zX, pX11_mixed_523_zX, if_true, if_false]
  unfold WK
  rw [e1, e2, e3, e4]
  exact alike_WO h (by decide) (by rw [kd_plain (by decide) (by decide) (show _ = (1 : Int32) by decide), mb_free (by decide)]) vt sat c _ rf re r8 rg rl
theorem w6_33 {S E L st d s1 s2 md : Nat} {im un tb : Int32} {x z xS zX : Nat → Int32} (h : HY S E L st d s1 s2 md 6 im un tb x z xS zX) {vt : Int32} (hvt : fX11_vlmax vt = nI (16 * E / S)) (sat : Int32) (c : Int64) (rf re r8 rg : Int32) (rl : Int64) : WK S E L st d s1 s2 md 6 (nI 33) im un tb x z xS zX vt sat c rf re r8 rg rl := by
  have e1 : fX11_works (nI st) (nI d) (nI s1) (nI s2) 6 (nI 33) (nI S) (nI E) un = fX11_alike (nI d) (nI s1) (nI s2) 6 (nI S) (nI E) un := by
    simp (decide := true) only [fX11_works, fX11_mixed, pX11_mixed_299_S1, pX11_mixed_319_S1, pX11_mixed_339_S1, pX11_mixed_359_S1, pX11_mixed_380_S1, pX11_mixed_401_S1, pX11_mixed_422_S1, pX11_mixed_443_S1, pX11_mixed_489_S1, pX11_mixed_507_S1, pX11_mixed_523_S1, pX11_mixed_540_S1, pX11_mixed_613_S1, pX11_mixed_630_S1, pX11_mixed_651_S1, pX11_mixed_859_S1, if_true, if_false]
  have e2 : fX11_works__zV c (nI L) vt (nI st) (nI md) sat (nI d) (nI s1) (nI s2) 6 (nI 33) (nI S) (nI E) un zX z z = fX11_alike__zV c (nI L) vt (nI st) (nI md) sat (nI d) (nI s1) (nI s2) 6 (nI S) (nI E) un zX z z 29 := by
    simp (decide := true) only [fX11_works__zV, fX11_mixed__zV, pX11_mixed_299_zV, pX11_mixed_319_zV, pX11_mixed_339_zV, pX11_mixed_359_zV, pX11_mixed_380_zV, pX11_mixed_401_zV, pX11_mixed_422_zV, pX11_mixed_443_zV, pX11_mixed_489_zV, pX11_mixed_507_zV, pX11_mixed_523_zV, pX11_mixed_540_zV, pX11_mixed_613_zV, pX11_mixed_630_zV, pX11_mixed_651_zV, pX11_mixed_859_zV, if_true, if_false]
  have e3 : fX11_works__m_vxsat c (nI L) vt (nI st) (nI md) sat (nI d) (nI s1) (nI s2) 6 (nI 33) (nI S) (nI E) un zX z z = fX11_alike__m_vxsat c (nI L) vt (nI st) (nI md) sat (nI d) (nI s1) (nI s2) 6 (nI S) (nI E) un zX z z 29 := by
    simp (decide := true) only [fX11_works__m_vxsat, fX11_mixed__m_vxsat, pX11_mixed_299_m_vxsat, pX11_mixed_319_m_vxsat, pX11_mixed_339_m_vxsat, pX11_mixed_359_m_vxsat, pX11_mixed_380_m_vxsat, pX11_mixed_401_m_vxsat, pX11_mixed_422_m_vxsat, pX11_mixed_443_m_vxsat, if_true, if_false]
  have e4 : fX11_works__zX (nI L) (nI st) (nI d) (nI s1) (nI s2) 6 (nI 33) (nI S) un zX z = zX := by
    simp (decide := true) only [fX11_works__zX, fX11_mixed__zX, pX11_mixed_523_zX, if_true, if_false]
  unfold WK
  rw [e1, e2, e3, e4]
  exact alike_WO h (by decide) (by rw [kd_plain (by decide) (by decide) (show _ = (1 : Int32) by decide), mb_free (by decide)]) vt sat c _ rf re r8 rg rl
theorem w6_34 {S E L st d s1 s2 md : Nat} {im un tb : Int32} {x z xS zX : Nat → Int32} (h : HY S E L st d s1 s2 md 6 im un tb x z xS zX) {vt : Int32} (hvt : fX11_vlmax vt = nI (16 * E / S)) (sat : Int32) (c : Int64) (rf re r8 rg : Int32) (rl : Int64) : WK S E L st d s1 s2 md 6 (nI 34) im un tb x z xS zX vt sat c rf re r8 rg rl := by
  have e1 : fX11_works (nI st) (nI d) (nI s1) (nI s2) 6 (nI 34) (nI S) (nI E) un = fX11_alike (nI d) (nI s1) (nI s2) 6 (nI S) (nI E) un := by
    simp (decide := true) only [fX11_works, fX11_mixed, pX11_mixed_299_S1, pX11_mixed_319_S1, pX11_mixed_339_S1, pX11_mixed_359_S1, pX11_mixed_380_S1, pX11_mixed_401_S1, pX11_mixed_422_S1, pX11_mixed_443_S1, pX11_mixed_489_S1, pX11_mixed_507_S1, pX11_mixed_523_S1, pX11_mixed_540_S1, pX11_mixed_613_S1, pX11_mixed_630_S1, pX11_mixed_651_S1, pX11_mixed_859_S1, if_true, if_false]
  have e2 : fX11_works__zV c (nI L) vt (nI st) (nI md) sat (nI d) (nI s1) (nI s2) 6 (nI 34) (nI S) (nI E) un zX z z = fX11_alike__zV c (nI L) vt (nI st) (nI md) sat (nI d) (nI s1) (nI s2) 6 (nI S) (nI E) un zX z z 30 := by
    simp (decide := true) only [fX11_works__zV, fX11_mixed__zV, pX11_mixed_299_zV, pX11_mixed_319_zV, pX11_mixed_339_zV, pX11_mixed_359_zV, pX11_mixed_380_zV, pX11_mixed_401_zV, pX11_mixed_422_zV, pX11_mixed_443_zV, pX11_mixed_489_zV, pX11_mixed_507_zV, pX11_mixed_523_zV, pX11_mixed_540_zV, pX11_mixed_613_zV, pX11_mixed_630_zV, pX11_mixed_651_zV, pX11_mixed_859_zV, if_true, if_false]
  have e3 : fX11_works__m_vxsat c (nI L) vt (nI st) (nI md) sat (nI d) (nI s1) (nI s2) 6 (nI 34) (nI S) (nI E) un zX z z = fX11_alike__m_vxsat c (nI L) vt (nI st) (nI md) sat (nI d) (nI s1) (nI s2) 6 (nI S) (nI E) un zX z z 30 := by
    simp (decide := true) only [fX11_works__m_vxsat, fX11_mixed__m_vxsat, pX11_mixed_299_m_vxsat, pX11_mixed_319_m_vxsat, pX11_mixed_339_m_vxsat, pX11_mixed_359_m_vxsat, pX11_mixed_380_m_vxsat, pX11_mixed_401_m_vxsat, pX11_mixed_422_m_vxsat, pX11_mixed_443_m_vxsat, if_true, if_false]
  have e4 : fX11_works__zX (nI L) (nI st) (nI d) (nI s1) (nI s2) 6 (nI 34) (nI S) un zX z = zX := by
    simp (decide := true) only [fX11_works__zX, fX11_mixed__zX, pX11_mixed_523_zX, if_true, if_false]
  unfold WK
  rw [e1, e2, e3, e4]
  exact alike_WO h (by decide) (by rw [kd_plain (by decide) (by decide) (show _ = (1 : Int32) by decide), mb_free (by decide)]) vt sat c _ rf re r8 rg rl
theorem w6_35 {S E L st d s1 s2 md : Nat} {im un tb : Int32} {x z xS zX : Nat → Int32} (h : HY S E L st d s1 s2 md 6 im un tb x z xS zX) {vt : Int32} (hvt : fX11_vlmax vt = nI (16 * E / S)) (sat : Int32) (c : Int64) (rf re r8 rg : Int32) (rl : Int64) : WK S E L st d s1 s2 md 6 (nI 35) im un tb x z xS zX vt sat c rf re r8 rg rl := by
  have e1 : fX11_works (nI st) (nI d) (nI s1) (nI s2) 6 (nI 35) (nI S) (nI E) un = fX11_alike (nI d) (nI s1) (nI s2) 6 (nI S) (nI E) un := by
    simp (decide := true) only [fX11_works, fX11_mixed, pX11_mixed_299_S1, pX11_mixed_319_S1, pX11_mixed_339_S1, pX11_mixed_359_S1, pX11_mixed_380_S1, pX11_mixed_401_S1, pX11_mixed_422_S1, pX11_mixed_443_S1, pX11_mixed_489_S1, pX11_mixed_507_S1, pX11_mixed_523_S1, pX11_mixed_540_S1, pX11_mixed_613_S1, pX11_mixed_630_S1, pX11_mixed_651_S1, pX11_mixed_859_S1, if_true, if_false]
  have e2 : fX11_works__zV c (nI L) vt (nI st) (nI md) sat (nI d) (nI s1) (nI s2) 6 (nI 35) (nI S) (nI E) un zX z z = fX11_alike__zV c (nI L) vt (nI st) (nI md) sat (nI d) (nI s1) (nI s2) 6 (nI S) (nI E) un zX z z 31 := by
    simp (decide := true) only [fX11_works__zV, fX11_mixed__zV, pX11_mixed_299_zV, pX11_mixed_319_zV, pX11_mixed_339_zV, pX11_mixed_359_zV, pX11_mixed_380_zV, pX11_mixed_401_zV, pX11_mixed_422_zV, pX11_mixed_443_zV, pX11_mixed_489_zV, pX11_mixed_507_zV, pX11_mixed_523_zV, pX11_mixed_540_zV, pX11_mixed_613_zV, pX11_mixed_630_zV, pX11_mixed_651_zV, pX11_mixed_859_zV, if_true, if_false]
  have e3 : fX11_works__m_vxsat c (nI L) vt (nI st) (nI md) sat (nI d) (nI s1) (nI s2) 6 (nI 35) (nI S) (nI E) un zX z z = fX11_alike__m_vxsat c (nI L) vt (nI st) (nI md) sat (nI d) (nI s1) (nI s2) 6 (nI S) (nI E) un zX z z 31 := by
    simp (decide := true) only [fX11_works__m_vxsat, fX11_mixed__m_vxsat, pX11_mixed_299_m_vxsat, pX11_mixed_319_m_vxsat, pX11_mixed_339_m_vxsat, pX11_mixed_359_m_vxsat, pX11_mixed_380_m_vxsat, pX11_mixed_401_m_vxsat, pX11_mixed_422_m_vxsat, pX11_mixed_443_m_vxsat, if_true, if_false]
  have e4 : fX11_works__zX (nI L) (nI st) (nI d) (nI s1) (nI s2) 6 (nI 35) (nI S) un zX z = zX := by
    simp (decide := true) only [fX11_works__zX, fX11_mixed__zX, pX11_mixed_523_zX, if_true, if_false]
  unfold WK
  rw [e1, e2, e3, e4]
  exact alike_WO h (by decide) (by rw [kd_plain (by decide) (by decide) (show _ = (1 : Int32) by decide), mb_free (by decide)]) vt sat c _ rf re r8 rg rl
theorem w6_36 {S E L st d s1 s2 md : Nat} {im un tb : Int32} {x z xS zX : Nat → Int32} (h : HY S E L st d s1 s2 md 6 im un tb x z xS zX) {vt : Int32} (hvt : fX11_vlmax vt = nI (16 * E / S)) (sat : Int32) (c : Int64) (rf re r8 rg : Int32) (rl : Int64) : WK S E L st d s1 s2 md 6 (nI 36) im un tb x z xS zX vt sat c rf re r8 rg rl := by
  have e1 : fX11_works (nI st) (nI d) (nI s1) (nI s2) 6 (nI 36) (nI S) (nI E) un = fX11_alike (nI d) (nI s1) (nI s2) 6 (nI S) (nI E) un := by
    simp (decide := true) only [fX11_works, fX11_mixed, pX11_mixed_299_S1, pX11_mixed_319_S1, pX11_mixed_339_S1, pX11_mixed_359_S1, pX11_mixed_380_S1, pX11_mixed_401_S1, pX11_mixed_422_S1, pX11_mixed_443_S1, pX11_mixed_489_S1, pX11_mixed_507_S1, pX11_mixed_523_S1, pX11_mixed_540_S1, pX11_mixed_613_S1, pX11_mixed_630_S1, pX11_mixed_651_S1, pX11_mixed_859_S1, if_true, if_false]
  have e2 : fX11_works__zV c (nI L) vt (nI st) (nI md) sat (nI d) (nI s1) (nI s2) 6 (nI 36) (nI S) (nI E) un zX z z = fX11_alike__zV c (nI L) vt (nI st) (nI md) sat (nI d) (nI s1) (nI s2) 6 (nI S) (nI E) un zX z z 26 := by
    simp (decide := true) only [fX11_works__zV, fX11_mixed__zV, pX11_mixed_299_zV, pX11_mixed_319_zV, pX11_mixed_339_zV, pX11_mixed_359_zV, pX11_mixed_380_zV, pX11_mixed_401_zV, pX11_mixed_422_zV, pX11_mixed_443_zV, pX11_mixed_489_zV, pX11_mixed_507_zV, pX11_mixed_523_zV, pX11_mixed_540_zV, pX11_mixed_613_zV, pX11_mixed_630_zV, pX11_mixed_651_zV, pX11_mixed_859_zV, if_true, if_false]
  have e3 : fX11_works__m_vxsat c (nI L) vt (nI st) (nI md) sat (nI d) (nI s1) (nI s2) 6 (nI 36) (nI S) (nI E) un zX z z = fX11_alike__m_vxsat c (nI L) vt (nI st) (nI md) sat (nI d) (nI s1) (nI s2) 6 (nI S) (nI E) un zX z z 26 := by
    simp (decide := true) only [fX11_works__m_vxsat, fX11_mixed__m_vxsat, pX11_mixed_299_m_vxsat, pX11_mixed_319_m_vxsat, pX11_mixed_339_m_vxsat, pX11_mixed_359_m_vxsat, pX11_mixed_380_m_vxsat, pX11_mixed_401_m_vxsat, pX11_mixed_422_m_vxsat, pX11_mixed_443_m_vxsat, if_true, if_false]
  have e4 : fX11_works__zX (nI L) (nI st) (nI d) (nI s1) (nI s2) 6 (nI 36) (nI S) un zX z = zX := by
    simp (decide := true) only [fX11_works__zX, fX11_mixed__zX, pX11_mixed_523_zX, if_true, if_false]
  unfold WK
  rw [e1, e2, e3, e4]
  exact alike_WO h (by decide) (by rw [kd_plain (by decide) (by decide) (show _ = (1 : Int32) by decide), mb_free (by decide)]) vt sat c _ rf re r8 rg rl
theorem w6_37 {S E L st d s1 s2 md : Nat} {im un tb : Int32} {x z xS zX : Nat → Int32} (h : HY S E L st d s1 s2 md 6 im un tb x z xS zX) {vt : Int32} (hvt : fX11_vlmax vt = nI (16 * E / S)) (sat : Int32) (c : Int64) (rf re r8 rg : Int32) (rl : Int64) : WK S E L st d s1 s2 md 6 (nI 37) im un tb x z xS zX vt sat c rf re r8 rg rl := by
  have e1 : fX11_works (nI st) (nI d) (nI s1) (nI s2) 6 (nI 37) (nI S) (nI E) un = fX11_alike (nI d) (nI s1) (nI s2) 6 (nI S) (nI E) un := by
    simp (decide := true) only [fX11_works, fX11_mixed, pX11_mixed_299_S1, pX11_mixed_319_S1, pX11_mixed_339_S1, pX11_mixed_359_S1, pX11_mixed_380_S1, pX11_mixed_401_S1, pX11_mixed_422_S1, pX11_mixed_443_S1, pX11_mixed_489_S1, pX11_mixed_507_S1, pX11_mixed_523_S1, pX11_mixed_540_S1, pX11_mixed_613_S1, pX11_mixed_630_S1, pX11_mixed_651_S1, pX11_mixed_859_S1, if_true, if_false]
  have e2 : fX11_works__zV c (nI L) vt (nI st) (nI md) sat (nI d) (nI s1) (nI s2) 6 (nI 37) (nI S) (nI E) un zX z z = fX11_alike__zV c (nI L) vt (nI st) (nI md) sat (nI d) (nI s1) (nI s2) 6 (nI S) (nI E) un zX z z 24 := by
    simp (decide := true) only [fX11_works__zV, fX11_mixed__zV, pX11_mixed_299_zV, pX11_mixed_319_zV, pX11_mixed_339_zV, pX11_mixed_359_zV, pX11_mixed_380_zV, pX11_mixed_401_zV, pX11_mixed_422_zV, pX11_mixed_443_zV, pX11_mixed_489_zV, pX11_mixed_507_zV, pX11_mixed_523_zV, pX11_mixed_540_zV, pX11_mixed_613_zV, pX11_mixed_630_zV, pX11_mixed_651_zV, pX11_mixed_859_zV, if_true, if_false]
  have e3 : fX11_works__m_vxsat c (nI L) vt (nI st) (nI md) sat (nI d) (nI s1) (nI s2) 6 (nI 37) (nI S) (nI E) un zX z z = fX11_alike__m_vxsat c (nI L) vt (nI st) (nI md) sat (nI d) (nI s1) (nI s2) 6 (nI S) (nI E) un zX z z 24 := by
    simp (decide := true) only [fX11_works__m_vxsat, fX11_mixed__m_vxsat, pX11_mixed_299_m_vxsat, pX11_mixed_319_m_vxsat, pX11_mixed_339_m_vxsat, pX11_mixed_359_m_vxsat, pX11_mixed_380_m_vxsat, pX11_mixed_401_m_vxsat, pX11_mixed_422_m_vxsat, pX11_mixed_443_m_vxsat, if_true, if_false]
  have e4 : fX11_works__zX (nI L) (nI st) (nI d) (nI s1) (nI s2) 6 (nI 37) (nI S) un zX z = zX := by
    simp (decide := true) only [fX11_works__zX, fX11_mixed__zX, pX11_mixed_523_zX, if_true, if_false]
  unfold WK
  rw [e1, e2, e3, e4]
  exact alike_WO h (by decide) (by rw [kd_plain (by decide) (by decide) (show _ = (1 : Int32) by decide), mb_free (by decide)]) vt sat c _ rf re r8 rg rl
theorem w6_38 {S E L st d s1 s2 md : Nat} {im un tb : Int32} {x z xS zX : Nat → Int32} (h : HY S E L st d s1 s2 md 6 im un tb x z xS zX) {vt : Int32} (hvt : fX11_vlmax vt = nI (16 * E / S)) (sat : Int32) (c : Int64) (rf re r8 rg : Int32) (rl : Int64) : WK S E L st d s1 s2 md 6 (nI 38) im un tb x z xS zX vt sat c rf re r8 rg rl := by
  have e1 : fX11_works (nI st) (nI d) (nI s1) (nI s2) 6 (nI 38) (nI S) (nI E) un = fX11_alike (nI d) (nI s1) (nI s2) 6 (nI S) (nI E) un := by
    simp (decide := true) only [fX11_works, fX11_mixed, pX11_mixed_299_S1, pX11_mixed_319_S1, pX11_mixed_339_S1, pX11_mixed_359_S1, pX11_mixed_380_S1, pX11_mixed_401_S1, pX11_mixed_422_S1, pX11_mixed_443_S1, pX11_mixed_489_S1, pX11_mixed_507_S1, pX11_mixed_523_S1, pX11_mixed_540_S1, pX11_mixed_613_S1, pX11_mixed_630_S1, pX11_mixed_651_S1, pX11_mixed_859_S1, if_true, if_false]
  have e2 : fX11_works__zV c (nI L) vt (nI st) (nI md) sat (nI d) (nI s1) (nI s2) 6 (nI 38) (nI S) (nI E) un zX z z = fX11_alike__zV c (nI L) vt (nI st) (nI md) sat (nI d) (nI s1) (nI s2) 6 (nI S) (nI E) un zX z z 27 := by
    simp (decide := true) only [fX11_works__zV, fX11_mixed__zV, pX11_mixed_299_zV, pX11_mixed_319_zV, pX11_mixed_339_zV, pX11_mixed_359_zV, pX11_mixed_380_zV, pX11_mixed_401_zV, pX11_mixed_422_zV, pX11_mixed_443_zV, pX11_mixed_489_zV, pX11_mixed_507_zV, pX11_mixed_523_zV, pX11_mixed_540_zV, pX11_mixed_613_zV, pX11_mixed_630_zV, pX11_mixed_651_zV, pX11_mixed_859_zV, if_true, if_false]
  have e3 : fX11_works__m_vxsat c (nI L) vt (nI st) (nI md) sat (nI d) (nI s1) (nI s2) 6 (nI 38) (nI S) (nI E) un zX z z = fX11_alike__m_vxsat c (nI L) vt (nI st) (nI md) sat (nI d) (nI s1) (nI s2) 6 (nI S) (nI E) un zX z z 27 := by
    simp (decide := true) only [fX11_works__m_vxsat, fX11_mixed__m_vxsat, pX11_mixed_299_m_vxsat, pX11_mixed_319_m_vxsat, pX11_mixed_339_m_vxsat, pX11_mixed_359_m_vxsat, pX11_mixed_380_m_vxsat, pX11_mixed_401_m_vxsat, pX11_mixed_422_m_vxsat, pX11_mixed_443_m_vxsat, if_true, if_false]
  have e4 : fX11_works__zX (nI L) (nI st) (nI d) (nI s1) (nI s2) 6 (nI 38) (nI S) un zX z = zX := by
    simp (decide := true) only [fX11_works__zX, fX11_mixed__zX, pX11_mixed_523_zX, if_true, if_false]
  unfold WK
  rw [e1, e2, e3, e4]
  exact alike_WO h (by decide) (by rw [kd_plain (by decide) (by decide) (show _ = (1 : Int32) by decide), mb_free (by decide)]) vt sat c _ rf re r8 rg rl
theorem w6_39 {S E L st d s1 s2 md : Nat} {im un tb : Int32} {x z xS zX : Nat → Int32} (h : HY S E L st d s1 s2 md 6 im un tb x z xS zX) {vt : Int32} (hvt : fX11_vlmax vt = nI (16 * E / S)) (sat : Int32) (c : Int64) (rf re r8 rg : Int32) (rl : Int64) : WK S E L st d s1 s2 md 6 (nI 39) im un tb x z xS zX vt sat c rf re r8 rg rl := by
  have e1 : fX11_works (nI st) (nI d) (nI s1) (nI s2) 6 (nI 39) (nI S) (nI E) un = fX11_alike (nI d) (nI s1) (nI s2) 6 (nI S) (nI E) un := by
    simp (decide := true) only [fX11_works, fX11_mixed, pX11_mixed_299_S1, pX11_mixed_319_S1, pX11_mixed_339_S1, pX11_mixed_359_S1, pX11_mixed_380_S1, pX11_mixed_401_S1, pX11_mixed_422_S1, pX11_mixed_443_S1, pX11_mixed_489_S1, pX11_mixed_507_S1, pX11_mixed_523_S1, pX11_mixed_540_S1, pX11_mixed_613_S1, pX11_mixed_630_S1, pX11_mixed_651_S1, pX11_mixed_859_S1, if_true, if_false]
  have e2 : fX11_works__zV c (nI L) vt (nI st) (nI md) sat (nI d) (nI s1) (nI s2) 6 (nI 39) (nI S) (nI E) un zX z z = fX11_alike__zV c (nI L) vt (nI st) (nI md) sat (nI d) (nI s1) (nI s2) 6 (nI S) (nI E) un zX z z 25 := by
    simp (decide := true) only [fX11_works__zV, fX11_mixed__zV, pX11_mixed_299_zV, pX11_mixed_319_zV, pX11_mixed_339_zV, pX11_mixed_359_zV, pX11_mixed_380_zV, pX11_mixed_401_zV, pX11_mixed_422_zV, pX11_mixed_443_zV, pX11_mixed_489_zV, pX11_mixed_507_zV, pX11_mixed_523_zV, pX11_mixed_540_zV, pX11_mixed_613_zV, pX11_mixed_630_zV, pX11_mixed_651_zV, pX11_mixed_859_zV, if_true, if_false]
  have e3 : fX11_works__m_vxsat c (nI L) vt (nI st) (nI md) sat (nI d) (nI s1) (nI s2) 6 (nI 39) (nI S) (nI E) un zX z z = fX11_alike__m_vxsat c (nI L) vt (nI st) (nI md) sat (nI d) (nI s1) (nI s2) 6 (nI S) (nI E) un zX z z 25 := by
    simp (decide := true) only [fX11_works__m_vxsat, fX11_mixed__m_vxsat, pX11_mixed_299_m_vxsat, pX11_mixed_319_m_vxsat, pX11_mixed_339_m_vxsat, pX11_mixed_359_m_vxsat, pX11_mixed_380_m_vxsat, pX11_mixed_401_m_vxsat, pX11_mixed_422_m_vxsat, pX11_mixed_443_m_vxsat, if_true, if_false]
  have e4 : fX11_works__zX (nI L) (nI st) (nI d) (nI s1) (nI s2) 6 (nI 39) (nI S) un zX z = zX := by
    simp (decide := true) only [fX11_works__zX, fX11_mixed__zX, pX11_mixed_523_zX, if_true, if_false]
  unfold WK
  rw [e1, e2, e3, e4]
  exact alike_WO h (by decide) (by rw [kd_plain (by decide) (by decide) (show _ = (1 : Int32) by decide), mb_free (by decide)]) vt sat c _ rf re r8 rg rl
theorem w6_40 {S E L st d s1 s2 md : Nat} {im un tb : Int32} {x z xS zX : Nat → Int32} (h : HY S E L st d s1 s2 md 6 im un tb x z xS zX) {vt : Int32} (hvt : fX11_vlmax vt = nI (16 * E / S)) (sat : Int32) (c : Int64) (rf re r8 rg : Int32) (rl : Int64) : WK S E L st d s1 s2 md 6 (nI 40) im un tb x z xS zX vt sat c rf re r8 rg rl := by
  have e1 : fX11_works (nI st) (nI d) (nI s1) (nI s2) 6 (nI 40) (nI S) (nI E) un = 0 := by
    simp (decide := true) only [fX11_works, fX11_mixed, pX11_mixed_299_S1, pX11_mixed_319_S1, pX11_mixed_339_S1, pX11_mixed_359_S1, pX11_mixed_380_S1, pX11_mixed_401_S1, pX11_mixed_422_S1, pX11_mixed_443_S1, pX11_mixed_489_S1, pX11_mixed_507_S1, pX11_mixed_523_S1, pX11_mixed_540_S1, pX11_mixed_613_S1, pX11_mixed_630_S1, pX11_mixed_651_S1, pX11_mixed_859_S1, if_true, if_false]
  have e2 : fX11_works__zV c (nI L) vt (nI st) (nI md) sat (nI d) (nI s1) (nI s2) 6 (nI 40) (nI S) (nI E) un zX z z = z := by
    simp (decide := true) only [fX11_works__zV, fX11_mixed__zV, pX11_mixed_299_zV, pX11_mixed_319_zV, pX11_mixed_339_zV, pX11_mixed_359_zV, pX11_mixed_380_zV, pX11_mixed_401_zV, pX11_mixed_422_zV, pX11_mixed_443_zV, pX11_mixed_489_zV, pX11_mixed_507_zV, pX11_mixed_523_zV, pX11_mixed_540_zV, pX11_mixed_613_zV, pX11_mixed_630_zV, pX11_mixed_651_zV, pX11_mixed_859_zV, if_true, if_false]
  have e3 : fX11_works__m_vxsat c (nI L) vt (nI st) (nI md) sat (nI d) (nI s1) (nI s2) 6 (nI 40) (nI S) (nI E) un zX z z = sat := by
    simp (decide := true) only [fX11_works__m_vxsat, fX11_mixed__m_vxsat, pX11_mixed_299_m_vxsat, pX11_mixed_319_m_vxsat, pX11_mixed_339_m_vxsat, pX11_mixed_359_m_vxsat, pX11_mixed_380_m_vxsat, pX11_mixed_401_m_vxsat, pX11_mixed_422_m_vxsat, pX11_mixed_443_m_vxsat, if_true, if_false]
  have e4 : fX11_works__zX (nI L) (nI st) (nI d) (nI s1) (nI s2) 6 (nI 40) (nI S) un zX z = zX := by
    simp (decide := true) only [fX11_works__zX, fX11_mixed__zX, pX11_mixed_523_zX, if_true, if_false]
  unfold WK
  rw [e1, e2, e3, e4]
  exact ill_WO h (kd_none (by decide)) vt sat c _ rf re r8 rg rl
theorem w6_41 {S E L st d s1 s2 md : Nat} {im un tb : Int32} {x z xS zX : Nat → Int32} (h : HY S E L st d s1 s2 md 6 im un tb x z xS zX) {vt : Int32} (hvt : fX11_vlmax vt = nI (16 * E / S)) (sat : Int32) (c : Int64) (rf re r8 rg : Int32) (rl : Int64) : WK S E L st d s1 s2 md 6 (nI 41) im un tb x z xS zX vt sat c rf re r8 rg rl := by
  have e1 : fX11_works (nI st) (nI d) (nI s1) (nI s2) 6 (nI 41) (nI S) (nI E) un = fX11_alike (nI d) (nI s1) (nI s2) 6 (nI S) (nI E) un := by
    simp (decide := true) only [fX11_works, fX11_mixed, pX11_mixed_299_S1, pX11_mixed_319_S1, pX11_mixed_339_S1, pX11_mixed_359_S1, pX11_mixed_380_S1, pX11_mixed_401_S1, pX11_mixed_422_S1, pX11_mixed_443_S1, pX11_mixed_489_S1, pX11_mixed_507_S1, pX11_mixed_523_S1, pX11_mixed_540_S1, pX11_mixed_613_S1, pX11_mixed_630_S1, pX11_mixed_651_S1, pX11_mixed_859_S1, if_true, if_false]
  have e2 : fX11_works__zV c (nI L) vt (nI st) (nI md) sat (nI d) (nI s1) (nI s2) 6 (nI 41) (nI S) (nI E) un zX z z = fX11_alike__zV c (nI L) vt (nI st) (nI md) sat (nI d) (nI s1) (nI s2) 6 (nI S) (nI E) un zX z z 34 := by
    simp (decide := true) only [fX11_works__zV, fX11_mixed__zV, pX11_mixed_299_zV, pX11_mixed_319_zV, pX11_mixed_339_zV, pX11_mixed_359_zV, pX11_mixed_380_zV, pX11_mixed_401_zV, pX11_mixed_422_zV, pX11_mixed_443_zV, pX11_mixed_489_zV, pX11_mixed_507_zV, pX11_mixed_523_zV, pX11_mixed_540_zV, pX11_mixed_613_zV, pX11_mixed_630_zV, pX11_mixed_651_zV, pX11_mixed_859_zV, if_true, if_false]
  have e3 : fX11_works__m_vxsat c (nI L) vt (nI st) (nI md) sat (nI d) (nI s1) (nI s2) 6 (nI 41) (nI S) (nI E) un zX z z = fX11_alike__m_vxsat c (nI L) vt (nI st) (nI md) sat (nI d) (nI s1) (nI s2) 6 (nI S) (nI E) un zX z z 34 := by
    simp (decide := true) only [fX11_works__m_vxsat, fX11_mixed__m_vxsat, pX11_mixed_299_m_vxsat, pX11_mixed_319_m_vxsat, pX11_mixed_339_m_vxsat, pX11_mixed_359_m_vxsat, pX11_mixed_380_m_vxsat, pX11_mixed_401_m_vxsat, pX11_mixed_422_m_vxsat, pX11_mixed_443_m_vxsat, if_true, if_false]
  have e4 : fX11_works__zX (nI L) (nI st) (nI d) (nI s1) (nI s2) 6 (nI 41) (nI S) un zX z = zX := by
    simp (decide := true) only [fX11_works__zX, fX11_mixed__zX, pX11_mixed_523_zX, if_true, if_false]
  unfold WK
  rw [e1, e2, e3, e4]
  exact alike_WO h (by decide) (by rw [kd_plain (by decide) (by decide) (show _ = (1 : Int32) by decide), mb_free (by decide)]) vt sat c _ rf re r8 rg rl
theorem w6_42 {S E L st d s1 s2 md : Nat} {im un tb : Int32} {x z xS zX : Nat → Int32} (h : HY S E L st d s1 s2 md 6 im un tb x z xS zX) {vt : Int32} (hvt : fX11_vlmax vt = nI (16 * E / S)) (sat : Int32) (c : Int64) (rf re r8 rg : Int32) (rl : Int64) : WK S E L st d s1 s2 md 6 (nI 42) im un tb x z xS zX vt sat c rf re r8 rg rl := by
  have e1 : fX11_works (nI st) (nI d) (nI s1) (nI s2) 6 (nI 42) (nI S) (nI E) un = 0 := by
    simp (decide := true) only [fX11_works, fX11_mixed, pX11_mixed_299_S1, pX11_mixed_319_S1, pX11_mixed_339_S1, pX11_mixed_359_S1, pX11_mixed_380_S1, pX11_mixed_401_S1, pX11_mixed_422_S1, pX11_mixed_443_S1, pX11_mixed_489_S1, pX11_mixed_507_S1, pX11_mixed_523_S1, pX11_mixed_540_S1, pX11_mixed_613_S1, pX11_mixed_630_S1, pX11_mixed_651_S1, pX11_mixed_859_S1, if_true, if_false]
  have e2 : fX11_works__zV c (nI L) vt (nI st) (nI md) sat (nI d) (nI s1) (nI s2) 6 (nI 42) (nI S) (nI E) un zX z z = z := by
    simp (decide := true) only [fX11_works__zV, fX11_mixed__zV, pX11_mixed_299_zV, pX11_mixed_319_zV, pX11_mixed_339_zV, pX11_mixed_359_zV, pX11_mixed_380_zV, pX11_mixed_401_zV, pX11_mixed_422_zV, pX11_mixed_443_zV, pX11_mixed_489_zV, pX11_mixed_507_zV, pX11_mixed_523_zV, pX11_mixed_540_zV, pX11_mixed_613_zV, pX11_mixed_630_zV, pX11_mixed_651_zV, pX11_mixed_859_zV, if_true, if_false]
  have e3 : fX11_works__m_vxsat c (nI L) vt (nI st) (nI md) sat (nI d) (nI s1) (nI s2) 6 (nI 42) (nI S) (nI E) un zX z z = sat := by
    simp (decide := true) only [fX11_works__m_vxsat, fX11_mixed__m_vxsat, pX11_mixed_299_m_vxsat, pX11_mixed_319_m_vxsat, pX11_mixed_339_m_vxsat, pX11_mixed_359_m_vxsat, pX11_mixed_380_m_vxsat, pX11_mixed_401_m_vxsat, pX11_mixed_422_m_vxsat, pX11_mixed_443_m_vxsat, if_true, if_false]
  have e4 : fX11_works__zX (nI L) (nI st) (nI d) (nI s1) (nI s2) 6 (nI 42) (nI S) un zX z = zX := by
    simp (decide := true) only [fX11_works__zX, fX11_mixed__zX, pX11_mixed_523_zX, if_true, if_false]
  unfold WK
  rw [e1, e2, e3, e4]
  exact ill_WO h (kd_none (by decide)) vt sat c _ rf re r8 rg rl
theorem w6_43 {S E L st d s1 s2 md : Nat} {im un tb : Int32} {x z xS zX : Nat → Int32} (h : HY S E L st d s1 s2 md 6 im un tb x z xS zX) {vt : Int32} (hvt : fX11_vlmax vt = nI (16 * E / S)) (sat : Int32) (c : Int64) (rf re r8 rg : Int32) (rl : Int64) : WK S E L st d s1 s2 md 6 (nI 43) im un tb x z xS zX vt sat c rf re r8 rg rl := by
  have e1 : fX11_works (nI st) (nI d) (nI s1) (nI s2) 6 (nI 43) (nI S) (nI E) un = fX11_alike (nI d) (nI s1) (nI s2) 6 (nI S) (nI E) un := by
    simp (decide := true) only [fX11_works, fX11_mixed, pX11_mixed_299_S1, pX11_mixed_319_S1, pX11_mixed_339_S1, pX11_mixed_359_S1, pX11_mixed_380_S1, pX11_mixed_401_S1, pX11_mixed_422_S1, pX11_mixed_443_S1, pX11_mixed_489_S1, pX11_mixed_507_S1, pX11_mixed_523_S1, pX11_mixed_540_S1, pX11_mixed_613_S1, pX11_mixed_630_S1, pX11_mixed_651_S1, pX11_mixed_859_S1, if_true, if_false]
  have e2 : fX11_works__zV c (nI L) vt (nI st) (nI md) sat (nI d) (nI s1) (nI s2) 6 (nI 43) (nI S) (nI E) un zX z z = fX11_alike__zV c (nI L) vt (nI st) (nI md) sat (nI d) (nI s1) (nI s2) 6 (nI S) (nI E) un zX z z 35 := by
    simp (decide := true) only [fX11_works__zV, fX11_mixed__zV, pX11_mixed_299_zV, pX11_mixed_319_zV, pX11_mixed_339_zV, pX11_mixed_359_zV, pX11_mixed_380_zV, pX11_mixed_401_zV, pX11_mixed_422_zV, pX11_mixed_443_zV, pX11_mixed_489_zV, pX11_mixed_507_zV, pX11_mixed_523_zV, pX11_mixed_540_zV, pX11_mixed_613_zV, pX11_mixed_630_zV, pX11_mixed_651_zV, pX11_mixed_859_zV, if_true, if_false]
  have e3 : fX11_works__m_vxsat c (nI L) vt (nI st) (nI md) sat (nI d) (nI s1) (nI s2) 6 (nI 43) (nI S) (nI E) un zX z z = fX11_alike__m_vxsat c (nI L) vt (nI st) (nI md) sat (nI d) (nI s1) (nI s2) 6 (nI S) (nI E) un zX z z 35 := by
    simp (decide := true) only [fX11_works__m_vxsat, fX11_mixed__m_vxsat, pX11_mixed_299_m_vxsat, pX11_mixed_319_m_vxsat, pX11_mixed_339_m_vxsat, pX11_mixed_359_m_vxsat, pX11_mixed_380_m_vxsat, pX11_mixed_401_m_vxsat, pX11_mixed_422_m_vxsat, pX11_mixed_443_m_vxsat, if_true, if_false]
  have e4 : fX11_works__zX (nI L) (nI st) (nI d) (nI s1) (nI s2) 6 (nI 43) (nI S) un zX z = zX := by
    simp (decide := true) only [fX11_works__zX, fX11_mixed__zX, pX11_mixed_523_zX, if_true, if_false]
  unfold WK
  rw [e1, e2, e3, e4]
  exact alike_WO h (by decide) (by rw [kd_plain (by decide) (by decide) (show _ = (1 : Int32) by decide), mb_free (by decide)]) vt sat c _ rf re r8 rg rl
theorem w6_44 {S E L st d s1 s2 md : Nat} {im un tb : Int32} {x z xS zX : Nat → Int32} (h : HY S E L st d s1 s2 md 6 im un tb x z xS zX) {vt : Int32} (hvt : fX11_vlmax vt = nI (16 * E / S)) (sat : Int32) (c : Int64) (rf re r8 rg : Int32) (rl : Int64) : WK S E L st d s1 s2 md 6 (nI 44) im un tb x z xS zX vt sat c rf re r8 rg rl := by
  have e1 : fX11_works (nI st) (nI d) (nI s1) (nI s2) 6 (nI 44) (nI S) (nI E) un = 0 := by
    simp (decide := true) only [fX11_works, fX11_mixed, pX11_mixed_299_S1, pX11_mixed_319_S1, pX11_mixed_339_S1, pX11_mixed_359_S1, pX11_mixed_380_S1, pX11_mixed_401_S1, pX11_mixed_422_S1, pX11_mixed_443_S1, pX11_mixed_489_S1, pX11_mixed_507_S1, pX11_mixed_523_S1, pX11_mixed_540_S1, pX11_mixed_613_S1, pX11_mixed_630_S1, pX11_mixed_651_S1, pX11_mixed_859_S1, if_true, if_false]
  have e2 : fX11_works__zV c (nI L) vt (nI st) (nI md) sat (nI d) (nI s1) (nI s2) 6 (nI 44) (nI S) (nI E) un zX z z = z := by
    simp (decide := true) only [fX11_works__zV, fX11_mixed__zV, pX11_mixed_299_zV, pX11_mixed_319_zV, pX11_mixed_339_zV, pX11_mixed_359_zV, pX11_mixed_380_zV, pX11_mixed_401_zV, pX11_mixed_422_zV, pX11_mixed_443_zV, pX11_mixed_489_zV, pX11_mixed_507_zV, pX11_mixed_523_zV, pX11_mixed_540_zV, pX11_mixed_613_zV, pX11_mixed_630_zV, pX11_mixed_651_zV, pX11_mixed_859_zV, if_true, if_false]
  have e3 : fX11_works__m_vxsat c (nI L) vt (nI st) (nI md) sat (nI d) (nI s1) (nI s2) 6 (nI 44) (nI S) (nI E) un zX z z = sat := by
    simp (decide := true) only [fX11_works__m_vxsat, fX11_mixed__m_vxsat, pX11_mixed_299_m_vxsat, pX11_mixed_319_m_vxsat, pX11_mixed_339_m_vxsat, pX11_mixed_359_m_vxsat, pX11_mixed_380_m_vxsat, pX11_mixed_401_m_vxsat, pX11_mixed_422_m_vxsat, pX11_mixed_443_m_vxsat, if_true, if_false]
  have e4 : fX11_works__zX (nI L) (nI st) (nI d) (nI s1) (nI s2) 6 (nI 44) (nI S) un zX z = zX := by
    simp (decide := true) only [fX11_works__zX, fX11_mixed__zX, pX11_mixed_523_zX, if_true, if_false]
  unfold WK
  rw [e1, e2, e3, e4]
  exact ill_WO h (kd_none (by decide)) vt sat c _ rf re r8 rg rl
theorem w6_45 {S E L st d s1 s2 md : Nat} {im un tb : Int32} {x z xS zX : Nat → Int32} (h : HY S E L st d s1 s2 md 6 im un tb x z xS zX) {vt : Int32} (hvt : fX11_vlmax vt = nI (16 * E / S)) (sat : Int32) (c : Int64) (rf re r8 rg : Int32) (rl : Int64) : WK S E L st d s1 s2 md 6 (nI 45) im un tb x z xS zX vt sat c rf re r8 rg rl := by
  have e1 : fX11_works (nI st) (nI d) (nI s1) (nI s2) 6 (nI 45) (nI S) (nI E) un = fX11_alike (nI d) (nI s1) (nI s2) 6 (nI S) (nI E) un := by
    simp (decide := true) only [fX11_works, fX11_mixed, pX11_mixed_299_S1, pX11_mixed_319_S1, pX11_mixed_339_S1, pX11_mixed_359_S1, pX11_mixed_380_S1, pX11_mixed_401_S1, pX11_mixed_422_S1, pX11_mixed_443_S1, pX11_mixed_489_S1, pX11_mixed_507_S1, pX11_mixed_523_S1, pX11_mixed_540_S1, pX11_mixed_613_S1, pX11_mixed_630_S1, pX11_mixed_651_S1, pX11_mixed_859_S1, if_true, if_false]
  have e2 : fX11_works__zV c (nI L) vt (nI st) (nI md) sat (nI d) (nI s1) (nI s2) 6 (nI 45) (nI S) (nI E) un zX z z = fX11_alike__zV c (nI L) vt (nI st) (nI md) sat (nI d) (nI s1) (nI s2) 6 (nI S) (nI E) un zX z z 32 := by
    simp (decide := true) only [fX11_works__zV, fX11_mixed__zV, pX11_mixed_299_zV, pX11_mixed_319_zV, pX11_mixed_339_zV, pX11_mixed_359_zV, pX11_mixed_380_zV, pX11_mixed_401_zV, pX11_mixed_422_zV, pX11_mixed_443_zV, pX11_mixed_489_zV, pX11_mixed_507_zV, pX11_mixed_523_zV, pX11_mixed_540_zV, pX11_mixed_613_zV, pX11_mixed_630_zV, pX11_mixed_651_zV, pX11_mixed_859_zV, if_true, if_false]
  have e3 : fX11_works__m_vxsat c (nI L) vt (nI st) (nI md) sat (nI d) (nI s1) (nI s2) 6 (nI 45) (nI S) (nI E) un zX z z = fX11_alike__m_vxsat c (nI L) vt (nI st) (nI md) sat (nI d) (nI s1) (nI s2) 6 (nI S) (nI E) un zX z z 32 := by
    simp (decide := true) only [fX11_works__m_vxsat, fX11_mixed__m_vxsat, pX11_mixed_299_m_vxsat, pX11_mixed_319_m_vxsat, pX11_mixed_339_m_vxsat, pX11_mixed_359_m_vxsat, pX11_mixed_380_m_vxsat, pX11_mixed_401_m_vxsat, pX11_mixed_422_m_vxsat, pX11_mixed_443_m_vxsat, if_true, if_false]
  have e4 : fX11_works__zX (nI L) (nI st) (nI d) (nI s1) (nI s2) 6 (nI 45) (nI S) un zX z = zX := by
    simp (decide := true) only [fX11_works__zX, fX11_mixed__zX, pX11_mixed_523_zX, if_true, if_false]
  unfold WK
  rw [e1, e2, e3, e4]
  exact alike_WO h (by decide) (by rw [kd_plain (by decide) (by decide) (show _ = (1 : Int32) by decide), mb_free (by decide)]) vt sat c _ rf re r8 rg rl
theorem w6_46 {S E L st d s1 s2 md : Nat} {im un tb : Int32} {x z xS zX : Nat → Int32} (h : HY S E L st d s1 s2 md 6 im un tb x z xS zX) {vt : Int32} (hvt : fX11_vlmax vt = nI (16 * E / S)) (sat : Int32) (c : Int64) (rf re r8 rg : Int32) (rl : Int64) : WK S E L st d s1 s2 md 6 (nI 46) im un tb x z xS zX vt sat c rf re r8 rg rl := by
  have e1 : fX11_works (nI st) (nI d) (nI s1) (nI s2) 6 (nI 46) (nI S) (nI E) un = 0 := by
    simp (decide := true) only [fX11_works, fX11_mixed, pX11_mixed_299_S1, pX11_mixed_319_S1, pX11_mixed_339_S1, pX11_mixed_359_S1, pX11_mixed_380_S1, pX11_mixed_401_S1, pX11_mixed_422_S1, pX11_mixed_443_S1, pX11_mixed_489_S1, pX11_mixed_507_S1, pX11_mixed_523_S1, pX11_mixed_540_S1, pX11_mixed_613_S1, pX11_mixed_630_S1, pX11_mixed_651_S1, pX11_mixed_859_S1, if_true, if_false]
  have e2 : fX11_works__zV c (nI L) vt (nI st) (nI md) sat (nI d) (nI s1) (nI s2) 6 (nI 46) (nI S) (nI E) un zX z z = z := by
    simp (decide := true) only [fX11_works__zV, fX11_mixed__zV, pX11_mixed_299_zV, pX11_mixed_319_zV, pX11_mixed_339_zV, pX11_mixed_359_zV, pX11_mixed_380_zV, pX11_mixed_401_zV, pX11_mixed_422_zV, pX11_mixed_443_zV, pX11_mixed_489_zV, pX11_mixed_507_zV, pX11_mixed_523_zV, pX11_mixed_540_zV, pX11_mixed_613_zV, pX11_mixed_630_zV, pX11_mixed_651_zV, pX11_mixed_859_zV, if_true, if_false]
  have e3 : fX11_works__m_vxsat c (nI L) vt (nI st) (nI md) sat (nI d) (nI s1) (nI s2) 6 (nI 46) (nI S) (nI E) un zX z z = sat := by
    simp (decide := true) only [fX11_works__m_vxsat, fX11_mixed__m_vxsat, pX11_mixed_299_m_vxsat, pX11_mixed_319_m_vxsat, pX11_mixed_339_m_vxsat, pX11_mixed_359_m_vxsat, pX11_mixed_380_m_vxsat, pX11_mixed_401_m_vxsat, pX11_mixed_422_m_vxsat, pX11_mixed_443_m_vxsat, if_true, if_false]
  have e4 : fX11_works__zX (nI L) (nI st) (nI d) (nI s1) (nI s2) 6 (nI 46) (nI S) un zX z = zX := by
    simp (decide := true) only [fX11_works__zX, fX11_mixed__zX, pX11_mixed_523_zX, if_true, if_false]
  unfold WK
  rw [e1, e2, e3, e4]
  exact ill_WO h (kd_none (by decide)) vt sat c _ rf re r8 rg rl
theorem w6_47 {S E L st d s1 s2 md : Nat} {im un tb : Int32} {x z xS zX : Nat → Int32} (h : HY S E L st d s1 s2 md 6 im un tb x z xS zX) {vt : Int32} (hvt : fX11_vlmax vt = nI (16 * E / S)) (sat : Int32) (c : Int64) (rf re r8 rg : Int32) (rl : Int64) : WK S E L st d s1 s2 md 6 (nI 47) im un tb x z xS zX vt sat c rf re r8 rg rl := by
  have e1 : fX11_works (nI st) (nI d) (nI s1) (nI s2) 6 (nI 47) (nI S) (nI E) un = fX11_alike (nI d) (nI s1) (nI s2) 6 (nI S) (nI E) un := by
    simp (decide := true) only [fX11_works, fX11_mixed, pX11_mixed_299_S1, pX11_mixed_319_S1, pX11_mixed_339_S1, pX11_mixed_359_S1, pX11_mixed_380_S1, pX11_mixed_401_S1, pX11_mixed_422_S1, pX11_mixed_443_S1, pX11_mixed_489_S1, pX11_mixed_507_S1, pX11_mixed_523_S1, pX11_mixed_540_S1, pX11_mixed_613_S1, pX11_mixed_630_S1, pX11_mixed_651_S1, pX11_mixed_859_S1, if_true, if_false]
  have e2 : fX11_works__zV c (nI L) vt (nI st) (nI md) sat (nI d) (nI s1) (nI s2) 6 (nI 47) (nI S) (nI E) un zX z z = fX11_alike__zV c (nI L) vt (nI st) (nI md) sat (nI d) (nI s1) (nI s2) 6 (nI S) (nI E) un zX z z 33 := by
    simp (decide := true) only [fX11_works__zV, fX11_mixed__zV, pX11_mixed_299_zV, pX11_mixed_319_zV, pX11_mixed_339_zV, pX11_mixed_359_zV, pX11_mixed_380_zV, pX11_mixed_401_zV, pX11_mixed_422_zV, pX11_mixed_443_zV, pX11_mixed_489_zV, pX11_mixed_507_zV, pX11_mixed_523_zV, pX11_mixed_540_zV, pX11_mixed_613_zV, pX11_mixed_630_zV, pX11_mixed_651_zV, pX11_mixed_859_zV, if_true, if_false]
  have e3 : fX11_works__m_vxsat c (nI L) vt (nI st) (nI md) sat (nI d) (nI s1) (nI s2) 6 (nI 47) (nI S) (nI E) un zX z z = fX11_alike__m_vxsat c (nI L) vt (nI st) (nI md) sat (nI d) (nI s1) (nI s2) 6 (nI S) (nI E) un zX z z 33 := by
    simp (decide := true) only [fX11_works__m_vxsat, fX11_mixed__m_vxsat, pX11_mixed_299_m_vxsat, pX11_mixed_319_m_vxsat, pX11_mixed_339_m_vxsat, pX11_mixed_359_m_vxsat, pX11_mixed_380_m_vxsat, pX11_mixed_401_m_vxsat, pX11_mixed_422_m_vxsat, pX11_mixed_443_m_vxsat, if_true, if_false]
  have e4 : fX11_works__zX (nI L) (nI st) (nI d) (nI s1) (nI s2) 6 (nI 47) (nI S) un zX z = zX := by
    simp (decide := true) only [fX11_works__zX, fX11_mixed__zX, pX11_mixed_523_zX, if_true, if_false]
  unfold WK
  rw [e1, e2, e3, e4]
  exact alike_WO h (by decide) (by rw [kd_plain (by decide) (by decide) (show _ = (1 : Int32) by decide), mb_free (by decide)]) vt sat c _ rf re r8 rg rl
theorem w6_48 {S E L st d s1 s2 md : Nat} {im un tb : Int32} {x z xS zX : Nat → Int32} (h : HY S E L st d s1 s2 md 6 im un tb x z xS zX) {vt : Int32} (hvt : fX11_vlmax vt = nI (16 * E / S)) (sat : Int32) (c : Int64) (rf re r8 rg : Int32) (rl : Int64) : WK S E L st d s1 s2 md 6 (nI 48) im un tb x z xS zX vt sat c rf re r8 rg rl := by
  have e1 : fX11_works (nI st) (nI d) (nI s1) (nI s2) 6 (nI 48) (nI S) (nI E) un = fX11_widens (nI d) (nI s1) (nI s2) 6 (nI S) (nI E) un 0 := by
    simp (decide := true) only [fX11_works, fX11_mixed, pX11_mixed_299_S1, pX11_mixed_319_S1, pX11_mixed_339_S1, pX11_mixed_359_S1, pX11_mixed_380_S1, pX11_mixed_401_S1, pX11_mixed_422_S1, pX11_mixed_443_S1, pX11_mixed_489_S1, pX11_mixed_507_S1, pX11_mixed_523_S1, pX11_mixed_540_S1, pX11_mixed_613_S1, pX11_mixed_630_S1, pX11_mixed_651_S1, pX11_mixed_859_S1, if_true, if_false]
  have e2 : fX11_works__zV c (nI L) vt (nI st) (nI md) sat (nI d) (nI s1) (nI s2) 6 (nI 48) (nI S) (nI E) un zX z z = fX11_widens__zV c (nI L) vt (nI st) (nI d) (nI s1) (nI s2) 6 (nI S) (nI E) un zX z z 0 0 0 := by
    simp (decide := true) only [fX11_works__zV, fX11_mixed__zV, pX11_mixed_299_zV, pX11_mixed_319_zV, pX11_mixed_339_zV, pX11_mixed_359_zV, pX11_mixed_380_zV, pX11_mixed_401_zV, pX11_mixed_422_zV, pX11_mixed_443_zV, pX11_mixed_489_zV, pX11_mixed_507_zV, pX11_mixed_523_zV, pX11_mixed_540_zV, pX11_mixed_613_zV, pX11_mixed_630_zV, pX11_mixed_651_zV, pX11_mixed_859_zV, if_true, if_false]
  have e3 : fX11_works__m_vxsat c (nI L) vt (nI st) (nI md) sat (nI d) (nI s1) (nI s2) 6 (nI 48) (nI S) (nI E) un zX z z = sat := by
    simp (decide := true) only [fX11_works__m_vxsat, fX11_mixed__m_vxsat, pX11_mixed_299_m_vxsat, pX11_mixed_319_m_vxsat, pX11_mixed_339_m_vxsat, pX11_mixed_359_m_vxsat, pX11_mixed_380_m_vxsat, pX11_mixed_401_m_vxsat, pX11_mixed_422_m_vxsat, pX11_mixed_443_m_vxsat, if_true, if_false]
  have e4 : fX11_works__zX (nI L) (nI st) (nI d) (nI s1) (nI s2) 6 (nI 48) (nI S) un zX z = zX := by
    simp (decide := true) only [fX11_works__zX, fX11_mixed__zX, pX11_mixed_523_zX, if_true, if_false]
  unfold WK
  rw [e1, e2, e3, e4]
  exact widens_WO h (by decide) (by rw [kd_plain (by decide) (by decide) (show _ = (7 : Int32) by decide), mb_free (by decide)]) vt sat c _ rf re r8 rg rl
theorem w6_49 {S E L st d s1 s2 md : Nat} {im un tb : Int32} {x z xS zX : Nat → Int32} (h : HY S E L st d s1 s2 md 6 im un tb x z xS zX) {vt : Int32} (hvt : fX11_vlmax vt = nI (16 * E / S)) (sat : Int32) (c : Int64) (rf re r8 rg : Int32) (rl : Int64) : WK S E L st d s1 s2 md 6 (nI 49) im un tb x z xS zX vt sat c rf re r8 rg rl := by
  have e1 : fX11_works (nI st) (nI d) (nI s1) (nI s2) 6 (nI 49) (nI S) (nI E) un = fX11_widens (nI d) (nI s1) (nI s2) 6 (nI S) (nI E) un 0 := by
    simp (decide := true) only [fX11_works, fX11_mixed, pX11_mixed_299_S1, pX11_mixed_319_S1, pX11_mixed_339_S1, pX11_mixed_359_S1, pX11_mixed_380_S1, pX11_mixed_401_S1, pX11_mixed_422_S1, pX11_mixed_443_S1, pX11_mixed_489_S1, pX11_mixed_507_S1, pX11_mixed_523_S1, pX11_mixed_540_S1, pX11_mixed_613_S1, pX11_mixed_630_S1, pX11_mixed_651_S1, pX11_mixed_859_S1, if_true, if_false]
  have e2 : fX11_works__zV c (nI L) vt (nI st) (nI md) sat (nI d) (nI s1) (nI s2) 6 (nI 49) (nI S) (nI E) un zX z z = fX11_widens__zV c (nI L) vt (nI st) (nI d) (nI s1) (nI s2) 6 (nI S) (nI E) un zX z z 1 0 0 := by
    simp (decide := true) only [fX11_works__zV, fX11_mixed__zV, pX11_mixed_299_zV, pX11_mixed_319_zV, pX11_mixed_339_zV, pX11_mixed_359_zV, pX11_mixed_380_zV, pX11_mixed_401_zV, pX11_mixed_422_zV, pX11_mixed_443_zV, pX11_mixed_489_zV, pX11_mixed_507_zV, pX11_mixed_523_zV, pX11_mixed_540_zV, pX11_mixed_613_zV, pX11_mixed_630_zV, pX11_mixed_651_zV, pX11_mixed_859_zV, if_true, if_false]
  have e3 : fX11_works__m_vxsat c (nI L) vt (nI st) (nI md) sat (nI d) (nI s1) (nI s2) 6 (nI 49) (nI S) (nI E) un zX z z = sat := by
    simp (decide := true) only [fX11_works__m_vxsat, fX11_mixed__m_vxsat, pX11_mixed_299_m_vxsat, pX11_mixed_319_m_vxsat, pX11_mixed_339_m_vxsat, pX11_mixed_359_m_vxsat, pX11_mixed_380_m_vxsat, pX11_mixed_401_m_vxsat, pX11_mixed_422_m_vxsat, pX11_mixed_443_m_vxsat, if_true, if_false]
  have e4 : fX11_works__zX (nI L) (nI st) (nI d) (nI s1) (nI s2) 6 (nI 49) (nI S) un zX z = zX := by
    simp (decide := true) only [fX11_works__zX, fX11_mixed__zX, pX11_mixed_523_zX, if_true, if_false]
  unfold WK
  rw [e1, e2, e3, e4]
  exact widens_WO h (by decide) (by rw [kd_plain (by decide) (by decide) (show _ = (7 : Int32) by decide), mb_free (by decide)]) vt sat c _ rf re r8 rg rl
theorem w6_50 {S E L st d s1 s2 md : Nat} {im un tb : Int32} {x z xS zX : Nat → Int32} (h : HY S E L st d s1 s2 md 6 im un tb x z xS zX) {vt : Int32} (hvt : fX11_vlmax vt = nI (16 * E / S)) (sat : Int32) (c : Int64) (rf re r8 rg : Int32) (rl : Int64) : WK S E L st d s1 s2 md 6 (nI 50) im un tb x z xS zX vt sat c rf re r8 rg rl := by
  have e1 : fX11_works (nI st) (nI d) (nI s1) (nI s2) 6 (nI 50) (nI S) (nI E) un = fX11_widens (nI d) (nI s1) (nI s2) 6 (nI S) (nI E) un 0 := by
    simp (decide := true) only [fX11_works, fX11_mixed, pX11_mixed_299_S1, pX11_mixed_319_S1, pX11_mixed_339_S1, pX11_mixed_359_S1, pX11_mixed_380_S1, pX11_mixed_401_S1, pX11_mixed_422_S1, pX11_mixed_443_S1, pX11_mixed_489_S1, pX11_mixed_507_S1, pX11_mixed_523_S1, pX11_mixed_540_S1, pX11_mixed_613_S1, pX11_mixed_630_S1, pX11_mixed_651_S1, pX11_mixed_859_S1, if_true, if_false]
  have e2 : fX11_works__zV c (nI L) vt (nI st) (nI md) sat (nI d) (nI s1) (nI s2) 6 (nI 50) (nI S) (nI E) un zX z z = fX11_widens__zV c (nI L) vt (nI st) (nI d) (nI s1) (nI s2) 6 (nI S) (nI E) un zX z z 0 1 0 := by
    simp (decide := true) only [fX11_works__zV, fX11_mixed__zV, pX11_mixed_299_zV, pX11_mixed_319_zV, pX11_mixed_339_zV, pX11_mixed_359_zV, pX11_mixed_380_zV, pX11_mixed_401_zV, pX11_mixed_422_zV, pX11_mixed_443_zV, pX11_mixed_489_zV, pX11_mixed_507_zV, pX11_mixed_523_zV, pX11_mixed_540_zV, pX11_mixed_613_zV, pX11_mixed_630_zV, pX11_mixed_651_zV, pX11_mixed_859_zV, if_true, if_false]
  have e3 : fX11_works__m_vxsat c (nI L) vt (nI st) (nI md) sat (nI d) (nI s1) (nI s2) 6 (nI 50) (nI S) (nI E) un zX z z = sat := by
    simp (decide := true) only [fX11_works__m_vxsat, fX11_mixed__m_vxsat, pX11_mixed_299_m_vxsat, pX11_mixed_319_m_vxsat, pX11_mixed_339_m_vxsat, pX11_mixed_359_m_vxsat, pX11_mixed_380_m_vxsat, pX11_mixed_401_m_vxsat, pX11_mixed_422_m_vxsat, pX11_mixed_443_m_vxsat, if_true, if_false]
  have e4 : fX11_works__zX (nI L) (nI st) (nI d) (nI s1) (nI s2) 6 (nI 50) (nI S) un zX z = zX := by
    simp (decide := true) only [fX11_works__zX, fX11_mixed__zX, pX11_mixed_523_zX, if_true, if_false]
  unfold WK
  rw [e1, e2, e3, e4]
  exact widens_WO h (by decide) (by rw [kd_plain (by decide) (by decide) (show _ = (7 : Int32) by decide), mb_free (by decide)]) vt sat c _ rf re r8 rg rl
theorem w6_51 {S E L st d s1 s2 md : Nat} {im un tb : Int32} {x z xS zX : Nat → Int32} (h : HY S E L st d s1 s2 md 6 im un tb x z xS zX) {vt : Int32} (hvt : fX11_vlmax vt = nI (16 * E / S)) (sat : Int32) (c : Int64) (rf re r8 rg : Int32) (rl : Int64) : WK S E L st d s1 s2 md 6 (nI 51) im un tb x z xS zX vt sat c rf re r8 rg rl := by
  have e1 : fX11_works (nI st) (nI d) (nI s1) (nI s2) 6 (nI 51) (nI S) (nI E) un = fX11_widens (nI d) (nI s1) (nI s2) 6 (nI S) (nI E) un 0 := by
    simp (decide := true) only [fX11_works, fX11_mixed, pX11_mixed_299_S1, pX11_mixed_319_S1, pX11_mixed_339_S1, pX11_mixed_359_S1, pX11_mixed_380_S1, pX11_mixed_401_S1, pX11_mixed_422_S1, pX11_mixed_443_S1, pX11_mixed_489_S1, pX11_mixed_507_S1, pX11_mixed_523_S1, pX11_mixed_540_S1, pX11_mixed_613_S1, pX11_mixed_630_S1, pX11_mixed_651_S1, pX11_mixed_859_S1, if_true, if_false]
  have e2 : fX11_works__zV c (nI L) vt (nI st) (nI md) sat (nI d) (nI s1) (nI s2) 6 (nI 51) (nI S) (nI E) un zX z z = fX11_widens__zV c (nI L) vt (nI st) (nI d) (nI s1) (nI s2) 6 (nI S) (nI E) un zX z z 1 1 0 := by
    simp (decide := true) only [fX11_works__zV, fX11_mixed__zV, pX11_mixed_299_zV, pX11_mixed_319_zV, pX11_mixed_339_zV, pX11_mixed_359_zV, pX11_mixed_380_zV, pX11_mixed_401_zV, pX11_mixed_422_zV, pX11_mixed_443_zV, pX11_mixed_489_zV, pX11_mixed_507_zV, pX11_mixed_523_zV, pX11_mixed_540_zV, pX11_mixed_613_zV, pX11_mixed_630_zV, pX11_mixed_651_zV, pX11_mixed_859_zV, if_true, if_false]
  have e3 : fX11_works__m_vxsat c (nI L) vt (nI st) (nI md) sat (nI d) (nI s1) (nI s2) 6 (nI 51) (nI S) (nI E) un zX z z = sat := by
    simp (decide := true) only [fX11_works__m_vxsat, fX11_mixed__m_vxsat, pX11_mixed_299_m_vxsat, pX11_mixed_319_m_vxsat, pX11_mixed_339_m_vxsat, pX11_mixed_359_m_vxsat, pX11_mixed_380_m_vxsat, pX11_mixed_401_m_vxsat, pX11_mixed_422_m_vxsat, pX11_mixed_443_m_vxsat, if_true, if_false]
  have e4 : fX11_works__zX (nI L) (nI st) (nI d) (nI s1) (nI s2) 6 (nI 51) (nI S) un zX z = zX := by
    simp (decide := true) only [fX11_works__zX, fX11_mixed__zX, pX11_mixed_523_zX, if_true, if_false]
  unfold WK
  rw [e1, e2, e3, e4]
  exact widens_WO h (by decide) (by rw [kd_plain (by decide) (by decide) (show _ = (7 : Int32) by decide), mb_free (by decide)]) vt sat c _ rf re r8 rg rl
theorem w6_52 {S E L st d s1 s2 md : Nat} {im un tb : Int32} {x z xS zX : Nat → Int32} (h : HY S E L st d s1 s2 md 6 im un tb x z xS zX) {vt : Int32} (hvt : fX11_vlmax vt = nI (16 * E / S)) (sat : Int32) (c : Int64) (rf re r8 rg : Int32) (rl : Int64) : WK S E L st d s1 s2 md 6 (nI 52) im un tb x z xS zX vt sat c rf re r8 rg rl := by
  have e1 : fX11_works (nI st) (nI d) (nI s1) (nI s2) 6 (nI 52) (nI S) (nI E) un = fX11_widens (nI d) (nI s1) (nI s2) 6 (nI S) (nI E) un 1 := by
    simp (decide := true) only [fX11_works, fX11_mixed, pX11_mixed_299_S1, pX11_mixed_319_S1, pX11_mixed_339_S1, pX11_mixed_359_S1, pX11_mixed_380_S1, pX11_mixed_401_S1, pX11_mixed_422_S1, pX11_mixed_443_S1, pX11_mixed_489_S1, pX11_mixed_507_S1, pX11_mixed_523_S1, pX11_mixed_540_S1, pX11_mixed_613_S1, pX11_mixed_630_S1, pX11_mixed_651_S1, pX11_mixed_859_S1, if_true, if_false]
  have e2 : fX11_works__zV c (nI L) vt (nI st) (nI md) sat (nI d) (nI s1) (nI s2) 6 (nI 52) (nI S) (nI E) un zX z z = fX11_widens__zV c (nI L) vt (nI st) (nI d) (nI s1) (nI s2) 6 (nI S) (nI E) un zX z z 0 0 1 := by
    simp (decide := true) only [fX11_works__zV, fX11_mixed__zV, pX11_mixed_299_zV, pX11_mixed_319_zV, pX11_mixed_339_zV, pX11_mixed_359_zV, pX11_mixed_380_zV, pX11_mixed_401_zV, pX11_mixed_422_zV, pX11_mixed_443_zV, pX11_mixed_489_zV, pX11_mixed_507_zV, pX11_mixed_523_zV, pX11_mixed_540_zV, pX11_mixed_613_zV, pX11_mixed_630_zV, pX11_mixed_651_zV, pX11_mixed_859_zV, if_true, if_false]
  have e3 : fX11_works__m_vxsat c (nI L) vt (nI st) (nI md) sat (nI d) (nI s1) (nI s2) 6 (nI 52) (nI S) (nI E) un zX z z = sat := by
    simp (decide := true) only [fX11_works__m_vxsat, fX11_mixed__m_vxsat, pX11_mixed_299_m_vxsat, pX11_mixed_319_m_vxsat, pX11_mixed_339_m_vxsat, pX11_mixed_359_m_vxsat, pX11_mixed_380_m_vxsat, pX11_mixed_401_m_vxsat, pX11_mixed_422_m_vxsat, pX11_mixed_443_m_vxsat, if_true, if_false]
  have e4 : fX11_works__zX (nI L) (nI st) (nI d) (nI s1) (nI s2) 6 (nI 52) (nI S) un zX z = zX := by
    simp (decide := true) only [fX11_works__zX, fX11_mixed__zX, pX11_mixed_523_zX, if_true, if_false]
  unfold WK
  rw [e1, e2, e3, e4]
  exact widensW_WO h (by decide) (by rw [kd_plain (by decide) (by decide) (show _ = (8 : Int32) by decide), mb_free (by decide)]) vt sat c _ rf re r8 rg rl
theorem w6_53 {S E L st d s1 s2 md : Nat} {im un tb : Int32} {x z xS zX : Nat → Int32} (h : HY S E L st d s1 s2 md 6 im un tb x z xS zX) {vt : Int32} (hvt : fX11_vlmax vt = nI (16 * E / S)) (sat : Int32) (c : Int64) (rf re r8 rg : Int32) (rl : Int64) : WK S E L st d s1 s2 md 6 (nI 53) im un tb x z xS zX vt sat c rf re r8 rg rl := by
  have e1 : fX11_works (nI st) (nI d) (nI s1) (nI s2) 6 (nI 53) (nI S) (nI E) un = fX11_widens (nI d) (nI s1) (nI s2) 6 (nI S) (nI E) un 1 := by
    simp (decide := true) only [fX11_works, fX11_mixed, pX11_mixed_299_S1, pX11_mixed_319_S1, pX11_mixed_339_S1, pX11_mixed_359_S1, pX11_mixed_380_S1, pX11_mixed_401_S1, pX11_mixed_422_S1, pX11_mixed_443_S1, pX11_mixed_489_S1, pX11_mixed_507_S1, pX11_mixed_523_S1, pX11_mixed_540_S1, pX11_mixed_613_S1, pX11_mixed_630_S1, pX11_mixed_651_S1, pX11_mixed_859_S1, if_true, if_false]
  have e2 : fX11_works__zV c (nI L) vt (nI st) (nI md) sat (nI d) (nI s1) (nI s2) 6 (nI 53) (nI S) (nI E) un zX z z = fX11_widens__zV c (nI L) vt (nI st) (nI d) (nI s1) (nI s2) 6 (nI S) (nI E) un zX z z 1 0 1 := by
    simp (decide := true) only [fX11_works__zV, fX11_mixed__zV, pX11_mixed_299_zV, pX11_mixed_319_zV, pX11_mixed_339_zV, pX11_mixed_359_zV, pX11_mixed_380_zV, pX11_mixed_401_zV, pX11_mixed_422_zV, pX11_mixed_443_zV, pX11_mixed_489_zV, pX11_mixed_507_zV, pX11_mixed_523_zV, pX11_mixed_540_zV, pX11_mixed_613_zV, pX11_mixed_630_zV, pX11_mixed_651_zV, pX11_mixed_859_zV, if_true, if_false]
  have e3 : fX11_works__m_vxsat c (nI L) vt (nI st) (nI md) sat (nI d) (nI s1) (nI s2) 6 (nI 53) (nI S) (nI E) un zX z z = sat := by
    simp (decide := true) only [fX11_works__m_vxsat, fX11_mixed__m_vxsat, pX11_mixed_299_m_vxsat, pX11_mixed_319_m_vxsat, pX11_mixed_339_m_vxsat, pX11_mixed_359_m_vxsat, pX11_mixed_380_m_vxsat, pX11_mixed_401_m_vxsat, pX11_mixed_422_m_vxsat, pX11_mixed_443_m_vxsat, if_true, if_false]
  have e4 : fX11_works__zX (nI L) (nI st) (nI d) (nI s1) (nI s2) 6 (nI 53) (nI S) un zX z = zX := by
    simp (decide := true) only [fX11_works__zX, fX11_mixed__zX, pX11_mixed_523_zX, if_true, if_false]
  unfold WK
  rw [e1, e2, e3, e4]
  exact widensW_WO h (by decide) (by rw [kd_plain (by decide) (by decide) (show _ = (8 : Int32) by decide), mb_free (by decide)]) vt sat c _ rf re r8 rg rl
theorem w6_54 {S E L st d s1 s2 md : Nat} {im un tb : Int32} {x z xS zX : Nat → Int32} (h : HY S E L st d s1 s2 md 6 im un tb x z xS zX) {vt : Int32} (hvt : fX11_vlmax vt = nI (16 * E / S)) (sat : Int32) (c : Int64) (rf re r8 rg : Int32) (rl : Int64) : WK S E L st d s1 s2 md 6 (nI 54) im un tb x z xS zX vt sat c rf re r8 rg rl := by
  have e1 : fX11_works (nI st) (nI d) (nI s1) (nI s2) 6 (nI 54) (nI S) (nI E) un = fX11_widens (nI d) (nI s1) (nI s2) 6 (nI S) (nI E) un 1 := by
    simp (decide := true) only [fX11_works, fX11_mixed, pX11_mixed_299_S1, pX11_mixed_319_S1, pX11_mixed_339_S1, pX11_mixed_359_S1, pX11_mixed_380_S1, pX11_mixed_401_S1, pX11_mixed_422_S1, pX11_mixed_443_S1, pX11_mixed_489_S1, pX11_mixed_507_S1, pX11_mixed_523_S1, pX11_mixed_540_S1, pX11_mixed_613_S1, pX11_mixed_630_S1, pX11_mixed_651_S1, pX11_mixed_859_S1, if_true, if_false]
  have e2 : fX11_works__zV c (nI L) vt (nI st) (nI md) sat (nI d) (nI s1) (nI s2) 6 (nI 54) (nI S) (nI E) un zX z z = fX11_widens__zV c (nI L) vt (nI st) (nI d) (nI s1) (nI s2) 6 (nI S) (nI E) un zX z z 0 1 1 := by
    simp (decide := true) only [fX11_works__zV, fX11_mixed__zV, pX11_mixed_299_zV, pX11_mixed_319_zV, pX11_mixed_339_zV, pX11_mixed_359_zV, pX11_mixed_380_zV, pX11_mixed_401_zV, pX11_mixed_422_zV, pX11_mixed_443_zV, pX11_mixed_489_zV, pX11_mixed_507_zV, pX11_mixed_523_zV, pX11_mixed_540_zV, pX11_mixed_613_zV, pX11_mixed_630_zV, pX11_mixed_651_zV, pX11_mixed_859_zV, if_true, if_false]
  have e3 : fX11_works__m_vxsat c (nI L) vt (nI st) (nI md) sat (nI d) (nI s1) (nI s2) 6 (nI 54) (nI S) (nI E) un zX z z = sat := by
    simp (decide := true) only [fX11_works__m_vxsat, fX11_mixed__m_vxsat, pX11_mixed_299_m_vxsat, pX11_mixed_319_m_vxsat, pX11_mixed_339_m_vxsat, pX11_mixed_359_m_vxsat, pX11_mixed_380_m_vxsat, pX11_mixed_401_m_vxsat, pX11_mixed_422_m_vxsat, pX11_mixed_443_m_vxsat, if_true, if_false]
  have e4 : fX11_works__zX (nI L) (nI st) (nI d) (nI s1) (nI s2) 6 (nI 54) (nI S) un zX z = zX := by
    simp (decide := true) only [fX11_works__zX, fX11_mixed__zX, pX11_mixed_523_zX, if_true, if_false]
  unfold WK
  rw [e1, e2, e3, e4]
  exact widensW_WO h (by decide) (by rw [kd_plain (by decide) (by decide) (show _ = (8 : Int32) by decide), mb_free (by decide)]) vt sat c _ rf re r8 rg rl
theorem w6_55 {S E L st d s1 s2 md : Nat} {im un tb : Int32} {x z xS zX : Nat → Int32} (h : HY S E L st d s1 s2 md 6 im un tb x z xS zX) {vt : Int32} (hvt : fX11_vlmax vt = nI (16 * E / S)) (sat : Int32) (c : Int64) (rf re r8 rg : Int32) (rl : Int64) : WK S E L st d s1 s2 md 6 (nI 55) im un tb x z xS zX vt sat c rf re r8 rg rl := by
  have e1 : fX11_works (nI st) (nI d) (nI s1) (nI s2) 6 (nI 55) (nI S) (nI E) un = fX11_widens (nI d) (nI s1) (nI s2) 6 (nI S) (nI E) un 1 := by
    simp (decide := true) only [fX11_works, fX11_mixed, pX11_mixed_299_S1, pX11_mixed_319_S1, pX11_mixed_339_S1, pX11_mixed_359_S1, pX11_mixed_380_S1, pX11_mixed_401_S1, pX11_mixed_422_S1, pX11_mixed_443_S1, pX11_mixed_489_S1, pX11_mixed_507_S1, pX11_mixed_523_S1, pX11_mixed_540_S1, pX11_mixed_613_S1, pX11_mixed_630_S1, pX11_mixed_651_S1, pX11_mixed_859_S1, if_true, if_false]
  have e2 : fX11_works__zV c (nI L) vt (nI st) (nI md) sat (nI d) (nI s1) (nI s2) 6 (nI 55) (nI S) (nI E) un zX z z = fX11_widens__zV c (nI L) vt (nI st) (nI d) (nI s1) (nI s2) 6 (nI S) (nI E) un zX z z 1 1 1 := by
    simp (decide := true) only [fX11_works__zV, fX11_mixed__zV, pX11_mixed_299_zV, pX11_mixed_319_zV, pX11_mixed_339_zV, pX11_mixed_359_zV, pX11_mixed_380_zV, pX11_mixed_401_zV, pX11_mixed_422_zV, pX11_mixed_443_zV, pX11_mixed_489_zV, pX11_mixed_507_zV, pX11_mixed_523_zV, pX11_mixed_540_zV, pX11_mixed_613_zV, pX11_mixed_630_zV, pX11_mixed_651_zV, pX11_mixed_859_zV, if_true, if_false]
  have e3 : fX11_works__m_vxsat c (nI L) vt (nI st) (nI md) sat (nI d) (nI s1) (nI s2) 6 (nI 55) (nI S) (nI E) un zX z z = sat := by
    simp (decide := true) only [fX11_works__m_vxsat, fX11_mixed__m_vxsat, pX11_mixed_299_m_vxsat, pX11_mixed_319_m_vxsat, pX11_mixed_339_m_vxsat, pX11_mixed_359_m_vxsat, pX11_mixed_380_m_vxsat, pX11_mixed_401_m_vxsat, pX11_mixed_422_m_vxsat, pX11_mixed_443_m_vxsat, if_true, if_false]
  have e4 : fX11_works__zX (nI L) (nI st) (nI d) (nI s1) (nI s2) 6 (nI 55) (nI S) un zX z = zX := by
    simp (decide := true) only [fX11_works__zX, fX11_mixed__zX, pX11_mixed_523_zX, if_true, if_false]
  unfold WK
  rw [e1, e2, e3, e4]
  exact widensW_WO h (by decide) (by rw [kd_plain (by decide) (by decide) (show _ = (8 : Int32) by decide), mb_free (by decide)]) vt sat c _ rf re r8 rg rl
theorem w6_56 {S E L st d s1 s2 md : Nat} {im un tb : Int32} {x z xS zX : Nat → Int32} (h : HY S E L st d s1 s2 md 6 im un tb x z xS zX) {vt : Int32} (hvt : fX11_vlmax vt = nI (16 * E / S)) (sat : Int32) (c : Int64) (rf re r8 rg : Int32) (rl : Int64) : WK S E L st d s1 s2 md 6 (nI 56) im un tb x z xS zX vt sat c rf re r8 rg rl := by
  have e1 : fX11_works (nI st) (nI d) (nI s1) (nI s2) 6 (nI 56) (nI S) (nI E) un = fX11_multiplies (nI d) (nI s1) (nI s2) 6 (nI S) (nI E) un := by
    simp (decide := true) only [fX11_works, fX11_mixed, pX11_mixed_299_S1, pX11_mixed_319_S1, pX11_mixed_339_S1, pX11_mixed_359_S1, pX11_mixed_380_S1, pX11_mixed_401_S1, pX11_mixed_422_S1, pX11_mixed_443_S1, pX11_mixed_489_S1, pX11_mixed_507_S1, pX11_mixed_523_S1, pX11_mixed_540_S1, pX11_mixed_613_S1, pX11_mixed_630_S1, pX11_mixed_651_S1, pX11_mixed_859_S1, if_true, if_false]
  have e2 : fX11_works__zV c (nI L) vt (nI st) (nI md) sat (nI d) (nI s1) (nI s2) 6 (nI 56) (nI S) (nI E) un zX z z = fX11_multiplies__zV c (nI L) vt (nI st) (nI d) (nI s1) (nI s2) 6 (nI S) (nI E) un zX z z 0 0 0 := by
    simp (decide := true) only [fX11_works__zV, fX11_mixed__zV, pX11_mixed_299_zV, pX11_mixed_319_zV, pX11_mixed_339_zV, pX11_mixed_359_zV, pX11_mixed_380_zV, pX11_mixed_401_zV, pX11_mixed_422_zV, pX11_mixed_443_zV, pX11_mixed_489_zV, pX11_mixed_507_zV, pX11_mixed_523_zV, pX11_mixed_540_zV, pX11_mixed_613_zV, pX11_mixed_630_zV, pX11_mixed_651_zV, pX11_mixed_859_zV, if_true, if_false]
  have e3 : fX11_works__m_vxsat c (nI L) vt (nI st) (nI md) sat (nI d) (nI s1) (nI s2) 6 (nI 56) (nI S) (nI E) un zX z z = sat := by
    simp (decide := true) only [fX11_works__m_vxsat, fX11_mixed__m_vxsat, pX11_mixed_299_m_vxsat, pX11_mixed_319_m_vxsat, pX11_mixed_339_m_vxsat, pX11_mixed_359_m_vxsat, pX11_mixed_380_m_vxsat, pX11_mixed_401_m_vxsat, pX11_mixed_422_m_vxsat, pX11_mixed_443_m_vxsat, if_true, if_false]
  have e4 : fX11_works__zX (nI L) (nI st) (nI d) (nI s1) (nI s2) 6 (nI 56) (nI S) un zX z = zX := by
    simp (decide := true) only [fX11_works__zX, fX11_mixed__zX, pX11_mixed_523_zX, if_true, if_false]
  unfold WK
  rw [e1, e2, e3, e4]
  exact multiplies_WO h (by decide) (by rw [kd_plain (by decide) (by decide) (show _ = (7 : Int32) by decide), mb_free (by decide)]) vt sat c _ rf re r8 rg rl
theorem w6_57 {S E L st d s1 s2 md : Nat} {im un tb : Int32} {x z xS zX : Nat → Int32} (h : HY S E L st d s1 s2 md 6 im un tb x z xS zX) {vt : Int32} (hvt : fX11_vlmax vt = nI (16 * E / S)) (sat : Int32) (c : Int64) (rf re r8 rg : Int32) (rl : Int64) : WK S E L st d s1 s2 md 6 (nI 57) im un tb x z xS zX vt sat c rf re r8 rg rl := by
  have e1 : fX11_works (nI st) (nI d) (nI s1) (nI s2) 6 (nI 57) (nI S) (nI E) un = 0 := by
    simp (decide := true) only [fX11_works, fX11_mixed, pX11_mixed_299_S1, pX11_mixed_319_S1, pX11_mixed_339_S1, pX11_mixed_359_S1, pX11_mixed_380_S1, pX11_mixed_401_S1, pX11_mixed_422_S1, pX11_mixed_443_S1, pX11_mixed_489_S1, pX11_mixed_507_S1, pX11_mixed_523_S1, pX11_mixed_540_S1, pX11_mixed_613_S1, pX11_mixed_630_S1, pX11_mixed_651_S1, pX11_mixed_859_S1, if_true, if_false]
  have e2 : fX11_works__zV c (nI L) vt (nI st) (nI md) sat (nI d) (nI s1) (nI s2) 6 (nI 57) (nI S) (nI E) un zX z z = z := by
    simp (decide := true) only [fX11_works__zV, fX11_mixed__zV, pX11_mixed_299_zV, pX11_mixed_319_zV, pX11_mixed_339_zV, pX11_mixed_359_zV, pX11_mixed_380_zV, pX11_mixed_401_zV, pX11_mixed_422_zV, pX11_mixed_443_zV, pX11_mixed_489_zV, pX11_mixed_507_zV, pX11_mixed_523_zV, pX11_mixed_540_zV, pX11_mixed_613_zV, pX11_mixed_630_zV, pX11_mixed_651_zV, pX11_mixed_859_zV, if_true, if_false]
  have e3 : fX11_works__m_vxsat c (nI L) vt (nI st) (nI md) sat (nI d) (nI s1) (nI s2) 6 (nI 57) (nI S) (nI E) un zX z z = sat := by
    simp (decide := true) only [fX11_works__m_vxsat, fX11_mixed__m_vxsat, pX11_mixed_299_m_vxsat, pX11_mixed_319_m_vxsat, pX11_mixed_339_m_vxsat, pX11_mixed_359_m_vxsat, pX11_mixed_380_m_vxsat, pX11_mixed_401_m_vxsat, pX11_mixed_422_m_vxsat, pX11_mixed_443_m_vxsat, if_true, if_false]
  have e4 : fX11_works__zX (nI L) (nI st) (nI d) (nI s1) (nI s2) 6 (nI 57) (nI S) un zX z = zX := by
    simp (decide := true) only [fX11_works__zX, fX11_mixed__zX, pX11_mixed_523_zX, if_true, if_false]
  unfold WK
  rw [e1, e2, e3, e4]
  exact ill_WO h (kd_none (by decide)) vt sat c _ rf re r8 rg rl
theorem w6_58 {S E L st d s1 s2 md : Nat} {im un tb : Int32} {x z xS zX : Nat → Int32} (h : HY S E L st d s1 s2 md 6 im un tb x z xS zX) {vt : Int32} (hvt : fX11_vlmax vt = nI (16 * E / S)) (sat : Int32) (c : Int64) (rf re r8 rg : Int32) (rl : Int64) : WK S E L st d s1 s2 md 6 (nI 58) im un tb x z xS zX vt sat c rf re r8 rg rl := by
  have e1 : fX11_works (nI st) (nI d) (nI s1) (nI s2) 6 (nI 58) (nI S) (nI E) un = fX11_multiplies (nI d) (nI s1) (nI s2) 6 (nI S) (nI E) un := by
    simp (decide := true) only [fX11_works, fX11_mixed, pX11_mixed_299_S1, pX11_mixed_319_S1, pX11_mixed_339_S1, pX11_mixed_359_S1, pX11_mixed_380_S1, pX11_mixed_401_S1, pX11_mixed_422_S1, pX11_mixed_443_S1, pX11_mixed_489_S1, pX11_mixed_507_S1, pX11_mixed_523_S1, pX11_mixed_540_S1, pX11_mixed_613_S1, pX11_mixed_630_S1, pX11_mixed_651_S1, pX11_mixed_859_S1, if_true, if_false]
  have e2 : fX11_works__zV c (nI L) vt (nI st) (nI md) sat (nI d) (nI s1) (nI s2) 6 (nI 58) (nI S) (nI E) un zX z z = fX11_multiplies__zV c (nI L) vt (nI st) (nI d) (nI s1) (nI s2) 6 (nI S) (nI E) un zX z z 1 0 0 := by
    simp (decide := true) only [fX11_works__zV, fX11_mixed__zV, pX11_mixed_299_zV, pX11_mixed_319_zV, pX11_mixed_339_zV, pX11_mixed_359_zV, pX11_mixed_380_zV, pX11_mixed_401_zV, pX11_mixed_422_zV, pX11_mixed_443_zV, pX11_mixed_489_zV, pX11_mixed_507_zV, pX11_mixed_523_zV, pX11_mixed_540_zV, pX11_mixed_613_zV, pX11_mixed_630_zV, pX11_mixed_651_zV, pX11_mixed_859_zV, if_true, if_false]
  have e3 : fX11_works__m_vxsat c (nI L) vt (nI st) (nI md) sat (nI d) (nI s1) (nI s2) 6 (nI 58) (nI S) (nI E) un zX z z = sat := by
    simp (decide := true) only [fX11_works__m_vxsat, fX11_mixed__m_vxsat, pX11_mixed_299_m_vxsat, pX11_mixed_319_m_vxsat, pX11_mixed_339_m_vxsat, pX11_mixed_359_m_vxsat, pX11_mixed_380_m_vxsat, pX11_mixed_401_m_vxsat, pX11_mixed_422_m_vxsat, pX11_mixed_443_m_vxsat, if_true, if_false]
  have e4 : fX11_works__zX (nI L) (nI st) (nI d) (nI s1) (nI s2) 6 (nI 58) (nI S) un zX z = zX := by
    simp (decide := true) only [fX11_works__zX, fX11_mixed__zX, pX11_mixed_523_zX, if_true, if_false]
  unfold WK
  rw [e1, e2, e3, e4]
  exact multiplies_WO h (by decide) (by rw [kd_plain (by decide) (by decide) (show _ = (7 : Int32) by decide), mb_free (by decide)]) vt sat c _ rf re r8 rg rl
theorem w6_59 {S E L st d s1 s2 md : Nat} {im un tb : Int32} {x z xS zX : Nat → Int32} (h : HY S E L st d s1 s2 md 6 im un tb x z xS zX) {vt : Int32} (hvt : fX11_vlmax vt = nI (16 * E / S)) (sat : Int32) (c : Int64) (rf re r8 rg : Int32) (rl : Int64) : WK S E L st d s1 s2 md 6 (nI 59) im un tb x z xS zX vt sat c rf re r8 rg rl := by
  have e1 : fX11_works (nI st) (nI d) (nI s1) (nI s2) 6 (nI 59) (nI S) (nI E) un = fX11_multiplies (nI d) (nI s1) (nI s2) 6 (nI S) (nI E) un := by
    simp (decide := true) only [fX11_works, fX11_mixed, pX11_mixed_299_S1, pX11_mixed_319_S1, pX11_mixed_339_S1, pX11_mixed_359_S1, pX11_mixed_380_S1, pX11_mixed_401_S1, pX11_mixed_422_S1, pX11_mixed_443_S1, pX11_mixed_489_S1, pX11_mixed_507_S1, pX11_mixed_523_S1, pX11_mixed_540_S1, pX11_mixed_613_S1, pX11_mixed_630_S1, pX11_mixed_651_S1, pX11_mixed_859_S1, if_true, if_false]
  have e2 : fX11_works__zV c (nI L) vt (nI st) (nI md) sat (nI d) (nI s1) (nI s2) 6 (nI 59) (nI S) (nI E) un zX z z = fX11_multiplies__zV c (nI L) vt (nI st) (nI d) (nI s1) (nI s2) 6 (nI S) (nI E) un zX z z 1 1 0 := by
    simp (decide := true) only [fX11_works__zV, fX11_mixed__zV, pX11_mixed_299_zV, pX11_mixed_319_zV, pX11_mixed_339_zV, pX11_mixed_359_zV, pX11_mixed_380_zV, pX11_mixed_401_zV, pX11_mixed_422_zV, pX11_mixed_443_zV, pX11_mixed_489_zV, pX11_mixed_507_zV, pX11_mixed_523_zV, pX11_mixed_540_zV, pX11_mixed_613_zV, pX11_mixed_630_zV, pX11_mixed_651_zV, pX11_mixed_859_zV, if_true, if_false]
  have e3 : fX11_works__m_vxsat c (nI L) vt (nI st) (nI md) sat (nI d) (nI s1) (nI s2) 6 (nI 59) (nI S) (nI E) un zX z z = sat := by
    simp (decide := true) only [fX11_works__m_vxsat, fX11_mixed__m_vxsat, pX11_mixed_299_m_vxsat, pX11_mixed_319_m_vxsat, pX11_mixed_339_m_vxsat, pX11_mixed_359_m_vxsat, pX11_mixed_380_m_vxsat, pX11_mixed_401_m_vxsat, pX11_mixed_422_m_vxsat, pX11_mixed_443_m_vxsat, if_true, if_false]
  have e4 : fX11_works__zX (nI L) (nI st) (nI d) (nI s1) (nI s2) 6 (nI 59) (nI S) un zX z = zX := by
    simp (decide := true) only [fX11_works__zX, fX11_mixed__zX, pX11_mixed_523_zX, if_true, if_false]
  unfold WK
  rw [e1, e2, e3, e4]
  exact multiplies_WO h (by decide) (by rw [kd_plain (by decide) (by decide) (show _ = (7 : Int32) by decide), mb_free (by decide)]) vt sat c _ rf re r8 rg rl
theorem w6_60 {S E L st d s1 s2 md : Nat} {im un tb : Int32} {x z xS zX : Nat → Int32} (h : HY S E L st d s1 s2 md 6 im un tb x z xS zX) {vt : Int32} (hvt : fX11_vlmax vt = nI (16 * E / S)) (sat : Int32) (c : Int64) (rf re r8 rg : Int32) (rl : Int64) : WK S E L st d s1 s2 md 6 (nI 60) im un tb x z xS zX vt sat c rf re r8 rg rl := by
  have e1 : fX11_works (nI st) (nI d) (nI s1) (nI s2) 6 (nI 60) (nI S) (nI E) un = fX11_multiplies (nI d) (nI s1) (nI s2) 6 (nI S) (nI E) un := by
    simp (decide := true) only [fX11_works, fX11_mixed, pX11_mixed_299_S1, pX11_mixed_319_S1, pX11_mixed_339_S1, pX11_mixed_359_S1, pX11_mixed_380_S1, pX11_mixed_401_S1, pX11_mixed_422_S1, pX11_mixed_443_S1, pX11_mixed_489_S1, pX11_mixed_507_S1, pX11_mixed_523_S1, pX11_mixed_540_S1, pX11_mixed_613_S1, pX11_mixed_630_S1, pX11_mixed_651_S1, pX11_mixed_859_S1, if_true, if_false]
  have e2 : fX11_works__zV c (nI L) vt (nI st) (nI md) sat (nI d) (nI s1) (nI s2) 6 (nI 60) (nI S) (nI E) un zX z z = fX11_multiplies__zV c (nI L) vt (nI st) (nI d) (nI s1) (nI s2) 6 (nI S) (nI E) un zX z z 0 0 1 := by
    simp (decide := true) only [fX11_works__zV, fX11_mixed__zV, pX11_mixed_299_zV, pX11_mixed_319_zV, pX11_mixed_339_zV, pX11_mixed_359_zV, pX11_mixed_380_zV, pX11_mixed_401_zV, pX11_mixed_422_zV, pX11_mixed_443_zV, pX11_mixed_489_zV, pX11_mixed_507_zV, pX11_mixed_523_zV, pX11_mixed_540_zV, pX11_mixed_613_zV, pX11_mixed_630_zV, pX11_mixed_651_zV, pX11_mixed_859_zV, if_true, if_false]
  have e3 : fX11_works__m_vxsat c (nI L) vt (nI st) (nI md) sat (nI d) (nI s1) (nI s2) 6 (nI 60) (nI S) (nI E) un zX z z = sat := by
    simp (decide := true) only [fX11_works__m_vxsat, fX11_mixed__m_vxsat, pX11_mixed_299_m_vxsat, pX11_mixed_319_m_vxsat, pX11_mixed_339_m_vxsat, pX11_mixed_359_m_vxsat, pX11_mixed_380_m_vxsat, pX11_mixed_401_m_vxsat, pX11_mixed_422_m_vxsat, pX11_mixed_443_m_vxsat, if_true, if_false]
  have e4 : fX11_works__zX (nI L) (nI st) (nI d) (nI s1) (nI s2) 6 (nI 60) (nI S) un zX z = zX := by
    simp (decide := true) only [fX11_works__zX, fX11_mixed__zX, pX11_mixed_523_zX, if_true, if_false]
  unfold WK
  rw [e1, e2, e3, e4]
  exact multiplies_WO h (by decide) (by rw [kd_plain (by decide) (by decide) (show _ = (7 : Int32) by decide), mb_free (by decide)]) vt sat c _ rf re r8 rg rl
theorem w6_61 {S E L st d s1 s2 md : Nat} {im un tb : Int32} {x z xS zX : Nat → Int32} (h : HY S E L st d s1 s2 md 6 im un tb x z xS zX) {vt : Int32} (hvt : fX11_vlmax vt = nI (16 * E / S)) (sat : Int32) (c : Int64) (rf re r8 rg : Int32) (rl : Int64) : WK S E L st d s1 s2 md 6 (nI 61) im un tb x z xS zX vt sat c rf re r8 rg rl := by
  have e1 : fX11_works (nI st) (nI d) (nI s1) (nI s2) 6 (nI 61) (nI S) (nI E) un = fX11_multiplies (nI d) (nI s1) (nI s2) 6 (nI S) (nI E) un := by
    simp (decide := true) only [fX11_works, fX11_mixed, pX11_mixed_299_S1, pX11_mixed_319_S1, pX11_mixed_339_S1, pX11_mixed_359_S1, pX11_mixed_380_S1, pX11_mixed_401_S1, pX11_mixed_422_S1, pX11_mixed_443_S1, pX11_mixed_489_S1, pX11_mixed_507_S1, pX11_mixed_523_S1, pX11_mixed_540_S1, pX11_mixed_613_S1, pX11_mixed_630_S1, pX11_mixed_651_S1, pX11_mixed_859_S1, if_true, if_false]
  have e2 : fX11_works__zV c (nI L) vt (nI st) (nI md) sat (nI d) (nI s1) (nI s2) 6 (nI 61) (nI S) (nI E) un zX z z = fX11_multiplies__zV c (nI L) vt (nI st) (nI d) (nI s1) (nI s2) 6 (nI S) (nI E) un zX z z 1 1 1 := by
    simp (decide := true) only [fX11_works__zV, fX11_mixed__zV, pX11_mixed_299_zV, pX11_mixed_319_zV, pX11_mixed_339_zV, pX11_mixed_359_zV, pX11_mixed_380_zV, pX11_mixed_401_zV, pX11_mixed_422_zV, pX11_mixed_443_zV, pX11_mixed_489_zV, pX11_mixed_507_zV, pX11_mixed_523_zV, pX11_mixed_540_zV, pX11_mixed_613_zV, pX11_mixed_630_zV, pX11_mixed_651_zV, pX11_mixed_859_zV, if_true, if_false]
  have e3 : fX11_works__m_vxsat c (nI L) vt (nI st) (nI md) sat (nI d) (nI s1) (nI s2) 6 (nI 61) (nI S) (nI E) un zX z z = sat := by
    simp (decide := true) only [fX11_works__m_vxsat, fX11_mixed__m_vxsat, pX11_mixed_299_m_vxsat, pX11_mixed_319_m_vxsat, pX11_mixed_339_m_vxsat, pX11_mixed_359_m_vxsat, pX11_mixed_380_m_vxsat, pX11_mixed_401_m_vxsat, pX11_mixed_422_m_vxsat, pX11_mixed_443_m_vxsat, if_true, if_false]
  have e4 : fX11_works__zX (nI L) (nI st) (nI d) (nI s1) (nI s2) 6 (nI 61) (nI S) un zX z = zX := by
    simp (decide := true) only [fX11_works__zX, fX11_mixed__zX, pX11_mixed_523_zX, if_true, if_false]
  unfold WK
  rw [e1, e2, e3, e4]
  exact multiplies_WO h (by decide) (by rw [kd_plain (by decide) (by decide) (show _ = (7 : Int32) by decide), mb_free (by decide)]) vt sat c _ rf re r8 rg rl
theorem w6_62 {S E L st d s1 s2 md : Nat} {im un tb : Int32} {x z xS zX : Nat → Int32} (h : HY S E L st d s1 s2 md 6 im un tb x z xS zX) {vt : Int32} (hvt : fX11_vlmax vt = nI (16 * E / S)) (sat : Int32) (c : Int64) (rf re r8 rg : Int32) (rl : Int64) : WK S E L st d s1 s2 md 6 (nI 62) im un tb x z xS zX vt sat c rf re r8 rg rl := by
  have e1 : fX11_works (nI st) (nI d) (nI s1) (nI s2) 6 (nI 62) (nI S) (nI E) un = (if fX11_multiplies (nI d) (nI s1) (nI s2) 6 (nI S) (nI E) un = 0 then (0 : Int32) else 1) := by
    simp (decide := true) only [fX11_works, fX11_mixed, pX11_mixed_299_S1, pX11_mixed_319_S1, pX11_mixed_339_S1, pX11_mixed_359_S1, pX11_mixed_380_S1, pX11_mixed_401_S1, pX11_mixed_422_S1, pX11_mixed_443_S1, pX11_mixed_489_S1, pX11_mixed_507_S1, pX11_mixed_523_S1, pX11_mixed_540_S1, pX11_mixed_613_S1, pX11_mixed_630_S1, pX11_mixed_651_S1, pX11_mixed_859_S1, if_true, if_false]
  have e2 : fX11_works__zV c (nI L) vt (nI st) (nI md) sat (nI d) (nI s1) (nI s2) 6 (nI 62) (nI S) (nI E) un zX z z = fX11_multiplies__zV c (nI L) vt (nI st) (nI d) (nI s1) (nI s2) 6 (nI S) (nI E) un zX z z 1 0 1 := by
    simp (decide := true) only [fX11_works__zV, fX11_mixed__zV, pX11_mixed_299_zV, pX11_mixed_319_zV, pX11_mixed_339_zV, pX11_mixed_359_zV, pX11_mixed_380_zV, pX11_mixed_401_zV, pX11_mixed_422_zV, pX11_mixed_443_zV, pX11_mixed_489_zV, pX11_mixed_507_zV, pX11_mixed_523_zV, pX11_mixed_540_zV, pX11_mixed_613_zV, pX11_mixed_630_zV, pX11_mixed_651_zV, pX11_mixed_859_zV, if_true, if_false]
  have e3 : fX11_works__m_vxsat c (nI L) vt (nI st) (nI md) sat (nI d) (nI s1) (nI s2) 6 (nI 62) (nI S) (nI E) un zX z z = sat := by
    simp (decide := true) only [fX11_works__m_vxsat, fX11_mixed__m_vxsat, pX11_mixed_299_m_vxsat, pX11_mixed_319_m_vxsat, pX11_mixed_339_m_vxsat, pX11_mixed_359_m_vxsat, pX11_mixed_380_m_vxsat, pX11_mixed_401_m_vxsat, pX11_mixed_422_m_vxsat, pX11_mixed_443_m_vxsat, if_true, if_false]
  have e4 : fX11_works__zX (nI L) (nI st) (nI d) (nI s1) (nI s2) 6 (nI 62) (nI S) un zX z = zX := by
    simp (decide := true) only [fX11_works__zX, fX11_mixed__zX, pX11_mixed_523_zX, if_true, if_false]
  unfold WK
  rw [e1, e2, e3, e4]
  refine WO_b ?_
  exact multiplies_WO h (by decide) (by rw [kd_plain (by decide) (by decide) (show _ = (7 : Int32) by decide), mb_free (by decide)]) vt sat c _ rf re r8 rg rl
theorem w6_63 {S E L st d s1 s2 md : Nat} {im un tb : Int32} {x z xS zX : Nat → Int32} (h : HY S E L st d s1 s2 md 6 im un tb x z xS zX) {vt : Int32} (hvt : fX11_vlmax vt = nI (16 * E / S)) (sat : Int32) (c : Int64) (rf re r8 rg : Int32) (rl : Int64) : WK S E L st d s1 s2 md 6 (nI 63) im un tb x z xS zX vt sat c rf re r8 rg rl := by
  have e1 : fX11_works (nI st) (nI d) (nI s1) (nI s2) 6 (nI 63) (nI S) (nI E) un = fX11_multiplies (nI d) (nI s1) (nI s2) 6 (nI S) (nI E) un := by
    simp (decide := true) only [fX11_works, fX11_mixed, pX11_mixed_299_S1, pX11_mixed_319_S1, pX11_mixed_339_S1, pX11_mixed_359_S1, pX11_mixed_380_S1, pX11_mixed_401_S1, pX11_mixed_422_S1, pX11_mixed_443_S1, pX11_mixed_489_S1, pX11_mixed_507_S1, pX11_mixed_523_S1, pX11_mixed_540_S1, pX11_mixed_613_S1, pX11_mixed_630_S1, pX11_mixed_651_S1, pX11_mixed_859_S1, if_true, if_false]
  have e2 : fX11_works__zV c (nI L) vt (nI st) (nI md) sat (nI d) (nI s1) (nI s2) 6 (nI 63) (nI S) (nI E) un zX z z = fX11_multiplies__zV c (nI L) vt (nI st) (nI d) (nI s1) (nI s2) 6 (nI S) (nI E) un zX z z 0 1 1 := by
    simp (decide := true) only [fX11_works__zV, fX11_mixed__zV, pX11_mixed_299_zV, pX11_mixed_319_zV, pX11_mixed_339_zV, pX11_mixed_359_zV, pX11_mixed_380_zV, pX11_mixed_401_zV, pX11_mixed_422_zV, pX11_mixed_443_zV, pX11_mixed_489_zV, pX11_mixed_507_zV, pX11_mixed_523_zV, pX11_mixed_540_zV, pX11_mixed_613_zV, pX11_mixed_630_zV, pX11_mixed_651_zV, pX11_mixed_859_zV, if_true, if_false]
  have e3 : fX11_works__m_vxsat c (nI L) vt (nI st) (nI md) sat (nI d) (nI s1) (nI s2) 6 (nI 63) (nI S) (nI E) un zX z z = sat := by
    simp (decide := true) only [fX11_works__m_vxsat, fX11_mixed__m_vxsat, pX11_mixed_299_m_vxsat, pX11_mixed_319_m_vxsat, pX11_mixed_339_m_vxsat, pX11_mixed_359_m_vxsat, pX11_mixed_380_m_vxsat, pX11_mixed_401_m_vxsat, pX11_mixed_422_m_vxsat, pX11_mixed_443_m_vxsat, if_true, if_false]
  have e4 : fX11_works__zX (nI L) (nI st) (nI d) (nI s1) (nI s2) 6 (nI 63) (nI S) un zX z = zX := by
    simp (decide := true) only [fX11_works__zX, fX11_mixed__zX, pX11_mixed_523_zX, if_true, if_false]
  unfold WK
  rw [e1, e2, e3, e4]
  exact multiplies_WO h (by decide) (by rw [kd_plain (by decide) (by decide) (show _ = (7 : Int32) by decide), mb_free (by decide)]) vt sat c _ rf re r8 rg rl
theorem wF6 {S E L st d s1 s2 md : Nat} {im un tb : Int32} {x z xS zX : Nat → Int32} (h : HY S E L st d s1 s2 md 6 im un tb x z xS zX) {vt : Int32} (hvt : fX11_vlmax vt = nI (16 * E / S)) (sat : Int32) (c : Int64) (rf re r8 rg : Int32) (rl : Int64) : ∀ hh, hh < 64 → WK S E L st d s1 s2 md 6 (nI hh) im un tb x z xS zX vt sat c rf re r8 rg rl
  | 0, _ => w6_0 h hvt sat c rf re r8 rg rl
  | 1, _ => w6_1 h hvt sat c rf re r8 rg rl
  | 2, _ => w6_2 h hvt sat c rf re r8 rg rl
  | 3, _ => w6_3 h hvt sat c rf re r8 rg rl
  | 4, _ => w6_4 h hvt sat c rf re r8 rg rl
  | 5, _ => w6_5 h hvt sat c rf re r8 rg rl
  | 6, _ => w6_6 h hvt sat c rf re r8 rg rl
  | 7, _ => w6_7 h hvt sat c rf re r8 rg rl
  | 8, _ => w6_8 h hvt sat c rf re r8 rg rl
  | 9, _ => w6_9 h hvt sat c rf re r8 rg rl
  | 10, _ => w6_10 h hvt sat c rf re r8 rg rl
  | 11, _ => w6_11 h hvt sat c rf re r8 rg rl
  | 12, _ => w6_12 h hvt sat c rf re r8 rg rl
  | 13, _ => w6_13 h hvt sat c rf re r8 rg rl
  | 14, _ => w6_14 h hvt sat c rf re r8 rg rl
  | 15, _ => w6_15 h hvt sat c rf re r8 rg rl
  | 16, _ => w6_16 h hvt sat c rf re r8 rg rl
  | 17, _ => w6_17 h hvt sat c rf re r8 rg rl
  | 18, _ => w6_18 h hvt sat c rf re r8 rg rl
  | 19, _ => w6_19 h hvt sat c rf re r8 rg rl
  | 20, _ => w6_20 h hvt sat c rf re r8 rg rl
  | 21, _ => w6_21 h hvt sat c rf re r8 rg rl
  | 22, _ => w6_22 h hvt sat c rf re r8 rg rl
  | 23, _ => w6_23 h hvt sat c rf re r8 rg rl
  | 24, _ => w6_24 h hvt sat c rf re r8 rg rl
  | 25, _ => w6_25 h hvt sat c rf re r8 rg rl
  | 26, _ => w6_26 h hvt sat c rf re r8 rg rl
  | 27, _ => w6_27 h hvt sat c rf re r8 rg rl
  | 28, _ => w6_28 h hvt sat c rf re r8 rg rl
  | 29, _ => w6_29 h hvt sat c rf re r8 rg rl
  | 30, _ => w6_30 h hvt sat c rf re r8 rg rl
  | 31, _ => w6_31 h hvt sat c rf re r8 rg rl
  | 32, _ => w6_32 h hvt sat c rf re r8 rg rl
  | 33, _ => w6_33 h hvt sat c rf re r8 rg rl
  | 34, _ => w6_34 h hvt sat c rf re r8 rg rl
  | 35, _ => w6_35 h hvt sat c rf re r8 rg rl
  | 36, _ => w6_36 h hvt sat c rf re r8 rg rl
  | 37, _ => w6_37 h hvt sat c rf re r8 rg rl
  | 38, _ => w6_38 h hvt sat c rf re r8 rg rl
  | 39, _ => w6_39 h hvt sat c rf re r8 rg rl
  | 40, _ => w6_40 h hvt sat c rf re r8 rg rl
  | 41, _ => w6_41 h hvt sat c rf re r8 rg rl
  | 42, _ => w6_42 h hvt sat c rf re r8 rg rl
  | 43, _ => w6_43 h hvt sat c rf re r8 rg rl
  | 44, _ => w6_44 h hvt sat c rf re r8 rg rl
  | 45, _ => w6_45 h hvt sat c rf re r8 rg rl
  | 46, _ => w6_46 h hvt sat c rf re r8 rg rl
  | 47, _ => w6_47 h hvt sat c rf re r8 rg rl
  | 48, _ => w6_48 h hvt sat c rf re r8 rg rl
  | 49, _ => w6_49 h hvt sat c rf re r8 rg rl
  | 50, _ => w6_50 h hvt sat c rf re r8 rg rl
  | 51, _ => w6_51 h hvt sat c rf re r8 rg rl
  | 52, _ => w6_52 h hvt sat c rf re r8 rg rl
  | 53, _ => w6_53 h hvt sat c rf re r8 rg rl
  | 54, _ => w6_54 h hvt sat c rf re r8 rg rl
  | 55, _ => w6_55 h hvt sat c rf re r8 rg rl
  | 56, _ => w6_56 h hvt sat c rf re r8 rg rl
  | 57, _ => w6_57 h hvt sat c rf re r8 rg rl
  | 58, _ => w6_58 h hvt sat c rf re r8 rg rl
  | 59, _ => w6_59 h hvt sat c rf re r8 rg rl
  | 60, _ => w6_60 h hvt sat c rf re r8 rg rl
  | 61, _ => w6_61 h hvt sat c rf re r8 rg rl
  | 62, _ => w6_62 h hvt sat c rf re r8 rg rl
  | 63, _ => w6_63 h hvt sat c rf re r8 rg rl
  | n + 64, hn => absurd hn (by omega)
