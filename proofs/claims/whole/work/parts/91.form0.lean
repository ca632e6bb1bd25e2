/-! ===== form 0 ===== -/
theorem w0_0 {S E L st d s1 s2 md : Nat} {im un tb : Int32} {x z xS zX : Nat → Int32} (h : HY S E L st d s1 s2 md 0 im un tb x z xS zX) {vt : Int32} (hvt : fX11_vlmax vt = nI (16 * E / S)) (sat : Int32) (c : Int64) (rf re r8 rg : Int32) (rl : Int64) : WK S E L st d s1 s2 md 0 (nI 0) im un tb x z xS zX vt sat c rf re r8 rg rl := by
  have e1 : fX11_works (nI st) (nI d) (nI s1) (nI s2) 0 (nI 0) (nI S) (nI E) un = fX11_alike (nI d) (nI s1) (nI s2) 0 (nI S) (nI E) un := by
    simp (decide := true) only [fX11_works, fX11_integers, pX11_integers_251_S1, pX11_integers_269_S1, pX11_integers_288_S1, pX11_integers_307_S1, pX11_integers_326_S1, pX11_integers_345_S1, pX11_integers_390_S1, pX11_integers_407_S1, pX11_integers_440_S1, pX11_integers_459_S1, pX11_integers_494_S1, pX11_integers_512_S1, pX11_integers_543_S1, pX11_integers_562_S1, pX11_integers_595_S1, pX11_integers_614_S1, pX11_integers_639_S1, pX11_integers_715_S1, pX11_integers_735_S1, if_true, if_false]
  have e2 : fX11_works__zV c (nI L) vt (nI st) (nI md) sat (nI d) (nI s1) (nI s2) 0 (nI 0) (nI S) (nI E) un zX z z = fX11_alike__zV c (nI L) vt (nI st) (nI md) sat (nI d) (nI s1) (nI s2) 0 (nI S) (nI E) un zX z z 0 := by
    simp (decide := true) only [fX11_works__zV, fX11_integers__zV, pX11_integers_251_zV, pX11_integers_269_zV, pX11_integers_288_zV, pX11_integers_307_zV, pX11_integers_326_zV, pX11_integers_345_zV, pX11_integers_390_zV, pX11_integers_407_zV, pX11_integers_440_zV, pX11_integers_459_zV, pX11_integers_494_zV, pX11_integers_512_zV, pX11_integers_543_zV, pX11_integers_562_zV, pX11_integers_595_zV, pX11_integers_614_zV, pX11_integers_639_zV, pX11_integers_715_zV, pX11_integers_735_zV, if_true, if_false]
  have e3 : fX11_works__m_vxsat c (nI L) vt (nI st) (nI md) sat (nI d) (nI s1) (nI s2) 0 (nI 0) (nI S) (nI E) un zX z z = fX11_alike__m_vxsat c (nI L) vt (nI st) (nI md) sat (nI d) (nI s1) (nI s2) 0 (nI S) (nI E) un zX z z 0 := by
    simp (decide := true) only [fX11_works__m_vxsat, fX11_integers__m_vxsat, pX11_integers_251_m_vxsat, pX11_integers_269_m_vxsat, pX11_integers_288_m_vxsat, pX11_integers_307_m_vxsat, pX11_integers_326_m_vxsat, pX11_integers_345_m_vxsat, pX11_integers_595_m_vxsat, pX11_integers_614_m_vxsat, pX11_integers_639_m_vxsat, pX11_integers_715_m_vxsat, pX11_integers_735_m_vxsat, if_true, if_false]
  have e4 : fX11_works__zX (nI L) (nI st) (nI d) (nI s1) (nI s2) 0 (nI 0) (nI S) un zX z = zX := by
    simp (decide := true) only [fX11_works__zX, if_true, if_false]
  unfold WK
  rw [e1, e2, e3, e4]
  exact alike_WO h (by decide) (by rw [kd_plain (by decide) (by decide) (show _ = (1 : Int32) by decide), mb_free (by decide)]) vt sat c _ rf re r8 rg rl
theorem w0_1 {S E L st d s1 s2 md : Nat} {im un tb : Int32} {x z xS zX : Nat → Int32} (h : HY S E L st d s1 s2 md 0 im un tb x z xS zX) {vt : Int32} (hvt : fX11_vlmax vt = nI (16 * E / S)) (sat : Int32) (c : Int64) (rf re r8 rg : Int32) (rl : Int64) : WK S E L st d s1 s2 md 0 (nI 1) im un tb x z xS zX vt sat c rf re r8 rg rl := by
  have e1 : fX11_works (nI st) (nI d) (nI s1) (nI s2) 0 (nI 1) (nI S) (nI E) un = 0 := by
    simp (decide := true) only [fX11_works, fX11_integers, pX11_integers_251_S1, pX11_integers_269_S1, pX11_integers_288_S1, pX11_integers_307_S1, pX11_integers_326_S1, pX11_integers_345_S1, pX11_integers_390_S1, pX11_integers_407_S1, pX11_integers_440_S1, pX11_integers_459_S1, pX11_integers_494_S1, pX11_integers_512_S1, pX11_integers_543_S1, pX11_integers_562_S1, pX11_integers_595_S1, pX11_integers_614_S1, pX11_integers_639_S1, pX11_integers_715_S1, pX11_integers_735_S1, if_true, if_false]
  have e2 : fX11_works__zV c (nI L) vt (nI st) (nI md) sat (nI d) (nI s1) (nI s2) 0 (nI 1) (nI S) (nI E) un zX z z = z := by
    simp (decide := true) only [fX11_works__zV, fX11_integers__zV, pX11_integers_251_zV, pX11_integers_269_zV, pX11_integers_288_zV, pX11_integers_307_zV, pX11_integers_326_zV, pX11_integers_345_zV, pX11_integers_390_zV, pX11_integers_407_zV, pX11_integers_440_zV, pX11_integers_459_zV, pX11_integers_494_zV, pX11_integers_512_zV, pX11_integers_543_zV, pX11_integers_562_zV, pX11_integers_595_zV, pX11_integers_614_zV, pX11_integers_639_zV, pX11_integers_715_zV, pX11_integers_735_zV, if_true, if_false]
  have e3 : fX11_works__m_vxsat c (nI L) vt (nI st) (nI md) sat (nI d) (nI s1) (nI s2) 0 (nI 1) (nI S) (nI E) un zX z z = sat := by
    simp (decide := true) only [fX11_works__m_vxsat, fX11_integers__m_vxsat, pX11_integers_251_m_vxsat, pX11_integers_269_m_vxsat, pX11_integers_288_m_vxsat, pX11_integers_307_m_vxsat, pX11_integers_326_m_vxsat, pX11_integers_345_m_vxsat, pX11_integers_595_m_vxsat, pX11_integers_614_m_vxsat, pX11_integers_639_m_vxsat, pX11_integers_715_m_vxsat, pX11_integers_735_m_vxsat, if_true, if_false]
  have e4 : fX11_works__zX (nI L) (nI st) (nI d) (nI s1) (nI s2) 0 (nI 1) (nI S) un zX z = zX := by
    simp (decide := true) only [fX11_works__zX, if_true, if_false]
  unfold WK
  rw [e1, e2, e3, e4]
  exact ill_WO h (kd_none (by decide)) vt sat c _ rf re r8 rg rl
theorem w0_2 {S E L st d s1 s2 md : Nat} {im un tb : Int32} {x z xS zX : Nat → Int32} (h : HY S E L st d s1 s2 md 0 im un tb x z xS zX) {vt : Int32} (hvt : fX11_vlmax vt = nI (16 * E / S)) (sat : Int32) (c : Int64) (rf re r8 rg : Int32) (rl : Int64) : WK S E L st d s1 s2 md 0 (nI 2) im un tb x z xS zX vt sat c rf re r8 rg rl := by
  have e1 : fX11_works (nI st) (nI d) (nI s1) (nI s2) 0 (nI 2) (nI S) (nI E) un = (if fX11_alike (nI d) (nI s1) (nI s2) 0 (nI S) (nI E) un = 0 then (0 : Int32) else 1) := by
    simp (decide := true) only [fX11_works, fX11_integers, pX11_integers_251_S1, pX11_integers_269_S1, pX11_integers_288_S1, pX11_integers_307_S1, pX11_integers_326_S1, pX11_integers_345_S1, pX11_integers_390_S1, pX11_integers_407_S1, pX11_integers_440_S1, pX11_integers_459_S1, pX11_integers_494_S1, pX11_integers_512_S1, pX11_integers_543_S1, pX11_integers_562_S1, pX11_integers_595_S1, pX11_integers_614_S1, pX11_integers_639_S1, pX11_integers_715_S1, pX11_integers_735_S1, if_true, if_false]
  have e2 : fX11_works__zV c (nI L) vt (nI st) (nI md) sat (nI d) (nI s1) (nI s2) 0 (nI 2) (nI S) (nI E) un zX z z = fX11_alike__zV c (nI L) vt (nI st) (nI md) sat (nI d) (nI s1) (nI s2) 0 (nI S) (nI E) un zX z z 1 := by
    simp (decide := true) only [fX11_works__zV, fX11_integers__zV, pX11_integers_251_zV, pX11_integers_269_zV, pX11_integers_288_zV, pX11_integers_307_zV, pX11_integers_326_zV, pX11_integers_345_zV, pX11_integers_390_zV, pX11_integers_407_zV, pX11_integers_440_zV, pX11_integers_459_zV, pX11_integers_494_zV, pX11_integers_512_zV, pX11_integers_543_zV, pX11_integers_562_zV, pX11_integers_595_zV, pX11_integers_614_zV, pX11_integers_639_zV, pX11_integers_715_zV, pX11_integers_735_zV, if_true, if_false]
  have e3 : fX11_works__m_vxsat c (nI L) vt (nI st) (nI md) sat (nI d) (nI s1) (nI s2) 0 (nI 2) (nI S) (nI E) un zX z z = fX11_alike__m_vxsat c (nI L) vt (nI st) (nI md) sat (nI d) (nI s1) (nI s2) 0 (nI S) (nI E) un zX z z 1 := by
    simp (decide := true) only [fX11_works__m_vxsat, fX11_integers__m_vxsat, pX11_integers_251_m_vxsat, pX11_integers_269_m_vxsat, pX11_integers_288_m_vxsat, pX11_integers_307_m_vxsat, pX11_integers_326_m_vxsat, pX11_integers_345_m_vxsat, pX11_integers_595_m_vxsat, pX11_integers_614_m_vxsat, pX11_integers_639_m_vxsat, pX11_integers_715_m_vxsat, pX11_integers_735_m_vxsat, if_true, if_false]
  have e4 : fX11_works__zX (nI L) (nI st) (nI d) (nI s1) (nI s2) 0 (nI 2) (nI S) un zX z = zX := by
    simp (decide := true) only [fX11_works__zX, if_true, if_false]
  unfold WK
  rw [e1, e2, e3, e4]
  refine WO_b ?_
  exact alike_WO h (by decide) (by rw [kd_plain (by decide) (by decide) (show _ = (1 : Int32) by decide), mb_free (by decide)]) vt sat c _ rf re r8 rg rl
theorem w0_3 {S E L st d s1 s2 md : Nat} {im un tb : Int32} {x z xS zX : Nat → Int32} (h : HY S E L st d s1 s2 md 0 im un tb x z xS zX) {vt : Int32} (hvt : fX11_vlmax vt = nI (16 * E / S)) (sat : Int32) (c : Int64) (rf re r8 rg : Int32) (rl : Int64) : WK S E L st d s1 s2 md 0 (nI 3) im un tb x z xS zX vt sat c rf re r8 rg rl := by
  have e1 : fX11_works (nI st) (nI d) (nI s1) (nI s2) 0 (nI 3) (nI S) (nI E) un = 0 := by
    simp (decide := true) only [fX11_works, fX11_integers, pX11_integers_251_S1, pX11_integers_269_S1, pX11_integers_288_S1, pX11_integers_307_S1, pX11_integers_326_S1, pX11_integers_345_S1, pX11_integers_390_S1, pX11_integers_407_S1, pX11_integers_440_S1, pX11_integers_459_S1, pX11_integers_494_S1, pX11_integers_512_S1, pX11_integers_543_S1, pX11_integers_562_S1, pX11_integers_595_S1, pX11_integers_614_S1, pX11_integers_639_S1, pX11_integers_715_S1, pX11_integers_735_S1, if_true, if_false]
  have e2 : fX11_works__zV c (nI L) vt (nI st) (nI md) sat (nI d) (nI s1) (nI s2) 0 (nI 3) (nI S) (nI E) un zX z z = z := by
    simp (decide := true) only [fX11_works__zV, fX11_integers__zV, pX11_integers_251_zV, pX11_integers_269_zV, pX11_integers_288_zV, pX11_integers_307_zV, pX11_integers_326_zV, pX11_integers_345_zV, pX11_integers_390_zV, pX11_integers_407_zV, pX11_integers_440_zV, pX11_integers_459_zV, pX11_integers_494_zV, pX11_integers_512_zV, pX11_integers_543_zV, pX11_integers_562_zV, pX11_integers_595_zV, pX11_integers_614_zV, pX11_integers_639_zV, pX11_integers_715_zV, pX11_integers_735_zV, if_true, if_false]
  have e3 : fX11_works__m_vxsat c (nI L) vt (nI st) (nI md) sat (nI d) (nI s1) (nI s2) 0 (nI 3) (nI S) (nI E) un zX z z = sat := by
    simp (decide := true) only [fX11_works__m_vxsat, fX11_integers__m_vxsat, pX11_integers_251_m_vxsat, pX11_integers_269_m_vxsat, pX11_integers_288_m_vxsat, pX11_integers_307_m_vxsat, pX11_integers_326_m_vxsat, pX11_integers_345_m_vxsat, pX11_integers_595_m_vxsat, pX11_integers_614_m_vxsat, pX11_integers_639_m_vxsat, pX11_integers_715_m_vxsat, pX11_integers_735_m_vxsat, if_true, if_false]
  have e4 : fX11_works__zX (nI L) (nI st) (nI d) (nI s1) (nI s2) 0 (nI 3) (nI S) un zX z = zX := by
    simp (decide := true) only [fX11_works__zX, if_true, if_false]
  unfold WK
  rw [e1, e2, e3, e4]
  exact ill_WO h (kd_none (by decide)) vt sat c _ rf re r8 rg rl
theorem w0_4 {S E L st d s1 s2 md : Nat} {im un tb : Int32} {x z xS zX : Nat → Int32} (h : HY S E L st d s1 s2 md 0 im un tb x z xS zX) {vt : Int32} (hvt : fX11_vlmax vt = nI (16 * E / S)) (sat : Int32) (c : Int64) (rf re r8 rg : Int32) (rl : Int64) : WK S E L st d s1 s2 md 0 (nI 4) im un tb x z xS zX vt sat c rf re r8 rg rl := by
  have e1 : fX11_works (nI st) (nI d) (nI s1) (nI s2) 0 (nI 4) (nI S) (nI E) un = (if fX11_alike (nI d) (nI s1) (nI s2) 0 (nI S) (nI E) un = 0 then (0 : Int32) else 1) := by
    simp (decide := true) only [fX11_works, fX11_integers, pX11_integers_251_S1, pX11_integers_269_S1, pX11_integers_288_S1, pX11_integers_307_S1, pX11_integers_326_S1, pX11_integers_345_S1, pX11_integers_390_S1, pX11_integers_407_S1, pX11_integers_440_S1, pX11_integers_459_S1, pX11_integers_494_S1, pX11_integers_512_S1, pX11_integers_543_S1, pX11_integers_562_S1, pX11_integers_595_S1, pX11_integers_614_S1, pX11_integers_639_S1, pX11_integers_715_S1, pX11_integers_735_S1, if_true, if_false]
  have e2 : fX11_works__zV c (nI L) vt (nI st) (nI md) sat (nI d) (nI s1) (nI s2) 0 (nI 4) (nI S) (nI E) un zX z z = fX11_alike__zV c (nI L) vt (nI st) (nI md) sat (nI d) (nI s1) (nI s2) 0 (nI S) (nI E) un zX z z 6 := by
    simp (decide := true) only [fX11_works__zV, fX11_integers__zV, pX11_integers_251_zV, pX11_integers_269_zV, pX11_integers_288_zV, pX11_integers_307_zV, pX11_integers_326_zV, pX11_integers_345_zV, pX11_integers_390_zV, pX11_integers_407_zV, pX11_integers_440_zV, pX11_integers_459_zV, pX11_integers_494_zV, pX11_integers_512_zV, pX11_integers_543_zV, pX11_integers_562_zV, pX11_integers_595_zV, pX11_integers_614_zV, pX11_integers_639_zV, pX11_integers_715_zV, pX11_integers_735_zV, if_true, if_false]
  have e3 : fX11_works__m_vxsat c (nI L) vt (nI st) (nI md) sat (nI d) (nI s1) (nI s2) 0 (nI 4) (nI S) (nI E) un zX z z = fX11_alike__m_vxsat c (nI L) vt (nI st) (nI md) sat (nI d) (nI s1) (nI s2) 0 (nI S) (nI E) un zX z z 6 := by
    simp (decide := true) only [fX11_works__m_vxsat, fX11_integers__m_vxsat, pX11_integers_251_m_vxsat, pX11_integers_269_m_vxsat, pX11_integers_288_m_vxsat, pX11_integers_307_m_vxsat, pX11_integers_326_m_vxsat, pX11_integers_345_m_vxsat, pX11_integers_595_m_vxsat, pX11_integers_614_m_vxsat, pX11_integers_639_m_vxsat, pX11_integers_715_m_vxsat, pX11_integers_735_m_vxsat, if_true, if_false]
  have e4 : fX11_works__zX (nI L) (nI st) (nI d) (nI s1) (nI s2) 0 (nI 4) (nI S) un zX z = zX := by
    simp (decide := true) only [fX11_works__zX, if_true, if_false]
  unfold WK
  rw [e1, e2, e3, e4]
  refine WO_b ?_
  exact alike_WO h (by decide) (by rw [kd_plain (by decide) (by decide) (show _ = (1 : Int32) by decide), mb_free (by decide)]) vt sat c _ rf re r8 rg rl
theorem w0_5 {S E L st d s1 s2 md : Nat} {im un tb : Int32} {x z xS zX : Nat → Int32} (h : HY S E L st d s1 s2 md 0 im un tb x z xS zX) {vt : Int32} (hvt : fX11_vlmax vt = nI (16 * E / S)) (sat : Int32) (c : Int64) (rf re r8 rg : Int32) (rl : Int64) : WK S E L st d s1 s2 md 0 (nI 5) im un tb x z xS zX vt sat c rf re r8 rg rl := by
  have e1 : fX11_works (nI st) (nI d) (nI s1) (nI s2) 0 (nI 5) (nI S) (nI E) un = (if fX11_alike (nI d) (nI s1) (nI s2) 0 (nI S) (nI E) un = 0 then (0 : Int32) else 1) := by
    simp (decide := true) only [fX11_works, fX11_integers, pX11_integers_251_S1, pX11_integers_269_S1, pX11_integers_288_S1, pX11_integers_307_S1, pX11_integers_326_S1, pX11_integers_345_S1, pX11_integers_390_S1, pX11_integers_407_S1, pX11_integers_440_S1, pX11_integers_459_S1, pX11_integers_494_S1, pX11_integers_512_S1, pX11_integers_543_S1, pX11_integers_562_S1, pX11_integers_595_S1, pX11_integers_614_S1, pX11_integers_639_S1, pX11_integers_715_S1, pX11_integers_735_S1, if_true, if_false]
  have e2 : fX11_works__zV c (nI L) vt (nI st) (nI md) sat (nI d) (nI s1) (nI s2) 0 (nI 5) (nI S) (nI E) un zX z z = fX11_alike__zV c (nI L) vt (nI st) (nI md) sat (nI d) (nI s1) (nI s2) 0 (nI S) (nI E) un zX z z 7 := by
    simp (decide := true) only [fX11_works__zV, fX11_integers__zV, pX11_integers_251_zV, pX11_integers_269_zV, pX11_integers_288_zV, pX11_integers_307_zV, pX11_integers_326_zV, pX11_integers_345_zV, pX11_integers_390_zV, pX11_integers_407_zV, pX11_integers_440_zV, pX11_integers_459_zV, pX11_integers_494_zV, pX11_integers_512_zV, pX11_integers_543_zV, pX11_integers_562_zV, pX11_integers_595_zV, pX11_integers_614_zV, pX11_integers_639_zV, pX11_integers_715_zV, pX11_integers_735_zV, if_true, if_false]
  have e3 : fX11_works__m_vxsat c (nI L) vt (nI st) (nI md) sat (nI d) (nI s1) (nI s2) 0 (nI 5) (nI S) (nI E) un zX z z = fX11_alike__m_vxsat c (nI L) vt (nI st) (nI md) sat (nI d) (nI s1) (nI s2) 0 (nI S) (nI E) un zX z z 7 := by
    simp (decide := true) only [fX11_works__m_vxsat, fX11_integers__m_vxsat, pX11_integers_251_m_vxsat, pX11_integers_269_m_vxsat, pX11_integers_288_m_vxsat, pX11_integers_307_m_vxsat, pX11_integers_326_m_vxsat, pX11_integers_345_m_vxsat, pX11_integers_595_m_vxsat, pX11_integers_614_m_vxsat, pX11_integers_639_m_vxsat, pX11_integers_715_m_vxsat, pX11_integers_735_m_vxsat, if_true, if_false]
  have e4 : fX11_works__zX (nI L) (nI st) (nI d) (nI s1) (nI s2) 0 (nI 5) (nI S) un zX z = zX := by
    simp (decide := true) only [fX11_works__zX, if_true, if_false]
  unfold WK
  rw [e1, e2, e3, e4]
  refine WO_b ?_
  exact alike_WO h (by decide) (by rw [kd_plain (by decide) (by decide) (show _ = (1 : Int32) by decide), mb_free (by decide)]) vt sat c _ rf re r8 rg rl
theorem w0_6 {S E L st d s1 s2 md : Nat} {im un tb : Int32} {x z xS zX : Nat → Int32} (h : HY S E L st d s1 s2 md 0 im un tb x z xS zX) {vt : Int32} (hvt : fX11_vlmax vt = nI (16 * E / S)) (sat : Int32) (c : Int64) (rf re r8 rg : Int32) (rl : Int64) : WK S E L st d s1 s2 md 0 (nI 6) im un tb x z xS zX vt sat c rf re r8 rg rl := by
  have e1 : fX11_works (nI st) (nI d) (nI s1) (nI s2) 0 (nI 6) (nI S) (nI E) un = (if fX11_alike (nI d) (nI s1) (nI s2) 0 (nI S) (nI E) un = 0 then (0 : Int32) else 1) := by
    simp (decide := true) only [fX11_works, fX11_integers, pX11_integers_251_S1, pX11_integers_269_S1, pX11_integers_288_S1, pX11_integers_307_S1, pX11_integers_326_S1, pX11_integers_345_S1, pX11_integers_390_S1, pX11_integers_407_S1, pX11_integers_440_S1, pX11_integers_459_S1, pX11_integers_494_S1, pX11_integers_512_S1, pX11_integers_543_S1, pX11_integers_562_S1, pX11_integers_595_S1, pX11_integers_614_S1, pX11_integers_639_S1, pX11_integers_715_S1, pX11_integers_735_S1, if_true, if_false]
  have e2 : fX11_works__zV c (nI L) vt (nI st) (nI md) sat (nI d) (nI s1) (nI s2) 0 (nI 6) (nI S) (nI E) un zX z z = fX11_alike__zV c (nI L) vt (nI st) (nI md) sat (nI d) (nI s1) (nI s2) 0 (nI S) (nI E) un zX z z 8 := by
    simp (decide := true) only [fX11_works__zV, fX11_integers__zV, pX11_integers_251_zV, pX11_integers_269_zV, pX11_integers_288_zV, pX11_integers_307_zV, pX11_integers_326_zV, pX11_integers_345_zV, pX11_integers_390_zV, pX11_integers_407_zV, pX11_integers_440_zV, pX11_integers_459_zV, pX11_integers_494_zV, pX11_integers_512_zV, pX11_integers_543_zV, pX11_integers_562_zV, pX11_integers_595_zV, pX11_integers_614_zV, pX11_integers_639_zV, pX11_integers_715_zV, pX11_integers_735_zV, if_true, if_false]
  have e3 : fX11_works__m_vxsat c (nI L) vt (nI st) (nI md) sat (nI d) (nI s1) (nI s2) 0 (nI 6) (nI S) (nI E) un zX z z = fX11_alike__m_vxsat c (nI L) vt (nI st) (nI md) sat (nI d) (nI s1) (nI s2) 0 (nI S) (nI E) un zX z z 8 := by
    simp (decide := true) only [fX11_works__m_vxsat, fX11_integers__m_vxsat, pX11_integers_251_m_vxsat, pX11_integers_269_m_vxsat, pX11_integers_288_m_vxsat, pX11_integers_307_m_vxsat, pX11_integers_326_m_vxsat, pX11_integers_345_m_vxsat, pX11_integers_595_m_vxsat, pX11_integers_614_m_vxsat, pX11_integers_639_m_vxsat, pX11_integers_715_m_vxsat, pX11_integers_735_m_vxsat, if_true, if_false]
  have e4 : fX11_works__zX (nI L) (nI st) (nI d) (nI s1) (nI s2) 0 (nI 6) (nI S) un zX z = zX := by
    simp (decide := true) only [fX11_works__zX, if_true, if_false]
  unfold WK
  rw [e1, e2, e3, e4]
  refine WO_b ?_
  exact alike_WO h (by decide) (by rw [kd_plain (by decide) (by decide) (show _ = (1 : Int32) by decide), mb_free (by decide)]) vt sat c _ rf re r8 rg rl
theorem w0_7 {S E L st d s1 s2 md : Nat} {im un tb : Int32} {x z xS zX : Nat → Int32} (h : HY S E L st d s1 s2 md 0 im un tb x z xS zX) {vt : Int32} (hvt : fX11_vlmax vt = nI (16 * E / S)) (sat : Int32) (c : Int64) (rf re r8 rg : Int32) (rl : Int64) : WK S E L st d s1 s2 md 0 (nI 7) im un tb x z xS zX vt sat c rf re r8 rg rl := by
  have e1 : fX11_works (nI st) (nI d) (nI s1) (nI s2) 0 (nI 7) (nI S) (nI E) un = (if fX11_alike (nI d) (nI s1) (nI s2) 0 (nI S) (nI E) un = 0 then (0 : Int32) else 1) := by
    simp (decide := true) only [fX11_works, fX11_integers, pX11_integers_251_S1, pX11_integers_269_S1, pX11_integers_288_S1, pX11_integers_307_S1, pX11_integers_326_S1, pX11_integers_345_S1, pX11_integers_390_S1, pX11_integers_407_S1, pX11_integers_440_S1, pX11_integers_459_S1, pX11_integers_494_S1, pX11_integers_512_S1, pX11_integers_543_S1, pX11_integers_562_S1, pX11_integers_595_S1, pX11_integers_614_S1, pX11_integers_639_S1, pX11_integers_715_S1, pX11_integers_735_S1, if_true, if_false]
  have e2 : fX11_works__zV c (nI L) vt (nI st) (nI md) sat (nI d) (nI s1) (nI s2) 0 (nI 7) (nI S) (nI E) un zX z z = fX11_alike__zV c (nI L) vt (nI st) (nI md) sat (nI d) (nI s1) (nI s2) 0 (nI S) (nI E) un zX z z 9 := by
    simp (decide := true) only [fX11_works__zV, fX11_integers__zV, pX11_integers_251_zV, pX11_integers_269_zV, pX11_integers_288_zV, pX11_integers_307_zV, pX11_integers_326_zV, pX11_integers_345_zV, pX11_integers_390_zV, pX11_integers_407_zV, pX11_integers_440_zV, pX11_integers_459_zV, pX11_integers_494_zV, pX11_integers_512_zV, pX11_integers_543_zV, pX11_integers_562_zV, pX11_integers_595_zV, pX11_integers_614_zV, pX11_integers_639_zV, pX11_integers_715_zV, pX11_integers_735_zV, if_true, if_false]
  have e3 : fX11_works__m_vxsat c (nI L) vt (nI st) (nI md) sat (nI d) (nI s1) (nI s2) 0 (nI 7) (nI S) (nI E) un zX z z = fX11_alike__m_vxsat c (nI L) vt (nI st) (nI md) sat (nI d) (nI s1) (nI s2) 0 (nI S) (nI E) un zX z z 9 := by
    simp (decide := true) only [fX11_works__m_vxsat, fX11_integers__m_vxsat, pX11_integers_251_m_vxsat, pX11_integers_269_m_vxsat, pX11_integers_288_m_vxsat, pX11_integers_307_m_vxsat, pX11_integers_326_m_vxsat, pX11_integers_345_m_vxsat, pX11_integers_595_m_vxsat, pX11_integers_614_m_vxsat, pX11_integers_639_m_vxsat, pX11_integers_715_m_vxsat, pX11_integers_735_m_vxsat, if_true, if_false]
  have e4 : fX11_works__zX (nI L) (nI st) (nI d) (nI s1) (nI s2) 0 (nI 7) (nI S) un zX z = zX := by
    simp (decide := true) only [fX11_works__zX, if_true, if_false]
  unfold WK
  rw [e1, e2, e3, e4]
  refine WO_b ?_
  exact alike_WO h (by decide) (by rw [kd_plain (by decide) (by decide) (show _ = (1 : Int32) by decide), mb_free (by decide)]) vt sat c _ rf re r8 rg rl
theorem w0_8 {S E L st d s1 s2 md : Nat} {im un tb : Int32} {x z xS zX : Nat → Int32} (h : HY S E L st d s1 s2 md 0 im un tb x z xS zX) {vt : Int32} (hvt : fX11_vlmax vt = nI (16 * E / S)) (sat : Int32) (c : Int64) (rf re r8 rg : Int32) (rl : Int64) : WK S E L st d s1 s2 md 0 (nI 8) im un tb x z xS zX vt sat c rf re r8 rg rl := by
  have e1 : fX11_works (nI st) (nI d) (nI s1) (nI s2) 0 (nI 8) (nI S) (nI E) un = 0 := by
    simp (decide := true) only [fX11_works, fX11_integers, pX11_integers_251_S1, pX11_integers_269_S1, pX11_integers_288_S1, pX11_integers_307_S1, pX11_integers_326_S1, pX11_integers_345_S1, pX11_integers_390_S1, pX11_integers_407_S1, pX11_integers_440_S1, pX11_integers_459_S1, pX11_integers_494_S1, pX11_integers_512_S1, pX11_integers_543_S1, pX11_integers_562_S1, pX11_integers_595_S1, pX11_integers_614_S1, pX11_integers_639_S1, pX11_integers_715_S1, pX11_integers_735_S1, if_true, if_false]
  have e2 : fX11_works__zV c (nI L) vt (nI st) (nI md) sat (nI d) (nI s1) (nI s2) 0 (nI 8) (nI S) (nI E) un zX z z = z := by
    simp (decide := true) only [fX11_works__zV, fX11_integers__zV, pX11_integers_251_zV, pX11_integers_269_zV, pX11_integers_288_zV, pX11_integers_307_zV, pX11_integers_326_zV, pX11_integers_345_zV, pX11_integers_390_zV, pX11_integers_407_zV, pX11_integers_440_zV, pX11_integers_459_zV, pX11_integers_494_zV, pX11_integers_512_zV, pX11_integers_543_zV, pX11_integers_562_zV, pX11_integers_595_zV, pX11_integers_614_zV, pX11_integers_639_zV, pX11_integers_715_zV, pX11_integers_735_zV, if_true, if_false]
  have e3 : fX11_works__m_vxsat c (nI L) vt (nI st) (nI md) sat (nI d) (nI s1) (nI s2) 0 (nI 8) (nI S) (nI E) un zX z z = sat := by
    simp (decide := true) only [fX11_works__m_vxsat, fX11_integers__m_vxsat, pX11_integers_251_m_vxsat, pX11_integers_269_m_vxsat, pX11_integers_288_m_vxsat, pX11_integers_307_m_vxsat, pX11_integers_326_m_vxsat, pX11_integers_345_m_vxsat, pX11_integers_595_m_vxsat, pX11_integers_614_m_vxsat, pX11_integers_639_m_vxsat, pX11_integers_715_m_vxsat, pX11_integers_735_m_vxsat, if_true, if_false]
  have e4 : fX11_works__zX (nI L) (nI st) (nI d) (nI s1) (nI s2) 0 (nI 8) (nI S) un zX z = zX := by
    simp (decide := true) only [fX11_works__zX, if_true, if_false]
  unfold WK
  rw [e1, e2, e3, e4]
  exact ill_WO h (kd_none (by decide)) vt sat c _ rf re r8 rg rl
theorem w0_9 {S E L st d s1 s2 md : Nat} {im un tb : Int32} {x z xS zX : Nat → Int32} (h : HY S E L st d s1 s2 md 0 im un tb x z xS zX) {vt : Int32} (hvt : fX11_vlmax vt = nI (16 * E / S)) (sat : Int32) (c : Int64) (rf re r8 rg : Int32) (rl : Int64) : WK S E L st d s1 s2 md 0 (nI 9) im un tb x z xS zX vt sat c rf re r8 rg rl := by
  have e1 : fX11_works (nI st) (nI d) (nI s1) (nI s2) 0 (nI 9) (nI S) (nI E) un = fX11_alike (nI d) (nI s1) (nI s2) 0 (nI S) (nI E) un := by
    simp (decide := true) only [fX11_works, fX11_integers, pX11_integers_251_S1, pX11_integers_269_S1, pX11_integers_288_S1, pX11_integers_307_S1, pX11_integers_326_S1, pX11_integers_345_S1, pX11_integers_390_S1, pX11_integers_407_S1, pX11_integers_440_S1, pX11_integers_459_S1, pX11_integers_494_S1, pX11_integers_512_S1, pX11_integers_543_S1, pX11_integers_562_S1, pX11_integers_595_S1, pX11_integers_614_S1, pX11_integers_639_S1, pX11_integers_715_S1, pX11_integers_735_S1, if_true, if_false]
  have e2 : fX11_works__zV c (nI L) vt (nI st) (nI md) sat (nI d) (nI s1) (nI s2) 0 (nI 9) (nI S) (nI E) un zX z z = fX11_alike__zV c (nI L) vt (nI st) (nI md) sat (nI d) (nI s1) (nI s2) 0 (nI S) (nI E) un zX z z 3 := by
    simp (decide := true) only [fX11_works__zV, fX11_integers__zV, pX11_integers_251_zV, pX11_integers_269_zV, pX11_integers_288_zV, pX11_integers_307_zV, pX11_integers_326_zV, pX11_integers_345_zV, pX11_integers_390_zV, pX11_integers_407_zV, pX11_integers_440_zV, pX11_integers_459_zV, pX11_integers_494_zV, pX11_integers_512_zV, pX11_integers_543_zV, pX11_integers_562_zV, pX11_integers_595_zV, pX11_integers_614_zV, pX11_integers_639_zV, pX11_integers_715_zV, pX11_integers_735_zV, if_true, if_false]
  have e3 : fX11_works__m_vxsat c (nI L) vt (nI st) (nI md) sat (nI d) (nI s1) (nI s2) 0 (nI 9) (nI S) (nI E) un zX z z = fX11_alike__m_vxsat c (nI L) vt (nI st) (nI md) sat (nI d) (nI s1) (nI s2) 0 (nI S) (nI E) un zX z z 3 := by
    simp (decide := true) only [fX11_works__m_vxsat, fX11_integers__m_vxsat, pX11_integers_251_m_vxsat, pX11_integers_269_m_vxsat, pX11_integers_288_m_vxsat, pX11_integers_307_m_vxsat, pX11_integers_326_m_vxsat, pX11_integers_345_m_vxsat, pX11_integers_595_m_vxsat, pX11_integers_614_m_vxsat, pX11_integers_639_m_vxsat, pX11_integers_715_m_vxsat, pX11_integers_735_m_vxsat, if_true, if_false]
  have e4 : fX11_works__zX (nI L) (nI st) (nI d) (nI s1) (nI s2) 0 (nI 9) (nI S) un zX z = zX := by
    simp (decide := true) only [fX11_works__zX, if_true, if_false]
  unfold WK
  rw [e1, e2, e3, e4]
  exact alike_WO h (by decide) (by rw [kd_plain (by decide) (by decide) (show _ = (1 : Int32) by decide), mb_free (by decide)]) vt sat c _ rf re r8 rg rl
theorem w0_10 {S E L st d s1 s2 md : Nat} {im un tb : Int32} {x z xS zX : Nat → Int32} (h : HY S E L st d s1 s2 md 0 im un tb x z xS zX) {vt : Int32} (hvt : fX11_vlmax vt = nI (16 * E / S)) (sat : Int32) (c : Int64) (rf re r8 rg : Int32) (rl : Int64) : WK S E L st d s1 s2 md 0 (nI 10) im un tb x z xS zX vt sat c rf re r8 rg rl := by
  have e1 : fX11_works (nI st) (nI d) (nI s1) (nI s2) 0 (nI 10) (nI S) (nI E) un = fX11_alike (nI d) (nI s1) (nI s2) 0 (nI S) (nI E) un := by
    simp (decide := true) only [fX11_works, fX11_integers, pX11_integers_251_S1, pX11_integers_269_S1, pX11_integers_288_S1, pX11_integers_307_S1, pX11_integers_326_S1, pX11_integers_345_S1, pX11_integers_390_S1, pX11_integers_407_S1, pX11_integers_440_S1, pX11_integers_459_S1, pX11_integers_494_S1, pX11_integers_512_S1, pX11_integers_543_S1, pX11_integers_562_S1, pX11_integers_595_S1, pX11_integers_614_S1, pX11_integers_639_S1, pX11_integers_715_S1, pX11_integers_735_S1, if_true, if_false]
  have e2 : fX11_works__zV c (nI L) vt (nI st) (nI md) sat (nI d) (nI s1) (nI s2) 0 (nI 10) (nI S) (nI E) un zX z z = fX11_alike__zV c (nI L) vt (nI st) (nI md) sat (nI d) (nI s1) (nI s2) 0 (nI S) (nI E) un zX z z 4 := by
    simp (decide := true) only [fX11_works__zV, fX11_integers__zV, pX11_integers_251_zV, pX11_integers_269_zV, pX11_integers_288_zV, pX11_integers_307_zV, pX11_integers_326_zV, pX11_integers_345_zV, pX11_integers_390_zV, pX11_integers_407_zV, pX11_integers_440_zV, pX11_integers_459_zV, pX11_integers_494_zV, pX11_integers_512_zV, pX11_integers_543_zV, pX11_integers_562_zV, pX11_integers_595_zV, pX11_integers_614_zV, pX11_integers_639_zV, pX11_integers_715_zV, pX11_integers_735_zV, if_true, if_false]
  have e3 : fX11_works__m_vxsat c (nI L) vt (nI st) (nI md) sat (nI d) (nI s1) (nI s2) 0 (nI 10) (nI S) (nI E) un zX z z = fX11_alike__m_vxsat c (nI L) vt (nI st) (nI md) sat (nI d) (nI s1) (nI s2) 0 (nI S) (nI E) un zX z z 4 := by
    simp (decide := true) only [fX11_works__m_vxsat, fX11_integers__m_vxsat, pX11_integers_251_m_vxsat, pX11_integers_269_m_vxsat, pX11_integers_288_m_vxsat, pX11_integers_307_m_vxsat, pX11_integers_326_m_vxsat, pX11_integers_345_m_vxsat, pX11_integers_595_m_vxsat, pX11_integers_614_m_vxsat, pX11_integers_639_m_vxsat, pX11_integers_715_m_vxsat, pX11_integers_735_m_vxsat, if_true, if_false]
  have e4 : fX11_works__zX (nI L) (nI st) (nI d) (nI s1) (nI s2) 0 (nI 10) (nI S) un zX z = zX := by
    simp (decide := true) only [fX11_works__zX, if_true, if_false]
  unfold WK
  rw [e1, e2, e3, e4]
  exact alike_WO h (by decide) (by rw [kd_plain (by decide) (by decide) (show _ = (1 : Int32) by decide), mb_free (by decide)]) vt sat c _ rf re r8 rg rl
theorem w0_11 {S E L st d s1 s2 md : Nat} {im un tb : Int32} {x z xS zX : Nat → Int32} (h : HY S E L st d s1 s2 md 0 im un tb x z xS zX) {vt : Int32} (hvt : fX11_vlmax vt = nI (16 * E / S)) (sat : Int32) (c : Int64) (rf re r8 rg : Int32) (rl : Int64) : WK S E L st d s1 s2 md 0 (nI 11) im un tb x z xS zX vt sat c rf re r8 rg rl := by
  have e1 : fX11_works (nI st) (nI d) (nI s1) (nI s2) 0 (nI 11) (nI S) (nI E) un = fX11_alike (nI d) (nI s1) (nI s2) 0 (nI S) (nI E) un := by
    simp (decide := true) only [fX11_works, fX11_integers, pX11_integers_251_S1, pX11_integers_269_S1, pX11_integers_288_S1, pX11_integers_307_S1, pX11_integers_326_S1, pX11_integers_345_S1, pX11_integers_390_S1, pX11_integers_407_S1, pX11_integers_440_S1, pX11_integers_459_S1, pX11_integers_494_S1, pX11_integers_512_S1, pX11_integers_543_S1, pX11_integers_562_S1, pX11_integers_595_S1, pX11_integers_614_S1, pX11_integers_639_S1, pX11_integers_715_S1, pX11_integers_735_S1, if_true, if_false]
  have e2 : fX11_works__zV c (nI L) vt (nI st) (nI md) sat (nI d) (nI s1) (nI s2) 0 (nI 11) (nI S) (nI E) un zX z z = fX11_alike__zV c (nI L) vt (nI st) (nI md) sat (nI d) (nI s1) (nI s2) 0 (nI S) (nI E) un zX z z 5 := by
    simp (decide := true) only [fX11_works__zV, fX11_integers__zV, pX11_integers_251_zV, pX11_integers_269_zV, pX11_integers_288_zV, pX11_integers_307_zV, pX11_integers_326_zV, pX11_integers_345_zV, pX11_integers_390_zV, pX11_integers_407_zV, pX11_integers_440_zV, pX11_integers_459_zV, pX11_integers_494_zV, pX11_integers_512_zV, pX11_integers_543_zV, pX11_integers_562_zV, pX11_integers_595_zV, pX11_integers_614_zV, pX11_integers_639_zV, pX11_integers_715_zV, pX11_integers_735_zV, if_true, if_false]
  have e3 : fX11_works__m_vxsat c (nI L) vt (nI st) (nI md) sat (nI d) (nI s1) (nI s2) 0 (nI 11) (nI S) (nI E) un zX z z = fX11_alike__m_vxsat c (nI L) vt (nI st) (nI md) sat (nI d) (nI s1) (nI s2) 0 (nI S) (nI E) un zX z z 5 := by
    simp (decide := true) only [fX11_works__m_vxsat, fX11_integers__m_vxsat, pX11_integers_251_m_vxsat, pX11_integers_269_m_vxsat, pX11_integers_288_m_vxsat, pX11_integers_307_m_vxsat, pX11_integers_326_m_vxsat, pX11_integers_345_m_vxsat, pX11_integers_595_m_vxsat, pX11_integers_614_m_vxsat, pX11_integers_639_m_vxsat, pX11_integers_715_m_vxsat, pX11_integers_735_m_vxsat, if_true, if_false]
  have e4 : fX11_works__zX (nI L) (nI st) (nI d) (nI s1) (nI s2) 0 (nI 11) (nI S) un zX z = zX := by
    simp (decide := true) only [fX11_works__zX, if_true, if_false]
  unfold WK
  rw [e1, e2, e3, e4]
  exact alike_WO h (by decide) (by rw [kd_plain (by decide) (by decide) (show _ = (1 : Int32) by decide), mb_free (by decide)]) vt sat c _ rf re r8 rg rl
theorem w0_12 {S E L st d s1 s2 md : Nat} {im un tb : Int32} {x z xS zX : Nat → Int32} (h : HY S E L st d s1 s2 md 0 im un tb x z xS zX) {vt : Int32} (hvt : fX11_vlmax vt = nI (16 * E / S)) (sat : Int32) (c : Int64) (rf re r8 rg : Int32) (rl : Int64) : WK S E L st d s1 s2 md 0 (nI 12) im un tb x z xS zX vt sat c rf re r8 rg rl := by
  have e1 : fX11_works (nI st) (nI d) (nI s1) (nI s2) 0 (nI 12) (nI S) (nI E) un = fX11_gathers (nI d) (nI s1) (nI s2) 0 (nI S) (nI E) un (nI S) := by
    simp (decide := true) only [fX11_works, fX11_integers, pX11_integers_251_S1, pX11_integers_269_S1, pX11_integers_288_S1, pX11_integers_307_S1, pX11_integers_326_S1, pX11_integers_345_S1, pX11_integers_390_S1, pX11_integers_407_S1, pX11_integers_440_S1, pX11_integers_459_S1, pX11_integers_494_S1, pX11_integers_512_S1, pX11_integers_543_S1, pX11_integers_562_S1, pX11_integers_595_S1, pX11_integers_614_S1, pX11_integers_639_S1, pX11_integers_715_S1, pX11_integers_735_S1, if_true, if_false]
  have e2 : fX11_works__zV c (nI L) vt (nI st) (nI md) sat (nI d) (nI s1) (nI s2) 0 (nI 12) (nI S) (nI E) un zX z z = fX11_gathers__zV c (nI L) vt (nI st) (nI d) (nI s1) (nI s2) 0 (nI S) (nI E) un zX z z (nI S) := by
    simp (decide := true) only [fX11_works__zV, fX11_integers__zV, pX11_integers_251_zV, pX11_integers_269_zV, pX11_integers_288_zV, pX11_integers_307_zV, pX11_integers_326_zV, pX11_integers_345_zV, pX11_integers_390_zV, pX11_integers_407_zV, pX11_integers_440_zV, pX11_integers_459_zV, pX11_integers_494_zV, pX11_integers_512_zV, pX11_integers_543_zV, pX11_integers_562_zV, pX11_integers_595_zV, pX11_integers_614_zV, pX11_integers_639_zV, pX11_integers_715_zV, pX11_integers_735_zV, if_true, if_false]
  have e3 : fX11_works__m_vxsat c (nI L) vt (nI st) (nI md) sat (nI d) (nI s1) (nI s2) 0 (nI 12) (nI S) (nI E) un zX z z = sat := by
    simp (decide := true) only [fX11_works__m_vxsat, fX11_integers__m_vxsat, pX11_integers_251_m_vxsat, pX11_integers_269_m_vxsat, pX11_integers_288_m_vxsat, pX11_integers_307_m_vxsat, pX11_integers_326_m_vxsat, pX11_integers_345_m_vxsat, pX11_integers_595_m_vxsat, pX11_integers_614_m_vxsat, pX11_integers_639_m_vxsat, pX11_integers_715_m_vxsat, pX11_integers_735_m_vxsat, if_true, if_false]
  have e4 : fX11_works__zX (nI L) (nI st) (nI d) (nI s1) (nI s2) 0 (nI 12) (nI S) un zX z = zX := by
    simp (decide := true) only [fX11_works__zX, if_true, if_false]
  unfold WK
  rw [e1, e2, e3, e4]
  exact gathers_WO h (by decide) (by rw [kd_plain (by decide) (by decide) (show _ = (23 : Int32) by decide), mb_free (by decide)]) hvt sat c rf re r8 rg rl
theorem w0_13 {S E L st d s1 s2 md : Nat} {im un tb : Int32} {x z xS zX : Nat → Int32} (h : HY S E L st d s1 s2 md 0 im un tb x z xS zX) {vt : Int32} (hvt : fX11_vlmax vt = nI (16 * E / S)) (sat : Int32) (c : Int64) (rf re r8 rg : Int32) (rl : Int64) : WK S E L st d s1 s2 md 0 (nI 13) im un tb x z xS zX vt sat c rf re r8 rg rl := by
  have e1 : fX11_works (nI st) (nI d) (nI s1) (nI s2) 0 (nI 13) (nI S) (nI E) un = 0 := by
    simp (decide := true) only [fX11_works, fX11_integers, pX11_integers_251_S1, pX11_integers_269_S1, pX11_integers_288_S1, pX11_integers_307_S1, pX11_integers_326_S1, pX11_integers_345_S1, pX11_integers_390_S1, pX11_integers_407_S1, pX11_integers_440_S1, pX11_integers_459_S1, pX11_integers_494_S1, pX11_integers_512_S1, pX11_integers_543_S1, pX11_integers_562_S1, pX11_integers_595_S1, pX11_integers_614_S1, pX11_integers_639_S1, pX11_integers_715_S1, pX11_integers_735_S1, if_true, if_false]
  have e2 : fX11_works__zV c (nI L) vt (nI st) (nI md) sat (nI d) (nI s1) (nI s2) 0 (nI 13) (nI S) (nI E) un zX z z = z := by
    simp (decide := true) only [fX11_works__zV, fX11_integers__zV, pX11_integers_251_zV, pX11_integers_269_zV, pX11_integers_288_zV, pX11_integers_307_zV, pX11_integers_326_zV, pX11_integers_345_zV, pX11_integers_390_zV, pX11_integers_407_zV, pX11_integers_440_zV, pX11_integers_459_zV, pX11_integers_494_zV, pX11_integers_512_zV, pX11_integers_543_zV, pX11_integers_562_zV, pX11_integers_595_zV, pX11_integers_614_zV, pX11_integers_639_zV, pX11_integers_715_zV, pX11_integers_735_zV, if_true, if_false]
  have e3 : fX11_works__m_vxsat c (nI L) vt (nI st) (nI md) sat (nI d) (nI s1) (nI s2) 0 (nI 13) (nI S) (nI E) un zX z z = sat := by
    simp (decide := true) only [fX11_works__m_vxsat, fX11_integers__m_vxsat, pX11_integers_251_m_vxsat, pX11_integers_269_m_vxsat, pX11_integers_288_m_vxsat, pX11_integers_307_m_vxsat, pX11_integers_326_m_vxsat, pX11_integers_345_m_vxsat, pX11_integers_595_m_vxsat, pX11_integers_614_m_vxsat, pX11_integers_639_m_vxsat, pX11_integers_715_m_vxsat, pX11_integers_735_m_vxsat, if_true, if_false]
  have e4 : fX11_works__zX (nI L) (nI st) (nI d) (nI s1) (nI s2) 0 (nI 13) (nI S) un zX z = zX := by
    simp (decide := true) only [fX11_works__zX, if_true, if_false]
  unfold WK
  rw [e1, e2, e3, e4]
  exact ill_WO h (kd_none (by decide)) vt sat c _ rf re r8 rg rl
theorem w0_14 {S E L st d s1 s2 md : Nat} {im un tb : Int32} {x z xS zX : Nat → Int32} (h : HY S E L st d s1 s2 md 0 im un tb x z xS zX) {vt : Int32} (hvt : fX11_vlmax vt = nI (16 * E / S)) (sat : Int32) (c : Int64) (rf re r8 rg : Int32) (rl : Int64) : WK S E L st d s1 s2 md 0 (nI 14) im un tb x z xS zX vt sat c rf re r8 rg rl := by
  have e1 : fX11_works (nI st) (nI d) (nI s1) (nI s2) 0 (nI 14) (nI S) (nI E) un = fX11_gathers (nI d) (nI s1) (nI s2) 0 (nI S) (nI E) un 16 := by
    simp (decide := true) only [fX11_works, fX11_integers, pX11_integers_251_S1, pX11_integers_269_S1, pX11_integers_288_S1, pX11_integers_307_S1, pX11_integers_326_S1, pX11_integers_345_S1, pX11_integers_390_S1, pX11_integers_407_S1, pX11_integers_440_S1, pX11_integers_459_S1, pX11_integers_494_S1, pX11_integers_512_S1, pX11_integers_543_S1, pX11_integers_562_S1, pX11_integers_595_S1, pX11_integers_614_S1, pX11_integers_639_S1, pX11_integers_715_S1, pX11_integers_735_S1, if_true, if_false]
  have e2 : fX11_works__zV c (nI L) vt (nI st) (nI md) sat (nI d) (nI s1) (nI s2) 0 (nI 14) (nI S) (nI E) un zX z z = fX11_gathers__zV c (nI L) vt (nI st) (nI d) (nI s1) (nI s2) 0 (nI S) (nI E) un zX z z 16 := by
    simp (decide := true) only [fX11_works__zV, fX11_integers__zV, pX11_integers_251_zV, pX11_integers_269_zV, pX11_integers_288_zV, pX11_integers_307_zV, pX11_integers_326_zV, pX11_integers_345_zV, pX11_integers_390_zV, pX11_integers_407_zV, pX11_integers_440_zV, pX11_integers_459_zV, pX11_integers_494_zV, pX11_integers_512_zV, pX11_integers_543_zV, pX11_integers_562_zV, pX11_integers_595_zV, pX11_integers_614_zV, pX11_integers_639_zV, pX11_integers_715_zV, pX11_integers_735_zV, if_true, if_false]
  have e3 : fX11_works__m_vxsat c (nI L) vt (nI st) (nI md) sat (nI d) (nI s1) (nI s2) 0 (nI 14) (nI S) (nI E) un zX z z = sat := by
    simp (decide := true) only [fX11_works__m_vxsat, fX11_integers__m_vxsat, pX11_integers_251_m_vxsat, pX11_integers_269_m_vxsat, pX11_integers_288_m_vxsat, pX11_integers_307_m_vxsat, pX11_integers_326_m_vxsat, pX11_integers_345_m_vxsat, pX11_integers_595_m_vxsat, pX11_integers_614_m_vxsat, pX11_integers_639_m_vxsat, pX11_integers_715_m_vxsat, pX11_integers_735_m_vxsat, if_true, if_false]
  have e4 : fX11_works__zX (nI L) (nI st) (nI d) (nI s1) (nI s2) 0 (nI 14) (nI S) un zX z = zX := by
    simp (decide := true) only [fX11_works__zX, if_true, if_false]
  unfold WK
  rw [e1, e2, e3, e4]
  exact gathers16_WO h (by decide) (by rw [kd_ref (by decide) (show _ = (24 : Int32) by unfold fX1_refined; rw [if_pos (by decide)]; unfold pX1_refined_69_S1; rw [if_neg (by decide)]), mb_free (by decide)]) hvt sat c rf re r8 rg rl
theorem w0_15 {S E L st d s1 s2 md : Nat} {im un tb : Int32} {x z xS zX : Nat → Int32} (h : HY S E L st d s1 s2 md 0 im un tb x z xS zX) {vt : Int32} (hvt : fX11_vlmax vt = nI (16 * E / S)) (sat : Int32) (c : Int64) (rf re r8 rg : Int32) (rl : Int64) : WK S E L st d s1 s2 md 0 (nI 15) im un tb x z xS zX vt sat c rf re r8 rg rl := by
  have e1 : fX11_works (nI st) (nI d) (nI s1) (nI s2) 0 (nI 15) (nI S) (nI E) un = 0 := by
    simp (decide := true) only [fX11_works, fX11_integers, pX11_integers_251_S1, pX11_integers_269_S1, pX11_integers_288_S1, pX11_integers_307_S1, pX11_integers_326_S1, pX11_integers_345_S1, pX11_integers_390_S1, pX11_integers_407_S1, pX11_integers_440_S1, pX11_integers_459_S1, pX11_integers_494_S1, pX11_integers_512_S1, pX11_integers_543_S1, pX11_integers_562_S1, pX11_integers_595_S1, pX11_integers_614_S1, pX11_integers_639_S1, pX11_integers_715_S1, pX11_integers_735_S1, if_true, if_false]
  have e2 : fX11_works__zV c (nI L) vt (nI st) (nI md) sat (nI d) (nI s1) (nI s2) 0 (nI 15) (nI S) (nI E) un zX z z = z := by
    simp (decide := true) only [fX11_works__zV, fX11_integers__zV, pX11_integers_251_zV, pX11_integers_269_zV, pX11_integers_288_zV, pX11_integers_307_zV, pX11_integers_326_zV, pX11_integers_345_zV, pX11_integers_390_zV, pX11_integers_407_zV, pX11_integers_440_zV, pX11_integers_459_zV, pX11_integers_494_zV, pX11_integers_512_zV, pX11_integers_543_zV, pX11_integers_562_zV, pX11_integers_595_zV, pX11_integers_614_zV, pX11_integers_639_zV, pX11_integers_715_zV, pX11_integers_735_zV, if_true, if_false]
  have e3 : fX11_works__m_vxsat c (nI L) vt (nI st) (nI md) sat (nI d) (nI s1) (nI s2) 0 (nI 15) (nI S) (nI E) un zX z z = sat := by
    simp (decide := true) only [fX11_works__m_vxsat, fX11_integers__m_vxsat, pX11_integers_251_m_vxsat, pX11_integers_269_m_vxsat, pX11_integers_288_m_vxsat, pX11_integers_307_m_vxsat, pX11_integers_326_m_vxsat, pX11_integers_345_m_vxsat, pX11_integers_595_m_vxsat, pX11_integers_614_m_vxsat, pX11_integers_639_m_vxsat, pX11_integers_715_m_vxsat, pX11_integers_735_m_vxsat, if_true, if_false]
  have e4 : fX11_works__zX (nI L) (nI st) (nI d) (nI s1) (nI s2) 0 (nI 15) (nI S) un zX z = zX := by
    simp (decide := true) only [fX11_works__zX, if_true, if_false]
  unfold WK
  rw [e1, e2, e3, e4]
  exact ill_WO h (kd_none (by decide)) vt sat c _ rf re r8 rg rl
theorem w0_16 {S E L st d s1 s2 md : Nat} {im un tb : Int32} {x z xS zX : Nat → Int32} (h : HY S E L st d s1 s2 md 0 im un tb x z xS zX) {vt : Int32} (hvt : fX11_vlmax vt = nI (16 * E / S)) (sat : Int32) (c : Int64) (rf re r8 rg : Int32) (rl : Int64) : WK S E L st d s1 s2 md 0 (nI 16) im un tb x z xS zX vt sat c rf re r8 rg rl := by
  have e1 : fX11_works (nI st) (nI d) (nI s1) (nI s2) 0 (nI 16) (nI S) (nI E) un = fX11_carries (nI d) (nI s1) (nI s2) 0 (nI S) (nI E) un 0 := by
    simp (decide := true) only [fX11_works, fX11_integers, pX11_integers_251_S1, pX11_integers_269_S1, pX11_integers_288_S1, pX11_integers_307_S1, pX11_integers_326_S1, pX11_integers_345_S1, pX11_integers_390_S1, pX11_integers_407_S1, pX11_integers_440_S1, pX11_integers_459_S1, pX11_integers_494_S1, pX11_integers_512_S1, pX11_integers_543_S1, pX11_integers_562_S1, pX11_integers_595_S1, pX11_integers_614_S1, pX11_integers_639_S1, pX11_integers_715_S1, pX11_integers_735_S1, if_true, if_false]
  have e2 : fX11_works__zV c (nI L) vt (nI st) (nI md) sat (nI d) (nI s1) (nI s2) 0 (nI 16) (nI S) (nI E) un zX z z = fX11_carries__zV c (nI L) vt (nI st) (nI d) (nI s1) (nI s2) 0 (nI S) (nI E) un zX z z 0 0 := by
    simp (decide := true) only [fX11_works__zV, fX11_integers__zV, pX11_integers_251_zV, pX11_integers_269_zV, pX11_integers_288_zV, pX11_integers_307_zV, pX11_integers_326_zV, pX11_integers_345_zV, pX11_integers_390_zV, pX11_integers_407_zV, pX11_integers_440_zV, pX11_integers_459_zV, pX11_integers_494_zV, pX11_integers_512_zV, pX11_integers_543_zV, pX11_integers_562_zV, pX11_integers_595_zV, pX11_integers_614_zV, pX11_integers_639_zV, pX11_integers_715_zV, pX11_integers_735_zV, if_true, if_false]
  have e3 : fX11_works__m_vxsat c (nI L) vt (nI st) (nI md) sat (nI d) (nI s1) (nI s2) 0 (nI 16) (nI S) (nI E) un zX z z = sat := by
    simp (decide := true) only [fX11_works__m_vxsat, fX11_integers__m_vxsat, pX11_integers_251_m_vxsat, pX11_integers_269_m_vxsat, pX11_integers_288_m_vxsat, pX11_integers_307_m_vxsat, pX11_integers_326_m_vxsat, pX11_integers_345_m_vxsat, pX11_integers_595_m_vxsat, pX11_integers_614_m_vxsat, pX11_integers_639_m_vxsat, pX11_integers_715_m_vxsat, pX11_integers_735_m_vxsat, if_true, if_false]
  have e4 : fX11_works__zX (nI L) (nI st) (nI d) (nI s1) (nI s2) 0 (nI 16) (nI S) un zX z = zX := by
    simp (decide := true) only [fX11_works__zX, if_true, if_false]
  unfold WK
  rw [e1, e2, e3, e4]
  have hmu := h.2.2.2.2.2.2.2.2.2.2.2.2.1
  have hkd := kd_plain (F := 0) (s1 := nI s1) (s2 := nI s2) (H := nI 16) (im := im) (by decide) (by decide) (show _ = (3 : Int32) by decide)
  rw [mb_3] at hkd
  by_cases u0 : un = 0
  · have hi : ¬ im = 0 := fun w => hmu.mp w u0
    rw [if_neg hi] at hkd
    exact adc_WO h u0 (by decide) hkd vt sat c _ rf re r8 rg rl
  · rw [if_pos (hmu.mpr u0)] at hkd
    have f1 : fX11_carries (nI d) (nI s1) (nI s2) 0 (nI S) (nI E) un 0 = 0 := by unfold fX11_carries; rw [if_pos rfl, if_neg u0]
    have f2 : fX11_carries__zV c (nI L) vt (nI st) (nI d) (nI s1) (nI s2) 0 (nI S) (nI E) un zX z z 0 0 = z := by unfold fX11_carries__zV; rw [if_pos rfl, if_neg u0]
    rw [f1, f2]
    exact ill_WO h hkd vt sat c _ rf re r8 rg rl
theorem w0_17 {S E L st d s1 s2 md : Nat} {im un tb : Int32} {x z xS zX : Nat → Int32} (h : HY S E L st d s1 s2 md 0 im un tb x z xS zX) {vt : Int32} (hvt : fX11_vlmax vt = nI (16 * E / S)) (sat : Int32) (c : Int64) (rf re r8 rg : Int32) (rl : Int64) : WK S E L st d s1 s2 md 0 (nI 17) im un tb x z xS zX vt sat c rf re r8 rg rl := by
  have e1 : fX11_works (nI st) (nI d) (nI s1) (nI s2) 0 (nI 17) (nI S) (nI E) un = fX11_carries (nI d) (nI s1) (nI s2) 0 (nI S) (nI E) un 1 := by
    simp (decide := true) only [fX11_works, fX11_integers, pX11_integers_251_S1, pX11_integers_269_S1, pX11_integers_288_S1, pX11_integers_307_S1, pX11_integers_326_S1, pX11_integers_345_S1, pX11_integers_390_S1, pX11_integers_407_S1, pX11_integers_440_S1, pX11_integers_459_S1, pX11_integers_494_S1, pX11_integers_512_S1, pX11_integers_543_S1, pX11_integers_562_S1, pX11_integers_595_S1, pX11_integers_614_S1, pX11_integers_639_S1, pX11_integers_715_S1, pX11_integers_735_S1, if_true, if_false]
  have e2 : fX11_works__zV c (nI L) vt (nI st) (nI md) sat (nI d) (nI s1) (nI s2) 0 (nI 17) (nI S) (nI E) un zX z z = fX11_carries__zV c (nI L) vt (nI st) (nI d) (nI s1) (nI s2) 0 (nI S) (nI E) un zX z z 0 1 := by
    simp (decide := true) only [fX11_works__zV, fX11_integers__zV, pX11_integers_251_zV, pX11_integers_269_zV, pX11_integers_288_zV, pX11_integers_307_zV, pX11_integers_326_zV, pX11_integers_345_zV, pX11_integers_390_zV, pX11_integers_407_zV, pX11_integers_440_zV, pX11_integers_459_zV, pX11_integers_494_zV, pX11_integers_512_zV, pX11_integers_543_zV, pX11_integers_562_zV, pX11_integers_595_zV, pX11_integers_614_zV, pX11_integers_639_zV, pX11_integers_715_zV, pX11_integers_735_zV, if_true, if_false]
  have e3 : fX11_works__m_vxsat c (nI L) vt (nI st) (nI md) sat (nI d) (nI s1) (nI s2) 0 (nI 17) (nI S) (nI E) un zX z z = sat := by
    simp (decide := true) only [fX11_works__m_vxsat, fX11_integers__m_vxsat, pX11_integers_251_m_vxsat, pX11_integers_269_m_vxsat, pX11_integers_288_m_vxsat, pX11_integers_307_m_vxsat, pX11_integers_326_m_vxsat, pX11_integers_345_m_vxsat, pX11_integers_595_m_vxsat, pX11_integers_614_m_vxsat, pX11_integers_639_m_vxsat, pX11_integers_715_m_vxsat, pX11_integers_735_m_vxsat, if_true, if_false]
  have e4 : fX11_works__zX (nI L) (nI st) (nI d) (nI s1) (nI s2) 0 (nI 17) (nI S) un zX z = zX := by
    simp (decide := true) only [fX11_works__zX, if_true, if_false]
  unfold WK
  rw [e1, e2, e3, e4]
  exact madc_WO h (by decide) (by rw [kd_plain (by decide) (by decide) (show _ = (4 : Int32) by decide), mb_free (by decide)]) vt sat c _ rf re r8 rg rl
theorem w0_18 {S E L st d s1 s2 md : Nat} {im un tb : Int32} {x z xS zX : Nat → Int32} (h : HY S E L st d s1 s2 md 0 im un tb x z xS zX) {vt : Int32} (hvt : fX11_vlmax vt = nI (16 * E / S)) (sat : Int32) (c : Int64) (rf re r8 rg : Int32) (rl : Int64) : WK S E L st d s1 s2 md 0 (nI 18) im un tb x z xS zX vt sat c rf re r8 rg rl := by
  have e1 : fX11_works (nI st) (nI d) (nI s1) (nI s2) 0 (nI 18) (nI S) (nI E) un = (if fX11_carries (nI d) (nI s1) (nI s2) 0 (nI S) (nI E) un 0 = 0 then (0 : Int32) else 1) := by
    simp (decide := true) only [fX11_works, fX11_integers, pX11_integers_251_S1, pX11_integers_269_S1, pX11_integers_288_S1, pX11_integers_307_S1, pX11_integers_326_S1, pX11_integers_345_S1, pX11_integers_390_S1, pX11_integers_407_S1, pX11_integers_440_S1, pX11_integers_459_S1, pX11_integers_494_S1, pX11_integers_512_S1, pX11_integers_543_S1, pX11_integers_562_S1, pX11_integers_595_S1, pX11_integers_614_S1, pX11_integers_639_S1, pX11_integers_715_S1, pX11_integers_735_S1, if_true, if_false]
  have e2 : fX11_works__zV c (nI L) vt (nI st) (nI md) sat (nI d) (nI s1) (nI s2) 0 (nI 18) (nI S) (nI E) un zX z z = fX11_carries__zV c (nI L) vt (nI st) (nI d) (nI s1) (nI s2) 0 (nI S) (nI E) un zX z z 1 0 := by
    simp (decide := true) only [fX11_works__zV, fX11_integers__zV, pX11_integers_251_zV, pX11_integers_269_zV, pX11_integers_288_zV, pX11_integers_307_zV, pX11_integers_326_zV, pX11_integers_345_zV, pX11_integers_390_zV, pX11_integers_407_zV, pX11_integers_440_zV, pX11_integers_459_zV, pX11_integers_494_zV, pX11_integers_512_zV, pX11_integers_543_zV, pX11_integers_562_zV, pX11_integers_595_zV, pX11_integers_614_zV, pX11_integers_639_zV, pX11_integers_715_zV, pX11_integers_735_zV, if_true, if_false]
  have e3 : fX11_works__m_vxsat c (nI L) vt (nI st) (nI md) sat (nI d) (nI s1) (nI s2) 0 (nI 18) (nI S) (nI E) un zX z z = sat := by
    simp (decide := true) only [fX11_works__m_vxsat, fX11_integers__m_vxsat, pX11_integers_251_m_vxsat, pX11_integers_269_m_vxsat, pX11_integers_288_m_vxsat, pX11_integers_307_m_vxsat, pX11_integers_326_m_vxsat, pX11_integers_345_m_vxsat, pX11_integers_595_m_vxsat, pX11_integers_614_m_vxsat, pX11_integers_639_m_vxsat, pX11_integers_715_m_vxsat, pX11_integers_735_m_vxsat, if_true, if_false]
  have e4 : fX11_works__zX (nI L) (nI st) (nI d) (nI s1) (nI s2) 0 (nI 18) (nI S) un zX z = zX := by
    simp (decide := true) only [fX11_works__zX, if_true, if_false]
  unfold WK
  rw [e1, e2, e3, e4]
  refine WO_b ?_
  have hmu := h.2.2.2.2.2.2.2.2.2.2.2.2.1
  have hkd := kd_plain (F := 0) (s1 := nI s1) (s2 := nI s2) (H := nI 18) (im := im) (by decide) (by decide) (show _ = (3 : Int32) by decide)
  rw [mb_3] at hkd
  by_cases u0 : un = 0
  · have hi : ¬ im = 0 := fun w => hmu.mp w u0
    rw [if_neg hi] at hkd
    exact adc_WO h u0 (by decide) hkd vt sat c _ rf re r8 rg rl
  · rw [if_pos (hmu.mpr u0)] at hkd
    have f1 : fX11_carries (nI d) (nI s1) (nI s2) 0 (nI S) (nI E) un 0 = 0 := by unfold fX11_carries; rw [if_pos rfl, if_neg u0]
    have f2 : fX11_carries__zV c (nI L) vt (nI st) (nI d) (nI s1) (nI s2) 0 (nI S) (nI E) un zX z z 1 0 = z := by unfold fX11_carries__zV; rw [if_pos rfl, if_neg u0]
    rw [f1, f2]
    exact ill_WO h hkd vt sat c _ rf re r8 rg rl
theorem w0_19 {S E L st d s1 s2 md : Nat} {im un tb : Int32} {x z xS zX : Nat → Int32} (h : HY S E L st d s1 s2 md 0 im un tb x z xS zX) {vt : Int32} (hvt : fX11_vlmax vt = nI (16 * E / S)) (sat : Int32) (c : Int64) (rf re r8 rg : Int32) (rl : Int64) : WK S E L st d s1 s2 md 0 (nI 19) im un tb x z xS zX vt sat c rf re r8 rg rl := by
  have e1 : fX11_works (nI st) (nI d) (nI s1) (nI s2) 0 (nI 19) (nI S) (nI E) un = (if fX11_carries (nI d) (nI s1) (nI s2) 0 (nI S) (nI E) un 1 = 0 then (0 : Int32) else 1) := by
    simp (decide := true) only [fX11_works, fX11_integers, pX11_integers_251_S1, pX11_integers_269_S1, pX11_integers_288_S1, pX11_integers_307_S1, pX11_integers_326_S1, pX11_integers_345_S1, pX11_integers_390_S1, pX11_integers_407_S1, pX11_integers_440_S1, pX11_integers_459_S1, pX11_integers_494_S1, pX11_integers_512_S1, pX11_integers_543_S1, pX11_integers_562_S1, pX11_integers_595_S1, pX11_integers_614_S1, pX11_integers_639_S1, pX11_integers_715_S1, pX11_integers_735_S1, if_true, if_false]
  have e2 : fX11_works__zV c (nI L) vt (nI st) (nI md) sat (nI d) (nI s1) (nI s2) 0 (nI 19) (nI S) (nI E) un zX z z = fX11_carries__zV c (nI L) vt (nI st) (nI d) (nI s1) (nI s2) 0 (nI S) (nI E) un zX z z 1 1 := by
    simp (decide := true) only [fX11_works__zV, fX11_integers__zV, pX11_integers_251_zV, pX11_integers_269_zV, pX11_integers_288_zV, pX11_integers_307_zV, pX11_integers_326_zV, pX11_integers_345_zV, pX11_integers_390_zV, pX11_integers_407_zV, pX11_integers_440_zV, pX11_integers_459_zV, pX11_integers_494_zV, pX11_integers_512_zV, pX11_integers_543_zV, pX11_integers_562_zV, pX11_integers_595_zV, pX11_integers_614_zV, pX11_integers_639_zV, pX11_integers_715_zV, pX11_integers_735_zV, if_true, if_false]
  have e3 : fX11_works__m_vxsat c (nI L) vt (nI st) (nI md) sat (nI d) (nI s1) (nI s2) 0 (nI 19) (nI S) (nI E) un zX z z = sat := by
    simp (decide := true) only [fX11_works__m_vxsat, fX11_integers__m_vxsat, pX11_integers_251_m_vxsat, pX11_integers_269_m_vxsat, pX11_integers_288_m_vxsat, pX11_integers_307_m_vxsat, pX11_integers_326_m_vxsat, pX11_integers_345_m_vxsat, pX11_integers_595_m_vxsat, pX11_integers_614_m_vxsat, pX11_integers_639_m_vxsat, pX11_integers_715_m_vxsat, pX11_integers_735_m_vxsat, if_true, if_false]
  have e4 : fX11_works__zX (nI L) (nI st) (nI d) (nI s1) (nI s2) 0 (nI 19) (nI S) un zX z = zX := by
    simp (decide := true) only [fX11_works__zX, if_true, if_false]
  unfold WK
  rw [e1, e2, e3, e4]
  refine WO_b ?_
  exact madc_WO h (by decide) (by rw [kd_plain (by decide) (by decide) (show _ = (4 : Int32) by decide), mb_free (by decide)]) vt sat c _ rf re r8 rg rl
theorem w0_20 {S E L st d s1 s2 md : Nat} {im un tb : Int32} {x z xS zX : Nat → Int32} (h : HY S E L st d s1 s2 md 0 im un tb x z xS zX) {vt : Int32} (hvt : fX11_vlmax vt = nI (16 * E / S)) (sat : Int32) (c : Int64) (rf re r8 rg : Int32) (rl : Int64) : WK S E L st d s1 s2 md 0 (nI 20) im un tb x z xS zX vt sat c rf re r8 rg rl := by
  have e1 : fX11_works (nI st) (nI d) (nI s1) (nI s2) 0 (nI 20) (nI S) (nI E) un = 0 := by
    simp (decide := true) only [fX11_works, fX11_integers, pX11_integers_251_S1, pX11_integers_269_S1, pX11_integers_288_S1, pX11_integers_307_S1, pX11_integers_326_S1, pX11_integers_345_S1, pX11_integers_390_S1, pX11_integers_407_S1, pX11_integers_440_S1, pX11_integers_459_S1, pX11_integers_494_S1, pX11_integers_512_S1, pX11_integers_543_S1, pX11_integers_562_S1, pX11_integers_595_S1, pX11_integers_614_S1, pX11_integers_639_S1, pX11_integers_715_S1, pX11_integers_735_S1, if_true, if_false]
  have e2 : fX11_works__zV c (nI L) vt (nI st) (nI md) sat (nI d) (nI s1) (nI s2) 0 (nI 20) (nI S) (nI E) un zX z z = z := by
    simp (decide := true) only [fX11_works__zV, fX11_integers__zV, pX11_integers_251_zV, pX11_integers_269_zV, pX11_integers_288_zV, pX11_integers_307_zV, pX11_integers_326_zV, pX11_integers_345_zV, pX11_integers_390_zV, pX11_integers_407_zV, pX11_integers_440_zV, pX11_integers_459_zV, pX11_integers_494_zV, pX11_integers_512_zV, pX11_integers_543_zV, pX11_integers_562_zV, pX11_integers_595_zV, pX11_integers_614_zV, pX11_integers_639_zV, pX11_integers_715_zV, pX11_integers_735_zV, if_true, if_false]
  have e3 : fX11_works__m_vxsat c (nI L) vt (nI st) (nI md) sat (nI d) (nI s1) (nI s2) 0 (nI 20) (nI S) (nI E) un zX z z = sat := by
    simp (decide := true) only [fX11_works__m_vxsat, fX11_integers__m_vxsat, pX11_integers_251_m_vxsat, pX11_integers_269_m_vxsat, pX11_integers_288_m_vxsat, pX11_integers_307_m_vxsat, pX11_integers_326_m_vxsat, pX11_integers_345_m_vxsat, pX11_integers_595_m_vxsat, pX11_integers_614_m_vxsat, pX11_integers_639_m_vxsat, pX11_integers_715_m_vxsat, pX11_integers_735_m_vxsat, if_true, if_false]
  have e4 : fX11_works__zX (nI L) (nI st) (nI d) (nI s1) (nI s2) 0 (nI 20) (nI S) un zX z = zX := by
    simp (decide := true) only [fX11_works__zX, if_true, if_false]
  unfold WK
  rw [e1, e2, e3, e4]
  exact ill_WO h (kd_none (by decide)) vt sat c _ rf re r8 rg rl
theorem w0_21 {S E L st d s1 s2 md : Nat} {im un tb : Int32} {x z xS zX : Nat → Int32} (h : HY S E L st d s1 s2 md 0 im un tb x z xS zX) {vt : Int32} (hvt : fX11_vlmax vt = nI (16 * E / S)) (sat : Int32) (c : Int64) (rf re r8 rg : Int32) (rl : Int64) : WK S E L st d s1 s2 md 0 (nI 21) im un tb x z xS zX vt sat c rf re r8 rg rl := by
  have e1 : fX11_works (nI st) (nI d) (nI s1) (nI s2) 0 (nI 21) (nI S) (nI E) un = 0 := by
    simp (decide := true) only [fX11_works, fX11_integers, pX11_integers_251_S1, pX11_integers_269_S1, pX11_integers_288_S1, pX11_integers_307_S1, pX11_integers_326_S1, pX11_integers_345_S1, pX11_integers_390_S1, pX11_integers_407_S1, pX11_integers_440_S1, pX11_integers_459_S1, pX11_integers_494_S1, pX11_integers_512_S1, pX11_integers_543_S1, pX11_integers_562_S1, pX11_integers_595_S1, pX11_integers_614_S1, pX11_integers_639_S1, pX11_integers_715_S1, pX11_integers_735_S1, if_true, if_false]
  have e2 : fX11_works__zV c (nI L) vt (nI st) (nI md) sat (nI d) (nI s1) (nI s2) 0 (nI 21) (nI S) (nI E) un zX z z = z := by
    simp (decide := true) only [fX11_works__zV, fX11_integers__zV, pX11_integers_251_zV, pX11_integers_269_zV, pX11_integers_288_zV, pX11_integers_307_zV, pX11_integers_326_zV, pX11_integers_345_zV, pX11_integers_390_zV, pX11_integers_407_zV, pX11_integers_440_zV, pX11_integers_459_zV, pX11_integers_494_zV, pX11_integers_512_zV, pX11_integers_543_zV, pX11_integers_562_zV, pX11_integers_595_zV, pX11_integers_614_zV, pX11_integers_639_zV, pX11_integers_715_zV, pX11_integers_735_zV, if_true, if_false]
  have e3 : fX11_works__m_vxsat c (nI L) vt (nI st) (nI md) sat (nI d) (nI s1) (nI s2) 0 (nI 21) (nI S) (nI E) un zX z z = sat := by
    simp (decide := true) only [fX11_works__m_vxsat, fX11_integers__m_vxsat, pX11_integers_251_m_vxsat, pX11_integers_269_m_vxsat, pX11_integers_288_m_vxsat, pX11_integers_307_m_vxsat, pX11_integers_326_m_vxsat, pX11_integers_345_m_vxsat, pX11_integers_595_m_vxsat, pX11_integers_614_m_vxsat, pX11_integers_639_m_vxsat, pX11_integers_715_m_vxsat, pX11_integers_735_m_vxsat, if_true, if_false]
  have e4 : fX11_works__zX (nI L) (nI st) (nI d) (nI s1) (nI s2) 0 (nI 21) (nI S) un zX z = zX := by
    simp (decide := true) only [fX11_works__zX, if_true, if_false]
  unfold WK
  rw [e1, e2, e3, e4]
  exact ill_WO h (kd_none (by decide)) vt sat c _ rf re r8 rg rl
theorem w0_22 {S E L st d s1 s2 md : Nat} {im un tb : Int32} {x z xS zX : Nat → Int32} (h : HY S E L st d s1 s2 md 0 im un tb x z xS zX) {vt : Int32} (hvt : fX11_vlmax vt = nI (16 * E / S)) (sat : Int32) (c : Int64) (rf re r8 rg : Int32) (rl : Int64) : WK S E L st d s1 s2 md 0 (nI 22) im un tb x z xS zX vt sat c rf re r8 rg rl := by
  have e1 : fX11_works (nI st) (nI d) (nI s1) (nI s2) 0 (nI 22) (nI S) (nI E) un = 0 := by
    simp (decide := true) only [fX11_works, fX11_integers, pX11_integers_251_S1, pX11_integers_269_S1, pX11_integers_288_S1, pX11_integers_307_S1, pX11_integers_326_S1, pX11_integers_345_S1, pX11_integers_390_S1, pX11_integers_407_S1, pX11_integers_440_S1, pX11_integers_459_S1, pX11_integers_494_S1, pX11_integers_512_S1, pX11_integers_543_S1, pX11_integers_562_S1, pX11_integers_595_S1, pX11_integers_614_S1, pX11_integers_639_S1, pX11_integers_715_S1, pX11_integers_735_S1, if_true, if_false]
  have e2 : fX11_works__zV c (nI L) vt (nI st) (nI md) sat (nI d) (nI s1) (nI s2) 0 (nI 22) (nI S) (nI E) un zX z z = z := by
    simp (decide := true) only [fX11_works__zV, fX11_integers__zV, pX11_integers_251_zV, pX11_integers_269_zV, pX11_integers_288_zV, pX11_integers_307_zV, pX11_integers_326_zV, pX11_integers_345_zV, pX11_integers_390_zV, pX11_integers_407_zV, pX11_integers_440_zV, pX11_integers_459_zV, pX11_integers_494_zV, pX11_integers_512_zV, pX11_integers_543_zV, pX11_integers_562_zV, pX11_integers_595_zV, pX11_integers_614_zV, pX11_integers_639_zV, pX11_integers_715_zV, pX11_integers_735_zV, if_true, if_false]
  have e3 : fX11_works__m_vxsat c (nI L) vt (nI st) (nI md) sat (nI d) (nI s1) (nI s2) 0 (nI 22) (nI S) (nI E) un zX z z = sat := by
    simp (decide := true) only [fX11_works__m_vxsat, fX11_integers__m_vxsat, pX11_integers_251_m_vxsat, pX11_integers_269_m_vxsat, pX11_integers_288_m_vxsat, pX11_integers_307_m_vxsat, pX11_integers_326_m_vxsat, pX11_integers_345_m_vxsat, pX11_integers_595_m_vxsat, pX11_integers_614_m_vxsat, pX11_integers_639_m_vxsat, pX11_integers_715_m_vxsat, pX11_integers_735_m_vxsat, if_true, if_false]
  have e4 : fX11_works__zX (nI L) (nI st) (nI d) (nI s1) (nI s2) 0 (nI 22) (nI S) un zX z = zX := by
    simp (decide := true) only [fX11_works__zX, if_true, if_false]
  unfold WK
  rw [e1, e2, e3, e4]
  exact ill_WO h (kd_none (by decide)) vt sat c _ rf re r8 rg rl
theorem w0_23 {S E L st d s1 s2 md : Nat} {im un tb : Int32} {x z xS zX : Nat → Int32} (h : HY S E L st d s1 s2 md 0 im un tb x z xS zX) {vt : Int32} (hvt : fX11_vlmax vt = nI (16 * E / S)) (sat : Int32) (c : Int64) (rf re r8 rg : Int32) (rl : Int64) : WK S E L st d s1 s2 md 0 (nI 23) im un tb x z xS zX vt sat c rf re r8 rg rl := by
  have e1 : fX11_works (nI st) (nI d) (nI s1) (nI s2) 0 (nI 23) (nI S) (nI E) un = fX11_merges (nI d) (nI s1) (nI s2) 0 (nI S) (nI E) un := by
    simp (decide := true) only [fX11_works, fX11_integers, pX11_integers_251_S1, pX11_integers_269_S1, pX11_integers_288_S1, pX11_integers_307_S1, pX11_integers_326_S1, pX11_integers_345_S1, pX11_integers_390_S1, pX11_integers_407_S1, pX11_integers_440_S1, pX11_integers_459_S1, pX11_integers_494_S1, pX11_integers_512_S1, pX11_integers_543_S1, pX11_integers_562_S1, pX11_integers_595_S1, pX11_integers_614_S1, pX11_integers_639_S1, pX11_integers_715_S1, pX11_integers_735_S1, if_true, if_false]
  have e2 : fX11_works__zV c (nI L) vt (nI st) (nI md) sat (nI d) (nI s1) (nI s2) 0 (nI 23) (nI S) (nI E) un zX z z = fX11_merges__zV c (nI L) vt (nI st) (nI d) (nI s1) (nI s2) 0 (nI S) (nI E) un zX z z := by
    simp (decide := true) only [fX11_works__zV, fX11_integers__zV, pX11_integers_251_zV, pX11_integers_269_zV, pX11_integers_288_zV, pX11_integers_307_zV, pX11_integers_326_zV, pX11_integers_345_zV, pX11_integers_390_zV, pX11_integers_407_zV, pX11_integers_440_zV, pX11_integers_459_zV, pX11_integers_494_zV, pX11_integers_512_zV, pX11_integers_543_zV, pX11_integers_562_zV, pX11_integers_595_zV, pX11_integers_614_zV, pX11_integers_639_zV, pX11_integers_715_zV, pX11_integers_735_zV, if_true, if_false]
  have e3 : fX11_works__m_vxsat c (nI L) vt (nI st) (nI md) sat (nI d) (nI s1) (nI s2) 0 (nI 23) (nI S) (nI E) un zX z z = sat := by
    simp (decide := true) only [fX11_works__m_vxsat, fX11_integers__m_vxsat, pX11_integers_251_m_vxsat, pX11_integers_269_m_vxsat, pX11_integers_288_m_vxsat, pX11_integers_307_m_vxsat, pX11_integers_326_m_vxsat, pX11_integers_345_m_vxsat, pX11_integers_595_m_vxsat, pX11_integers_614_m_vxsat, pX11_integers_639_m_vxsat, pX11_integers_715_m_vxsat, pX11_integers_735_m_vxsat, if_true, if_false]
  have e4 : fX11_works__zX (nI L) (nI st) (nI d) (nI s1) (nI s2) 0 (nI 23) (nI S) un zX z = zX := by
    simp (decide := true) only [fX11_works__zX, if_true, if_false]
  unfold WK
  rw [e1, e2, e3, e4]
  have hmu := h.2.2.2.2.2.2.2.2.2.2.2.2.1
  have h2 : s2 < 32 := h.2.2.2.2.2.2.1
  have hkd := kd_plain (F := 0) (s1 := nI s1) (s2 := nI s2) (H := nI 23) (im := im) (by decide) (by decide) (show _ = (5 : Int32) by decide)
  by_cases q : un = 0 ∨ s2 = 0
  · rw [if_neg (fun w => by
      obtain ⟨w1, w2⟩ := (mb_5 _ _).mp w
      rcases q with e | e
      · exact hmu.mp w1 e
      · exact w2 (by rw [e]; decide))] at hkd
    exact merges_WO h q hkd vt sat c _ rf re r8 rg rl
  · have u0 : ¬ un = 0 := fun e => q (Or.inl e)
    have s0 : ¬ nI s2 = 0 := nI_ne0 (Nat.pos_of_ne_zero (fun e => q (Or.inr e))) (by omega)
    rw [if_pos ((mb_5 _ _).mpr ⟨hmu.mpr u0, s0⟩)] at hkd
    have f1 : fX11_merges (nI d) (nI s1) (nI s2) 0 (nI S) (nI E) un = 0 := by unfold fX11_merges; rw [if_neg u0, if_neg s0]
    have f2 : fX11_merges__zV c (nI L) vt (nI st) (nI d) (nI s1) (nI s2) 0 (nI S) (nI E) un zX z z = z := by unfold fX11_merges__zV; rw [if_neg u0, if_neg s0]
    rw [f1, f2]
    exact ill_WO h hkd vt sat c _ rf re r8 rg rl
theorem w0_24 {S E L st d s1 s2 md : Nat} {im un tb : Int32} {x z xS zX : Nat → Int32} (h : HY S E L st d s1 s2 md 0 im un tb x z xS zX) {vt : Int32} (hvt : fX11_vlmax vt = nI (16 * E / S)) (sat : Int32) (c : Int64) (rf re r8 rg : Int32) (rl : Int64) : WK S E L st d s1 s2 md 0 (nI 24) im un tb x z xS zX vt sat c rf re r8 rg rl := by
  have e1 : fX11_works (nI st) (nI d) (nI s1) (nI s2) 0 (nI 24) (nI S) (nI E) un = fX11_compares (nI d) (nI s1) (nI s2) 0 (nI S) (nI E) := by
    simp (decide := true) only [fX11_works, fX11_integers, pX11_integers_251_S1, pX11_integers_269_S1, pX11_integers_288_S1, pX11_integers_307_S1, pX11_integers_326_S1, pX11_integers_345_S1, pX11_integers_390_S1, pX11_integers_407_S1, pX11_integers_440_S1, pX11_integers_459_S1, pX11_integers_494_S1, pX11_integers_512_S1, pX11_integers_543_S1, pX11_integers_562_S1, pX11_integers_595_S1, pX11_integers_614_S1, pX11_integers_639_S1, pX11_integers_715_S1, pX11_integers_735_S1, if_true, if_false]
  have e2 : fX11_works__zV c (nI L) vt (nI st) (nI md) sat (nI d) (nI s1) (nI s2) 0 (nI 24) (nI S) (nI E) un zX z z = fX11_compares__zV c (nI L) vt (nI st) (nI d) (nI s1) (nI s2) 0 (nI S) (nI E) un zX z z 0 := by
    simp (decide := true) only [fX11_works__zV, fX11_integers__zV, pX11_integers_251_zV, pX11_integers_269_zV, pX11_integers_288_zV, pX11_integers_307_zV, pX11_integers_326_zV, pX11_integers_345_zV, pX11_integers_390_zV, pX11_integers_407_zV, pX11_integers_440_zV, pX11_integers_459_zV, pX11_integers_494_zV, pX11_integers_512_zV, pX11_integers_543_zV, pX11_integers_562_zV, pX11_integers_595_zV, pX11_integers_614_zV, pX11_integers_639_zV, pX11_integers_715_zV, pX11_integers_735_zV, if_true, if_false]
  have e3 : fX11_works__m_vxsat c (nI L) vt (nI st) (nI md) sat (nI d) (nI s1) (nI s2) 0 (nI 24) (nI S) (nI E) un zX z z = sat := by
    simp (decide := true) only [fX11_works__m_vxsat, fX11_integers__m_vxsat, pX11_integers_251_m_vxsat, pX11_integers_269_m_vxsat, pX11_integers_288_m_vxsat, pX11_integers_307_m_vxsat, pX11_integers_326_m_vxsat, pX11_integers_345_m_vxsat, pX11_integers_595_m_vxsat, pX11_integers_614_m_vxsat, pX11_integers_639_m_vxsat, pX11_integers_715_m_vxsat, pX11_integers_735_m_vxsat, if_true, if_false]
  have e4 : fX11_works__zX (nI L) (nI st) (nI d) (nI s1) (nI s2) 0 (nI 24) (nI S) un zX z = zX := by
    simp (decide := true) only [fX11_works__zX, if_true, if_false]
  unfold WK
  rw [e1, e2, e3, e4]
  exact compares_WO h (by decide) (by rw [kd_plain (by decide) (by decide) (show _ = (2 : Int32) by decide), mb_free (by decide)]) vt sat c _ rf re r8 rg rl
theorem w0_25 {S E L st d s1 s2 md : Nat} {im un tb : Int32} {x z xS zX : Nat → Int32} (h : HY S E L st d s1 s2 md 0 im un tb x z xS zX) {vt : Int32} (hvt : fX11_vlmax vt = nI (16 * E / S)) (sat : Int32) (c : Int64) (rf re r8 rg : Int32) (rl : Int64) : WK S E L st d s1 s2 md 0 (nI 25) im un tb x z xS zX vt sat c rf re r8 rg rl := by
  have e1 : fX11_works (nI st) (nI d) (nI s1) (nI s2) 0 (nI 25) (nI S) (nI E) un = fX11_compares (nI d) (nI s1) (nI s2) 0 (nI S) (nI E) := by
    simp (decide := true) only [fX11_works, fX11_integers, pX11_integers_251_S1, pX11_integers_269_S1, pX11_integers_288_S1, pX11_integers_307_S1, pX11_integers_326_S1, pX11_integers_345_S1, pX11_integers_390_S1, pX11_integers_407_S1, pX11_integers_440_S1, pX11_integers_459_S1, pX11_integers_494_S1, pX11_integers_512_S1, pX11_integers_543_S1, pX11_integers_562_S1, pX11_integers_595_S1, pX11_integers_614_S1, pX11_integers_639_S1, pX11_integers_715_S1, pX11_integers_735_S1, if_true, if_false]
  have e2 : fX11_works__zV c (nI L) vt (nI st) (nI md) sat (nI d) (nI s1) (nI s2) 0 (nI 25) (nI S) (nI E) un zX z z = fX11_compares__zV c (nI L) vt (nI st) (nI d) (nI s1) (nI s2) 0 (nI S) (nI E) un zX z z 1 := by
    simp (decide := true) only [fX11_works__zV, fX11_integers__zV, pX11_integers_251_zV, pX11_integers_269_zV, pX11_integers_288_zV, pX11_integers_307_zV, pX11_integers_326_zV, pX11_integers_345_zV, pX11_integers_390_zV, pX11_integers_407_zV, pX11_integers_440_zV, pX11_integers_459_zV, pX11_integers_494_zV, pX11_integers_512_zV, pX11_integers_543_zV, pX11_integers_562_zV, pX11_integers_595_zV, pX11_integers_614_zV, pX11_integers_639_zV, pX11_integers_715_zV, pX11_integers_735_zV, if_true, if_false]
  have e3 : fX11_works__m_vxsat c (nI L) vt (nI st) (nI md) sat (nI d) (nI s1) (nI s2) 0 (nI 25) (nI S) (nI E) un zX z z = sat := by
    simp (decide := true) only [fX11_works__m_vxsat, fX11_integers__m_vxsat, pX11_integers_251_m_vxsat, pX11_integers_269_m_vxsat, pX11_integers_288_m_vxsat, pX11_integers_307_m_vxsat, pX11_integers_326_m_vxsat, pX11_integers_345_m_vxsat, pX11_integers_595_m_vxsat, pX11_integers_614_m_vxsat, pX11_integers_639_m_vxsat, pX11_integers_715_m_vxsat, pX11_integers_735_m_vxsat, if_true, if_false]
  have e4 : fX11_works__zX (nI L) (nI st) (nI d) (nI s1) (nI s2) 0 (nI 25) (nI S) un zX z = zX := by
    simp (decide := true) only [fX11_works__zX, if_true, if_false]
  unfold WK
  rw [e1, e2, e3, e4]
  exact compares_WO h (by decide) (by rw [kd_plain (by decide) (by decide) (show _ = (2 : Int32) by decide), mb_free (by decide)]) vt sat c _ rf re r8 rg rl
theorem w0_26 {S E L st d s1 s2 md : Nat} {im un tb : Int32} {x z xS zX : Nat → Int32} (h : HY S E L st d s1 s2 md 0 im un tb x z xS zX) {vt : Int32} (hvt : fX11_vlmax vt = nI (16 * E / S)) (sat : Int32) (c : Int64) (rf re r8 rg : Int32) (rl : Int64) : WK S E L st d s1 s2 md 0 (nI 26) im un tb x z xS zX vt sat c rf re r8 rg rl := by
  have e1 : fX11_works (nI st) (nI d) (nI s1) (nI s2) 0 (nI 26) (nI S) (nI E) un = (if fX11_compares (nI d) (nI s1) (nI s2) 0 (nI S) (nI E) = 0 then (0 : Int32) else 1) := by
    simp (decide := true) only [fX11_works, fX11_integers, pX11_integers_251_S1, pX11_integers_269_S1, pX11_integers_288_S1, pX11_integers_307_S1, pX11_integers_326_S1, pX11_integers_345_S1, pX11_integers_390_S1, pX11_integers_407_S1, pX11_integers_440_S1, pX11_integers_459_S1, pX11_integers_494_S1, pX11_integers_512_S1, pX11_integers_543_S1, pX11_integers_562_S1, pX11_integers_595_S1, pX11_integers_614_S1, pX11_integers_639_S1, pX11_integers_715_S1, pX11_integers_735_S1, if_true, if_false]
  have e2 : fX11_works__zV c (nI L) vt (nI st) (nI md) sat (nI d) (nI s1) (nI s2) 0 (nI 26) (nI S) (nI E) un zX z z = fX11_compares__zV c (nI L) vt (nI st) (nI d) (nI s1) (nI s2) 0 (nI S) (nI E) un zX z z 2 := by
    simp (decide := true) only [fX11_works__zV, fX11_integers__zV, pX11_integers_251_zV, pX11_integers_269_zV, pX11_integers_288_zV, pX11_integers_307_zV, pX11_integers_326_zV, pX11_integers_345_zV, pX11_integers_390_zV, pX11_integers_407_zV, pX11_integers_440_zV, pX11_integers_459_zV, pX11_integers_494_zV, pX11_integers_512_zV, pX11_integers_543_zV, pX11_integers_562_zV, pX11_integers_595_zV, pX11_integers_614_zV, pX11_integers_639_zV, pX11_integers_715_zV, pX11_integers_735_zV, if_true, if_false]
  have e3 : fX11_works__m_vxsat c (nI L) vt (nI st) (nI md) sat (nI d) (nI s1) (nI s2) 0 (nI 26) (nI S) (nI E) un zX z z = sat := by
    simp (decide := true) only [fX11_works__m_vxsat, fX11_integers__m_vxsat, pX11_integers_251_m_vxsat, pX11_integers_269_m_vxsat, pX11_integers_288_m_vxsat, pX11_integers_307_m_vxsat, pX11_integers_326_m_vxsat, pX11_integers_345_m_vxsat, pX11_integers_595_m_vxsat, pX11_integers_614_m_vxsat, pX11_integers_639_m_vxsat, pX11_integers_715_m_vxsat, pX11_integers_735_m_vxsat, if_true, if_false]
  have e4 : fX11_works__zX (nI L) (nI st) (nI d) (nI s1) (nI s2) 0 (nI 26) (nI S) un zX z = zX := by
    simp (decide := true) only [fX11_works__zX, if_true, if_false]
  unfold WK
  rw [e1, e2, e3, e4]
  refine WO_b ?_
  exact compares_WO h (by decide) (by rw [kd_plain (by decide) (by decide) (show _ = (2 : Int32) by decide), mb_free (by decide)]) vt sat c _ rf re r8 rg rl
theorem w0_27 {S E L st d s1 s2 md : Nat} {im un tb : Int32} {x z xS zX : Nat → Int32} (h : HY S E L st d s1 s2 md 0 im un tb x z xS zX) {vt : Int32} (hvt : fX11_vlmax vt = nI (16 * E / S)) (sat : Int32) (c : Int64) (rf re r8 rg : Int32) (rl : Int64) : WK S E L st d s1 s2 md 0 (nI 27) im un tb x z xS zX vt sat c rf re r8 rg rl := by
  have e1 : fX11_works (nI st) (nI d) (nI s1) (nI s2) 0 (nI 27) (nI S) (nI E) un = (if fX11_compares (nI d) (nI s1) (nI s2) 0 (nI S) (nI E) = 0 then (0 : Int32) else 1) := by
    simp (decide := true) only [fX11_works, fX11_integers, pX11_integers_251_S1, pX11_integers_269_S1, pX11_integers_288_S1, pX11_integers_307_S1, pX11_integers_326_S1, pX11_integers_345_S1, pX11_integers_390_S1, pX11_integers_407_S1, pX11_integers_440_S1, pX11_integers_459_S1, pX11_integers_494_S1, pX11_integers_512_S1, pX11_integers_543_S1, pX11_integers_562_S1, pX11_integers_595_S1, pX11_integers_614_S1, pX11_integers_639_S1, pX11_integers_715_S1, pX11_integers_735_S1, if_true, if_false]
  have e2 : fX11_works__zV c (nI L) vt (nI st) (nI md) sat (nI d) (nI s1) (nI s2) 0 (nI 27) (nI S) (nI E) un zX z z = fX11_compares__zV c (nI L) vt (nI st) (nI d) (nI s1) (nI s2) 0 (nI S) (nI E) un zX z z 3 := by
    simp (decide := true) only [fX11_works__zV, fX11_integers__zV, pX11_integers_251_zV, pX11_integers_269_zV, pX11_integers_288_zV, pX11_integers_307_zV, pX11_integers_326_zV, pX11_integers_345_zV, pX11_integers_390_zV, pX11_integers_407_zV, pX11_integers_440_zV, pX11_integers_459_zV, pX11_integers_494_zV, pX11_integers_512_zV, pX11_integers_543_zV, pX11_integers_562_zV, pX11_integers_595_zV, pX11_integers_614_zV, pX11_integers_639_zV, pX11_integers_715_zV, pX11_integers_735_zV, if_true, if_false]
  have e3 : fX11_works__m_vxsat c (nI L) vt (nI st) (nI md) sat (nI d) (nI s1) (nI s2) 0 (nI 27) (nI S) (nI E) un zX z z = sat := by
    simp (decide := true) only [fX11_works__m_vxsat, fX11_integers__m_vxsat, pX11_integers_251_m_vxsat, pX11_integers_269_m_vxsat, pX11_integers_288_m_vxsat, pX11_integers_307_m_vxsat, pX11_integers_326_m_vxsat, pX11_integers_345_m_vxsat, pX11_integers_595_m_vxsat, pX11_integers_614_m_vxsat, pX11_integers_639_m_vxsat, pX11_integers_715_m_vxsat, pX11_integers_735_m_vxsat, if_true, if_false]
  have e4 : fX11_works__zX (nI L) (nI st) (nI d) (nI s1) (nI s2) 0 (nI 27) (nI S) un zX z = zX := by
    simp (decide := true) only [fX11_works__zX, if_true, if_false]
  unfold WK
  rw [e1, e2, e3, e4]
  refine WO_b ?_
  exact compares_WO h (by decide) (by rw [kd_plain (by decide) (by decide) (show _ = (2 : Int32) by decide), mb_free (by decide)]) vt sat c _ rf re r8 rg rl
theorem w0_28 {S E L st d s1 s2 md : Nat} {im un tb : Int32} {x z xS zX : Nat → Int32} (h : HY S E L st d s1 s2 md 0 im un tb x z xS zX) {vt : Int32} (hvt : fX11_vlmax vt = nI (16 * E / S)) (sat : Int32) (c : Int64) (rf re r8 rg : Int32) (rl : Int64) : WK S E L st d s1 s2 md 0 (nI 28) im un tb x z xS zX vt sat c rf re r8 rg rl := by
  have e1 : fX11_works (nI st) (nI d) (nI s1) (nI s2) 0 (nI 28) (nI S) (nI E) un = fX11_compares (nI d) (nI s1) (nI s2) 0 (nI S) (nI E) := by
    simp (decide := true) only [fX11_works, fX11_integers, pX11_integers_251_S1, pX11_integers_269_S1, pX11_integers_288_S1, pX11_integers_307_S1, pX11_integers_326_S1, pX11_integers_345_S1, pX11_integers_390_S1, pX11_integers_407_S1, pX11_integers_440_S1, pX11_integers_459_S1, pX11_integers_494_S1, pX11_integers_512_S1, pX11_integers_543_S1, pX11_integers_562_S1, pX11_integers_595_S1, pX11_integers_614_S1, pX11_integers_639_S1, pX11_integers_715_S1, pX11_integers_735_S1, if_true, if_false]
  have e2 : fX11_works__zV c (nI L) vt (nI st) (nI md) sat (nI d) (nI s1) (nI s2) 0 (nI 28) (nI S) (nI E) un zX z z = fX11_compares__zV c (nI L) vt (nI st) (nI d) (nI s1) (nI s2) 0 (nI S) (nI E) un zX z z 4 := by
    simp (decide := true) only [fX11_works__zV, fX11_integers__zV, pX11_integers_251_zV, pX11_integers_269_zV, pX11_integers_288_zV, pX11_integers_307_zV, pX11_integers_326_zV, pX11_integers_345_zV, pX11_integers_390_zV, pX11_integers_407_zV, pX11_integers_440_zV, pX11_integers_459_zV, pX11_integers_494_zV, pX11_integers_512_zV, pX11_integers_543_zV, pX11_integers_562_zV, pX11_integers_595_zV, pX11_integers_614_zV, pX11_integers_639_zV, pX11_integers_715_zV, pX11_integers_735_zV, if_true, if_false]
  have e3 : fX11_works__m_vxsat c (nI L) vt (nI st) (nI md) sat (nI d) (nI s1) (nI s2) 0 (nI 28) (nI S) (nI E) un zX z z = sat := by
    simp (decide := true) only [fX11_works__m_vxsat, fX11_integers__m_vxsat, pX11_integers_251_m_vxsat, pX11_integers_269_m_vxsat, pX11_integers_288_m_vxsat, pX11_integers_307_m_vxsat, pX11_integers_326_m_vxsat, pX11_integers_345_m_vxsat, pX11_integers_595_m_vxsat, pX11_integers_614_m_vxsat, pX11_integers_639_m_vxsat, pX11_integers_715_m_vxsat, pX11_integers_735_m_vxsat, if_true, if_false]
  have e4 : fX11_works__zX (nI L) (nI st) (nI d) (nI s1) (nI s2) 0 (nI 28) (nI S) un zX z = zX := by
    simp (decide := true) only [fX11_works__zX, if_true, if_false]
  unfold WK
  rw [e1, e2, e3, e4]
  exact compares_WO h (by decide) (by rw [kd_plain (by decide) (by decide) (show _ = (2 : Int32) by decide), mb_free (by decide)]) vt sat c _ rf re r8 rg rl
theorem w0_29 {S E L st d s1 s2 md : Nat} {im un tb : Int32} {x z xS zX : Nat → Int32} (h : HY S E L st d s1 s2 md 0 im un tb x z xS zX) {vt : Int32} (hvt : fX11_vlmax vt = nI (16 * E / S)) (sat : Int32) (c : Int64) (rf re r8 rg : Int32) (rl : Int64) : WK S E L st d s1 s2 md 0 (nI 29) im un tb x z xS zX vt sat c rf re r8 rg rl := by
  have e1 : fX11_works (nI st) (nI d) (nI s1) (nI s2) 0 (nI 29) (nI S) (nI E) un = fX11_compares (nI d) (nI s1) (nI s2) 0 (nI S) (nI E) := by
    simp (decide := true) only [fX11_works, fX11_integers, pX11_integers_251_S1, pX11_integers_269_S1, pX11_integers_288_S1, pX11_integers_307_S1, pX11_integers_326_S1, pX11_integers_345_S1, pX11_integers_390_S1, pX11_integers_407_S1, pX11_integers_440_S1, pX11_integers_459_S1, pX11_integers_494_S1, pX11_integers_512_S1, pX11_integers_543_S1, pX11_integers_562_S1, pX11_integers_595_S1, pX11_integers_614_S1, pX11_integers_639_S1, pX11_integers_715_S1, pX11_integers_735_S1, if_true, if_false]
  have e2 : fX11_works__zV c (nI L) vt (nI st) (nI md) sat (nI d) (nI s1) (nI s2) 0 (nI 29) (nI S) (nI E) un zX z z = fX11_compares__zV c (nI L) vt (nI st) (nI d) (nI s1) (nI s2) 0 (nI S) (nI E) un zX z z 5 := by
    simp (decide := true) only [fX11_works__zV, fX11_integers__zV, pX11_integers_251_zV, pX11_integers_269_zV, pX11_integers_288_zV, pX11_integers_307_zV, pX11_integers_326_zV, pX11_integers_345_zV, pX11_integers_390_zV, pX11_integers_407_zV, pX11_integers_440_zV, pX11_integers_459_zV, pX11_integers_494_zV, pX11_integers_512_zV, pX11_integers_543_zV, pX11_integers_562_zV, pX11_integers_595_zV, pX11_integers_614_zV, pX11_integers_639_zV, pX11_integers_715_zV, pX11_integers_735_zV, if_true, if_false]
  have e3 : fX11_works__m_vxsat c (nI L) vt (nI st) (nI md) sat (nI d) (nI s1) (nI s2) 0 (nI 29) (nI S) (nI E) un zX z z = sat := by
    simp (decide := true) only [fX11_works__m_vxsat, fX11_integers__m_vxsat, pX11_integers_251_m_vxsat, pX11_integers_269_m_vxsat, pX11_integers_288_m_vxsat, pX11_integers_307_m_vxsat, pX11_integers_326_m_vxsat, pX11_integers_345_m_vxsat, pX11_integers_595_m_vxsat, pX11_integers_614_m_vxsat, pX11_integers_639_m_vxsat, pX11_integers_715_m_vxsat, pX11_integers_735_m_vxsat, if_true, if_false]
  have e4 : fX11_works__zX (nI L) (nI st) (nI d) (nI s1) (nI s2) 0 (nI 29) (nI S) un zX z = zX := by
    simp (decide := true) only [fX11_works__zX, if_true, if_false]
  unfold WK
  rw [e1, e2, e3, e4]
  exact compares_WO h (by decide) (by rw [kd_plain (by decide) (by decide) (show _ = (2 : Int32) by decide), mb_free (by decide)]) vt sat c _ rf re r8 rg rl
theorem w0_30 {S E L st d s1 s2 md : Nat} {im un tb : Int32} {x z xS zX : Nat → Int32} (h : HY S E L st d s1 s2 md 0 im un tb x z xS zX) {vt : Int32} (hvt : fX11_vlmax vt = nI (16 * E / S)) (sat : Int32) (c : Int64) (rf re r8 rg : Int32) (rl : Int64) : WK S E L st d s1 s2 md 0 (nI 30) im un tb x z xS zX vt sat c rf re r8 rg rl := by
  have e1 : fX11_works (nI st) (nI d) (nI s1) (nI s2) 0 (nI 30) (nI S) (nI E) un = 0 := by
    simp (decide := true) only [fX11_works, fX11_integers, pX11_integers_251_S1, pX11_integers_269_S1, pX11_integers_288_S1, pX11_integers_307_S1, pX11_integers_326_S1, pX11_integers_345_S1, pX11_integers_390_S1, pX11_integers_407_S1, pX11_integers_440_S1, pX11_integers_459_S1, pX11_integers_494_S1, pX11_integers_512_S1, pX11_integers_543_S1, pX11_integers_562_S1, pX11_integers_595_S1, pX11_integers_614_S1, pX11_integers_639_S1, pX11_integers_715_S1, pX11_integers_735_S1, if_true, if_false]
  have e2 : fX11_works__zV c (nI L) vt (nI st) (nI md) sat (nI d) (nI s1) (nI s2) 0 (nI 30) (nI S) (nI E) un zX z z = z := by
    simp (decide := true) only [fX11_works__zV, fX11_integers__zV, pX11_integers_251_zV, pX11_integers_269_zV, pX11_integers_288_zV, pX11_integers_307_zV, pX11_integers_326_zV, pX11_integers_345_zV, pX11_integers_390_zV, pX11_integers_407_zV, pX11_integers_440_zV, pX11_integers_459_zV, pX11_integers_494_zV, pX11_integers_512_zV, pX11_integers_543_zV, pX11_integers_562_zV, pX11_integers_595_zV, pX11_integers_614_zV, pX11_integers_639_zV, pX11_integers_715_zV, pX11_integers_735_zV, if_true, if_false]
  have e3 : fX11_works__m_vxsat c (nI L) vt (nI st) (nI md) sat (nI d) (nI s1) (nI s2) 0 (nI 30) (nI S) (nI E) un zX z z = sat := by
    simp (decide := true) only [fX11_works__m_vxsat, fX11_integers__m_vxsat, pX11_integers_251_m_vxsat, pX11_integers_269_m_vxsat, pX11_integers_288_m_vxsat, pX11_integers_307_m_vxsat, pX11_integers_326_m_vxsat, pX11_integers_345_m_vxsat, pX11_integers_595_m_vxsat, pX11_integers_614_m_vxsat, pX11_integers_639_m_vxsat, pX11_integers_715_m_vxsat, pX11_integers_735_m_vxsat, if_true, if_false]
  have e4 : fX11_works__zX (nI L) (nI st) (nI d) (nI s1) (nI s2) 0 (nI 30) (nI S) un zX z = zX := by
    simp (decide := true) only [fX11_works__zX, if_true, if_false]
  unfold WK
  rw [e1, e2, e3, e4]
  exact ill_WO h (kd_none (by decide)) vt sat c _ rf re r8 rg rl
theorem w0_31 {S E L st d s1 s2 md : Nat} {im un tb : Int32} {x z xS zX : Nat → Int32} (h : HY S E L st d s1 s2 md 0 im un tb x z xS zX) {vt : Int32} (hvt : fX11_vlmax vt = nI (16 * E / S)) (sat : Int32) (c : Int64) (rf re r8 rg : Int32) (rl : Int64) : WK S E L st d s1 s2 md 0 (nI 31) im un tb x z xS zX vt sat c rf re r8 rg rl := by
  have e1 : fX11_works (nI st) (nI d) (nI s1) (nI s2) 0 (nI 31) (nI S) (nI E) un = 0 := by
    simp (decide := true) only [fX11_works, fX11_integers, pX11_integers_251_S1, pX11_integers_269_S1, pX11_integers_288_S1, pX11_integers_307_S1, pX11_integers_326_S1, pX11_integers_345_S1, pX11_integers_390_S1, pX11_integers_407_S1, pX11_integers_440_S1, pX11_integers_459_S1, pX11_integers_494_S1, pX11_integers_512_S1, pX11_integers_543_S1, pX11_integers_562_S1, pX11_integers_595_S1, pX11_integers_614_S1, pX11_integers_639_S1, pX11_integers_715_S1, pX11_integers_735_S1, if_true, if_false]
  have e2 : fX11_works__zV c (nI L) vt (nI st) (nI md) sat (nI d) (nI s1) (nI s2) 0 (nI 31) (nI S) (nI E) un zX z z = z := by
    simp (decide := true) only [fX11_works__zV, fX11_integers__zV, pX11_integers_251_zV, pX11_integers_269_zV, pX11_integers_288_zV, pX11_integers_307_zV, pX11_integers_326_zV, pX11_integers_345_zV, pX11_integers_390_zV, pX11_integers_407_zV, pX11_integers_440_zV, pX11_integers_459_zV, pX11_integers_494_zV, pX11_integers_512_zV, pX11_integers_543_zV, pX11_integers_562_zV, pX11_integers_595_zV, pX11_integers_614_zV, pX11_integers_639_zV, pX11_integers_715_zV, pX11_integers_735_zV, if_true, if_false]
  have e3 : fX11_works__m_vxsat c (nI L) vt (nI st) (nI md) sat (nI d) (nI s1) (nI s2) 0 (nI 31) (nI S) (nI E) un zX z z = sat := by
    simp (decide := true) only [fX11_works__m_vxsat, fX11_integers__m_vxsat, pX11_integers_251_m_vxsat, pX11_integers_269_m_vxsat, pX11_integers_288_m_vxsat, pX11_integers_307_m_vxsat, pX11_integers_326_m_vxsat, pX11_integers_345_m_vxsat, pX11_integers_595_m_vxsat, pX11_integers_614_m_vxsat, pX11_integers_639_m_vxsat, pX11_integers_715_m_vxsat, pX11_integers_735_m_vxsat, if_true, if_false]
  have e4 : fX11_works__zX (nI L) (nI st) (nI d) (nI s1) (nI s2) 0 (nI 31) (nI S) un zX z = zX := by
    simp (decide := true) only [fX11_works__zX, if_true, if_false]
  unfold WK
  rw [e1, e2, e3, e4]
  exact ill_WO h (kd_none (by decide)) vt sat c _ rf re r8 rg rl
theorem w0_32 {S E L st d s1 s2 md : Nat} {im un tb : Int32} {x z xS zX : Nat → Int32} (h : HY S E L st d s1 s2 md 0 im un tb x z xS zX) {vt : Int32} (hvt : fX11_vlmax vt = nI (16 * E / S)) (sat : Int32) (c : Int64) (rf re r8 rg : Int32) (rl : Int64) : WK S E L st d s1 s2 md 0 (nI 32) im un tb x z xS zX vt sat c rf re r8 rg rl := by
  have e1 : fX11_works (nI st) (nI d) (nI s1) (nI s2) 0 (nI 32) (nI S) (nI E) un = fX11_alike (nI d) (nI s1) (nI s2) 0 (nI S) (nI E) un := by
    simp (decide := true) only [fX11_works, fX11_integers, pX11_integers_251_S1, pX11_integers_269_S1, pX11_integers_288_S1, pX11_integers_307_S1, pX11_integers_326_S1, pX11_integers_345_S1, pX11_integers_390_S1, pX11_integers_407_S1, pX11_integers_440_S1, pX11_integers_459_S1, pX11_integers_494_S1, pX11_integers_512_S1, pX11_integers_543_S1, pX11_integers_562_S1, pX11_integers_595_S1, pX11_integers_614_S1, pX11_integers_639_S1, pX11_integers_715_S1, pX11_integers_735_S1, if_true, if_false]
  have e2 : fX11_works__zV c (nI L) vt (nI st) (nI md) sat (nI d) (nI s1) (nI s2) 0 (nI 32) (nI S) (nI E) un zX z z = fX11_alike__zV c (nI L) vt (nI st) (nI md) sat (nI d) (nI s1) (nI s2) 0 (nI S) (nI E) un zX z z 13 := by
    simp (decide := true) only [fX11_works__zV, fX11_integers__zV, pX11_integers_251_zV, pX11_integers_269_zV, pX11_integers_288_zV, pX11_integers_307_zV, pX11_integers_326_zV, pX11_integers_345_zV, pX11_integers_390_zV, pX11_integers_407_zV, pX11_integers_440_zV, pX11_integers_459_zV, pX11_integers_494_zV, pX11_integers_512_zV, pX11_integers_543_zV, pX11_integers_562_zV, pX11_integers_595_zV, pX11_integers_614_zV, pX11_integers_639_zV, pX11_integers_715_zV, pX11_integers_735_zV, if_true, if_false]
  have e3 : fX11_works__m_vxsat c (nI L) vt (nI st) (nI md) sat (nI d) (nI s1) (nI s2) 0 (nI 32) (nI S) (nI E) un zX z z = fX11_alike__m_vxsat c (nI L) vt (nI st) (nI md) sat (nI d) (nI s1) (nI s2) 0 (nI S) (nI E) un zX z z 13 := by
    simp (decide := true) only [fX11_works__m_vxsat, fX11_integers__m_vxsat, pX11_integers_251_m_vxsat, pX11_integers_269_m_vxsat, pX11_integers_288_m_vxsat, pX11_integers_307_m_vxsat, pX11_integers_326_m_vxsat, pX11_integers_345_m_vxsat, pX11_integers_595_m_vxsat, pX11_integers_614_m_vxsat, pX11_integers_639_m_vxsat, pX11_integers_715_m_vxsat, pX11_integers_735_m_vxsat, if_true, if_false]
  have e4 : fX11_works__zX (nI L) (nI st) (nI d) (nI s1) (nI s2) 0 (nI 32) (nI S) un zX z = zX := by
    simp (decide := true) only [fX11_works__zX, if_true, if_false]
  unfold WK
  rw [e1, e2, e3, e4]
  exact alike_WO h (by decide) (by rw [kd_plain (by decide) (by decide) (show _ = (1 : Int32) by decide), mb_free (by decide)]) vt sat c _ rf re r8 rg rl
theorem w0_33 {S E L st d s1 s2 md : Nat} {im un tb : Int32} {x z xS zX : Nat → Int32} (h : HY S E L st d s1 s2 md 0 im un tb x z xS zX) {vt : Int32} (hvt : fX11_vlmax vt = nI (16 * E / S)) (sat : Int32) (c : Int64) (rf re r8 rg : Int32) (rl : Int64) : WK S E L st d s1 s2 md 0 (nI 33) im un tb x z xS zX vt sat c rf re r8 rg rl := by
  have e1 : fX11_works (nI st) (nI d) (nI s1) (nI s2) 0 (nI 33) (nI S) (nI E) un = fX11_alike (nI d) (nI s1) (nI s2) 0 (nI S) (nI E) un := by
    simp (decide := true) only [fX11_works, fX11_integers, pX11_integers_251_S1, pX11_integers_269_S1, pX11_integers_288_S1, pX11_integers_307_S1, pX11_integers_326_S1, pX11_integers_345_S1, pX11_integers_390_S1, pX11_integers_407_S1, pX11_integers_440_S1, pX11_integers_459_S1, pX11_integers_494_S1, pX11_integers_512_S1, pX11_integers_543_S1, pX11_integers_562_S1, pX11_integers_595_S1, pX11_integers_614_S1, pX11_integers_639_S1, pX11_integers_715_S1, pX11_integers_735_S1, if_true, if_false]
  have e2 : fX11_works__zV c (nI L) vt (nI st) (nI md) sat (nI d) (nI s1) (nI s2) 0 (nI 33) (nI S) (nI E) un zX z z = fX11_alike__zV c (nI L) vt (nI st) (nI md) sat (nI d) (nI s1) (nI s2) 0 (nI S) (nI E) un zX z z 14 := by
    simp (decide := true) only [fX11_works__zV, fX11_integers__zV, pX11_integers_251_zV, pX11_integers_269_zV, pX11_integers_288_zV, pX11_integers_307_zV, pX11_integers_326_zV, pX11_integers_345_zV, pX11_integers_390_zV, pX11_integers_407_zV, pX11_integers_440_zV, pX11_integers_459_zV, pX11_integers_494_zV, pX11_integers_512_zV, pX11_integers_543_zV, pX11_integers_562_zV, pX11_integers_595_zV, pX11_integers_614_zV, pX11_integers_639_zV, pX11_integers_715_zV, pX11_integers_735_zV, if_true, if_false]
  have e3 : fX11_works__m_vxsat c (nI L) vt (nI st) (nI md) sat (nI d) (nI s1) (nI s2) 0 (nI 33) (nI S) (nI E) un zX z z = fX11_alike__m_vxsat c (nI L) vt (nI st) (nI md) sat (nI d) (nI s1) (nI s2) 0 (nI S) (nI E) un zX z z 14 := by
    simp (decide := true) only [fX11_works__m_vxsat, fX11_integers__m_vxsat, pX11_integers_251_m_vxsat, pX11_integers_269_m_vxsat, pX11_integers_288_m_vxsat, pX11_integers_307_m_vxsat, pX11_integers_326_m_vxsat, pX11_integers_345_m_vxsat, pX11_integers_595_m_vxsat, pX11_integers_614_m_vxsat, pX11_integers_639_m_vxsat, pX11_integers_715_m_vxsat, pX11_integers_735_m_vxsat, if_true, if_false]
  have e4 : fX11_works__zX (nI L) (nI st) (nI d) (nI s1) (nI s2) 0 (nI 33) (nI S) un zX z = zX := by
    simp (decide := true) only [fX11_works__zX, if_true, if_false]
  unfold WK
  rw [e1, e2, e3, e4]
  exact alike_WO h (by decide) (by rw [kd_plain (by decide) (by decide) (show _ = (1 : Int32) by decide), mb_free (by decide)]) vt sat c _ rf re r8 rg rl
theorem w0_34 {S E L st d s1 s2 md : Nat} {im un tb : Int32} {x z xS zX : Nat → Int32} (h : HY S E L st d s1 s2 md 0 im un tb x z xS zX) {vt : Int32} (hvt : fX11_vlmax vt = nI (16 * E / S)) (sat : Int32) (c : Int64) (rf re r8 rg : Int32) (rl : Int64) : WK S E L st d s1 s2 md 0 (nI 34) im un tb x z xS zX vt sat c rf re r8 rg rl := by
  have e1 : fX11_works (nI st) (nI d) (nI s1) (nI s2) 0 (nI 34) (nI S) (nI E) un = (if fX11_alike (nI d) (nI s1) (nI s2) 0 (nI S) (nI E) un = 0 then (0 : Int32) else 1) := by
    simp (decide := true) only [fX11_works, fX11_integers, pX11_integers_251_S1, pX11_integers_269_S1, pX11_integers_288_S1, pX11_integers_307_S1, pX11_integers_326_S1, pX11_integers_345_S1, pX11_integers_390_S1, pX11_integers_407_S1, pX11_integers_440_S1, pX11_integers_459_S1, pX11_integers_494_S1, pX11_integers_512_S1, pX11_integers_543_S1, pX11_integers_562_S1, pX11_integers_595_S1, pX11_integers_614_S1, pX11_integers_639_S1, pX11_integers_715_S1, pX11_integers_735_S1, if_true, if_false]
  have e2 : fX11_works__zV c (nI L) vt (nI st) (nI md) sat (nI d) (nI s1) (nI s2) 0 (nI 34) (nI S) (nI E) un zX z z = fX11_alike__zV c (nI L) vt (nI st) (nI md) sat (nI d) (nI s1) (nI s2) 0 (nI S) (nI E) un zX z z 15 := by
    simp (decide := true) only [fX11_works__zV, fX11_integers__zV, pX11_integers_251_zV, pX11_integers_269_zV, pX11_integers_288_zV, pX11_integers_307_zV, pX11_integers_326_zV, pX11_integers_345_zV, pX11_integers_390_zV, pX11_integers_407_zV, pX11_integers_440_zV, pX11_integers_459_zV, pX11_integers_494_zV, pX11_integers_512_zV, pX11_integers_543_zV, pX11_integers_562_zV, pX11_integers_595_zV, pX11_integers_614_zV, pX11_integers_639_zV, pX11_integers_715_zV, pX11_integers_735_zV, if_true, if_false]
  have e3 : fX11_works__m_vxsat c (nI L) vt (nI st) (nI md) sat (nI d) (nI s1) (nI s2) 0 (nI 34) (nI S) (nI E) un zX z z = fX11_alike__m_vxsat c (nI L) vt (nI st) (nI md) sat (nI d) (nI s1) (nI s2) 0 (nI S) (nI E) un zX z z 15 := by
    simp (decide := true) only [fX11_works__m_vxsat, fX11_integers__m_vxsat, pX11_integers_251_m_vxsat, pX11_integers_269_m_vxsat, pX11_integers_288_m_vxsat, pX11_integers_307_m_vxsat, pX11_integers_326_m_vxsat, pX11_integers_345_m_vxsat, pX11_integers_595_m_vxsat, pX11_integers_614_m_vxsat, pX11_integers_639_m_vxsat, pX11_integers_715_m_vxsat, pX11_integers_735_m_vxsat, if_true, if_false]
  have e4 : fX11_works__zX (nI L) (nI st) (nI d) (nI s1) (nI s2) 0 (nI 34) (nI S) un zX z = zX := by
    simp (decide := true) only [fX11_works__zX, if_true, if_false]
  unfold WK
  rw [e1, e2, e3, e4]
  refine WO_b ?_
  exact alike_WO h (by decide) (by rw [kd_plain (by decide) (by decide) (show _ = (1 : Int32) by decide), mb_free (by decide)]) vt sat c _ rf re r8 rg rl
theorem w0_35 {S E L st d s1 s2 md : Nat} {im un tb : Int32} {x z xS zX : Nat → Int32} (h : HY S E L st d s1 s2 md 0 im un tb x z xS zX) {vt : Int32} (hvt : fX11_vlmax vt = nI (16 * E / S)) (sat : Int32) (c : Int64) (rf re r8 rg : Int32) (rl : Int64) : WK S E L st d s1 s2 md 0 (nI 35) im un tb x z xS zX vt sat c rf re r8 rg rl := by
  have e1 : fX11_works (nI st) (nI d) (nI s1) (nI s2) 0 (nI 35) (nI S) (nI E) un = (if fX11_alike (nI d) (nI s1) (nI s2) 0 (nI S) (nI E) un = 0 then (0 : Int32) else 1) := by
    simp (decide := true) only [fX11_works, fX11_integers, pX11_integers_251_S1, pX11_integers_269_S1, pX11_integers_288_S1, pX11_integers_307_S1, pX11_integers_326_S1, pX11_integers_345_S1, pX11_integers_390_S1, pX11_integers_407_S1, pX11_integers_440_S1, pX11_integers_459_S1, pX11_integers_494_S1, pX11_integers_512_S1, pX11_integers_543_S1, pX11_integers_562_S1, pX11_integers_595_S1, pX11_integers_614_S1, pX11_integers_639_S1, pX11_integers_715_S1, pX11_integers_735_S1, if_true, if_false]
  have e2 : fX11_works__zV c (nI L) vt (nI st) (nI md) sat (nI d) (nI s1) (nI s2) 0 (nI 35) (nI S) (nI E) un zX z z = fX11_alike__zV c (nI L) vt (nI st) (nI md) sat (nI d) (nI s1) (nI s2) 0 (nI S) (nI E) un zX z z 16 := by
    simp (decide := true) only [fX11_works__zV, fX11_integers__zV, pX11_integers_251_zV, pX11_integers_269_zV, pX11_integers_288_zV, pX11_integers_307_zV, pX11_integers_326_zV, pX11_integers_345_zV, pX11_integers_390_zV, pX11_integers_407_zV, pX11_integers_440_zV, pX11_integers_459_zV, pX11_integers_494_zV, pX11_integers_512_zV, pX11_integers_543_zV, pX11_integers_562_zV, pX11_integers_595_zV, pX11_integers_614_zV, pX11_integers_639_zV, pX11_integers_715_zV, pX11_integers_735_zV, if_true, if_false]
  have e3 : fX11_works__m_vxsat c (nI L) vt (nI st) (nI md) sat (nI d) (nI s1) (nI s2) 0 (nI 35) (nI S) (nI E) un zX z z = fX11_alike__m_vxsat c (nI L) vt (nI st) (nI md) sat (nI d) (nI s1) (nI s2) 0 (nI S) (nI E) un zX z z 16 := by
    simp (decide := true) only [fX11_works__m_vxsat, fX11_integers__m_vxsat, pX11_integers_251_m_vxsat, pX11_integers_269_m_vxsat, pX11_integers_288_m_vxsat, pX11_integers_307_m_vxsat, pX11_integers_326_m_vxsat, pX11_integers_345_m_vxsat, pX11_integers_595_m_vxsat, pX11_integers_614_m_vxsat, pX11_integers_639_m_vxsat, pX11_integers_715_m_vxsat, pX11_integers_735_m_vxsat, if_true, if_false]
  have e4 : fX11_works__zX (nI L) (nI st) (nI d) (nI s1) (nI s2) 0 (nI 35) (nI S) un zX z = zX := by
    simp (decide := true) only [fX11_works__zX, if_true, if_false]
  unfold WK
  rw [e1, e2, e3, e4]
  refine WO_b ?_
  exact alike_WO h (by decide) (by rw [kd_plain (by decide) (by decide) (show _ = (1 : Int32) by decide), mb_free (by decide)]) vt sat c _ rf re r8 rg rl
theorem w0_36 {S E L st d s1 s2 md : Nat} {im un tb : Int32} {x z xS zX : Nat → Int32} (h : HY S E L st d s1 s2 md 0 im un tb x z xS zX) {vt : Int32} (hvt : fX11_vlmax vt = nI (16 * E / S)) (sat : Int32) (c : Int64) (rf re r8 rg : Int32) (rl : Int64) : WK S E L st d s1 s2 md 0 (nI 36) im un tb x z xS zX vt sat c rf re r8 rg rl := by
  have e1 : fX11_works (nI st) (nI d) (nI s1) (nI s2) 0 (nI 36) (nI S) (nI E) un = 0 := by
    simp (decide := true) only [fX11_works, fX11_integers, pX11_integers_251_S1, pX11_integers_269_S1, pX11_integers_288_S1, pX11_integers_307_S1, pX11_integers_326_S1, pX11_integers_345_S1, pX11_integers_390_S1, pX11_integers_407_S1, pX11_integers_440_S1, pX11_integers_459_S1, pX11_integers_494_S1, pX11_integers_512_S1, pX11_integers_543_S1, pX11_integers_562_S1, pX11_integers_595_S1, pX11_integers_614_S1, pX11_integers_639_S1, pX11_integers_715_S1, pX11_integers_735_S1, if_true, if_false]
  have e2 : fX11_works__zV c (nI L) vt (nI st) (nI md) sat (nI d) (nI s1) (nI s2) 0 (nI 36) (nI S) (nI E) un zX z z = z := by
    simp (decide := true) only [fX11_works__zV, fX11_integers__zV, pX11_integers_251_zV, pX11_integers_269_zV, pX11_integers_288_zV, pX11_integers_307_zV, pX11_integers_326_zV, pX11_integers_345_zV, pX11_integers_390_zV, pX11_integers_407_zV, pX11_integers_440_zV, pX11_integers_459_zV, pX11_integers_494_zV, pX11_integers_512_zV, pX11_integers_543_zV, pX11_integers_562_zV, pX11_integers_595_zV, pX11_integers_614_zV, pX11_integers_639_zV, pX11_integers_715_zV, pX11_integers_735_zV, if_true, if_false]
  have e3 : fX11_works__m_vxsat c (nI L) vt (nI st) (nI md) sat (nI d) (nI s1) (nI s2) 0 (nI 36) (nI S) (nI E) un zX z z = sat := by
    simp (decide := true) only [fX11_works__m_vxsat, fX11_integers__m_vxsat, pX11_integers_251_m_vxsat, pX11_integers_269_m_vxsat, pX11_integers_288_m_vxsat, pX11_integers_307_m_vxsat, pX11_integers_326_m_vxsat, pX11_integers_345_m_vxsat, pX11_integers_595_m_vxsat, pX11_integers_614_m_vxsat, pX11_integers_639_m_vxsat, pX11_integers_715_m_vxsat, pX11_integers_735_m_vxsat, if_true, if_false]
  have e4 : fX11_works__zX (nI L) (nI st) (nI d) (nI s1) (nI s2) 0 (nI 36) (nI S) un zX z = zX := by
    simp (decide := true) only [fX11_works__zX, if_true, if_false]
  unfold WK
  rw [e1, e2, e3, e4]
  exact ill_WO h (kd_none (by decide)) vt sat c _ rf re r8 rg rl
theorem w0_37 {S E L st d s1 s2 md : Nat} {im un tb : Int32} {x z xS zX : Nat → Int32} (h : HY S E L st d s1 s2 md 0 im un tb x z xS zX) {vt : Int32} (hvt : fX11_vlmax vt = nI (16 * E / S)) (sat : Int32) (c : Int64) (rf re r8 rg : Int32) (rl : Int64) : WK S E L st d s1 s2 md 0 (nI 37) im un tb x z xS zX vt sat c rf re r8 rg rl := by
  have e1 : fX11_works (nI st) (nI d) (nI s1) (nI s2) 0 (nI 37) (nI S) (nI E) un = fX11_alike (nI d) (nI s1) (nI s2) 0 (nI S) (nI E) un := by
    simp (decide := true) only [fX11_works, fX11_integers, pX11_integers_251_S1, pX11_integers_269_S1, pX11_integers_288_S1, pX11_integers_307_S1, pX11_integers_326_S1, pX11_integers_345_S1, pX11_integers_390_S1, pX11_integers_407_S1, pX11_integers_440_S1, pX11_integers_459_S1, pX11_integers_494_S1, pX11_integers_512_S1, pX11_integers_543_S1, pX11_integers_562_S1, pX11_integers_595_S1, pX11_integers_614_S1, pX11_integers_639_S1, pX11_integers_715_S1, pX11_integers_735_S1, if_true, if_false]
  have e2 : fX11_works__zV c (nI L) vt (nI st) (nI md) sat (nI d) (nI s1) (nI s2) 0 (nI 37) (nI S) (nI E) un zX z z = fX11_alike__zV c (nI L) vt (nI st) (nI md) sat (nI d) (nI s1) (nI s2) 0 (nI S) (nI E) un zX z z 10 := by
    simp (decide := true) only [fX11_works__zV, fX11_integers__zV, pX11_integers_251_zV, pX11_integers_269_zV, pX11_integers_288_zV, pX11_integers_307_zV, pX11_integers_326_zV, pX11_integers_345_zV, pX11_integers_390_zV, pX11_integers_407_zV, pX11_integers_440_zV, pX11_integers_459_zV, pX11_integers_494_zV, pX11_integers_512_zV, pX11_integers_543_zV, pX11_integers_562_zV, pX11_integers_595_zV, pX11_integers_614_zV, pX11_integers_639_zV, pX11_integers_715_zV, pX11_integers_735_zV, if_true, if_false]
  have e3 : fX11_works__m_vxsat c (nI L) vt (nI st) (nI md) sat (nI d) (nI s1) (nI s2) 0 (nI 37) (nI S) (nI E) un zX z z = fX11_alike__m_vxsat c (nI L) vt (nI st) (nI md) sat (nI d) (nI s1) (nI s2) 0 (nI S) (nI E) un zX z z 10 := by
    simp (decide := true) only [fX11_works__m_vxsat, fX11_integers__m_vxsat, pX11_integers_251_m_vxsat, pX11_integers_269_m_vxsat, pX11_integers_288_m_vxsat, pX11_integers_307_m_vxsat, pX11_integers_326_m_vxsat, pX11_integers_345_m_vxsat, pX11_integers_595_m_vxsat, pX11_integers_614_m_vxsat, pX11_integers_639_m_vxsat, pX11_integers_715_m_vxsat, pX11_integers_735_m_vxsat, if_true, if_false]
  have e4 : fX11_works__zX (nI L) (nI st) (nI d) (nI s1) (nI s2) 0 (nI 37) (nI S) un zX z = zX := by
    simp (decide := true) only [fX11_works__zX, if_true, if_false]
  unfold WK
  rw [e1, e2, e3, e4]
  exact alike_WO h (by decide) (by rw [kd_plain (by decide) (by decide) (show _ = (1 : Int32) by decide), mb_free (by decide)]) vt sat c _ rf re r8 rg rl
theorem w0_38 {S E L st d s1 s2 md : Nat} {im un tb : Int32} {x z xS zX : Nat → Int32} (h : HY S E L st d s1 s2 md 0 im un tb x z xS zX) {vt : Int32} (hvt : fX11_vlmax vt = nI (16 * E / S)) (sat : Int32) (c : Int64) (rf re r8 rg : Int32) (rl : Int64) : WK S E L st d s1 s2 md 0 (nI 38) im un tb x z xS zX vt sat c rf re r8 rg rl := by
  have e1 : fX11_works (nI st) (nI d) (nI s1) (nI s2) 0 (nI 38) (nI S) (nI E) un = 0 := by
    simp (decide := true) only [fX11_works, fX11_integers, pX11_integers_251_S1, pX11_integers_269_S1, pX11_integers_288_S1, pX11_integers_307_S1, pX11_integers_326_S1, pX11_integers_345_S1, pX11_integers_390_S1, pX11_integers_407_S1, pX11_integers_440_S1, pX11_integers_459_S1, pX11_integers_494_S1, pX11_integers_512_S1, pX11_integers_543_S1, pX11_integers_562_S1, pX11_integers_595_S1, pX11_integers_614_S1, pX11_integers_639_S1, pX11_integers_715_S1, pX11_integers_735_S1, if_true, if_false]
  have e2 : fX11_works__zV c (nI L) vt (nI st) (nI md) sat (nI d) (nI s1) (nI s2) 0 (nI 38) (nI S) (nI E) un zX z z = z := by
    simp (decide := true) only [fX11_works__zV, fX11_integers__zV, pX11_integers_251_zV, pX11_integers_269_zV, pX11_integers_288_zV, pX11_integers_307_zV, pX11_integers_326_zV, pX11_integers_345_zV, pX11_integers_390_zV, pX11_integers_407_zV, pX11_integers_440_zV, pX11_integers_459_zV, pX11_integers_494_zV, pX11_integers_512_zV, pX11_integers_543_zV, pX11_integers_562_zV, pX11_integers_595_zV, pX11_integers_614_zV, pX11_integers_639_zV, pX11_integers_715_zV, pX11_integers_735_zV, if_true, if_false]
  have e3 : fX11_works__m_vxsat c (nI L) vt (nI st) (nI md) sat (nI d) (nI s1) (nI s2) 0 (nI 38) (nI S) (nI E) un zX z z = sat := by
    simp (decide := true) only [fX11_works__m_vxsat, fX11_integers__m_vxsat, pX11_integers_251_m_vxsat, pX11_integers_269_m_vxsat, pX11_integers_288_m_vxsat, pX11_integers_307_m_vxsat, pX11_integers_326_m_vxsat, pX11_integers_345_m_vxsat, pX11_integers_595_m_vxsat, pX11_integers_614_m_vxsat, pX11_integers_639_m_vxsat, pX11_integers_715_m_vxsat, pX11_integers_735_m_vxsat, if_true, if_false]
  have e4 : fX11_works__zX (nI L) (nI st) (nI d) (nI s1) (nI s2) 0 (nI 38) (nI S) un zX z = zX := by
    simp (decide := true) only [fX11_works__zX, if_true, if_false]
  unfold WK
  rw [e1, e2, e3, e4]
  exact ill_WO h (kd_none (by decide)) vt sat c _ rf re r8 rg rl
theorem w0_39 {S E L st d s1 s2 md : Nat} {im un tb : Int32} {x z xS zX : Nat → Int32} (h : HY S E L st d s1 s2 md 0 im un tb x z xS zX) {vt : Int32} (hvt : fX11_vlmax vt = nI (16 * E / S)) (sat : Int32) (c : Int64) (rf re r8 rg : Int32) (rl : Int64) : WK S E L st d s1 s2 md 0 (nI 39) im un tb x z xS zX vt sat c rf re r8 rg rl := by
  have e1 : fX11_works (nI st) (nI d) (nI s1) (nI s2) 0 (nI 39) (nI S) (nI E) un = fX11_alike (nI d) (nI s1) (nI s2) 0 (nI S) (nI E) un := by
    simp (decide := true) only [fX11_works, fX11_integers, pX11_integers_251_S1, pX11_integers_269_S1, pX11_integers_288_S1, pX11_integers_307_S1, pX11_integers_326_S1, pX11_integers_345_S1, pX11_integers_390_S1, pX11_integers_407_S1, pX11_integers_440_S1, pX11_integers_459_S1, pX11_integers_494_S1, pX11_integers_512_S1, pX11_integers_543_S1, pX11_integers_562_S1, pX11_integers_595_S1, pX11_integers_614_S1, pX11_integers_639_S1, pX11_integers_715_S1, pX11_integers_735_S1, if_true, if_false]
  have e2 : fX11_works__zV c (nI L) vt (nI st) (nI md) sat (nI d) (nI s1) (nI s2) 0 (nI 39) (nI S) (nI E) un zX z z = fX11_alike__zV c (nI L) vt (nI st) (nI md) sat (nI d) (nI s1) (nI s2) 0 (nI S) (nI E) un zX z z 19 := by
    simp (decide := true) only [fX11_works__zV, fX11_integers__zV, pX11_integers_251_zV, pX11_integers_269_zV, pX11_integers_288_zV, pX11_integers_307_zV, pX11_integers_326_zV, pX11_integers_345_zV, pX11_integers_390_zV, pX11_integers_407_zV, pX11_integers_440_zV, pX11_integers_459_zV, pX11_integers_494_zV, pX11_integers_512_zV, pX11_integers_543_zV, pX11_integers_562_zV, pX11_integers_595_zV, pX11_integers_614_zV, pX11_integers_639_zV, pX11_integers_715_zV, pX11_integers_735_zV, if_true, if_false]
  have e3 : fX11_works__m_vxsat c (nI L) vt (nI st) (nI md) sat (nI d) (nI s1) (nI s2) 0 (nI 39) (nI S) (nI E) un zX z z = fX11_alike__m_vxsat c (nI L) vt (nI st) (nI md) sat (nI d) (nI s1) (nI s2) 0 (nI S) (nI E) un zX z z 19 := by
    simp (decide := true) only [fX11_works__m_vxsat, fX11_integers__m_vxsat, pX11_integers_251_m_vxsat, pX11_integers_269_m_vxsat, pX11_integers_288_m_vxsat, pX11_integers_307_m_vxsat, pX11_integers_326_m_vxsat, pX11_integers_345_m_vxsat, pX11_integers_595_m_vxsat, pX11_integers_614_m_vxsat, pX11_integers_639_m_vxsat, pX11_integers_715_m_vxsat, pX11_integers_735_m_vxsat, if_true, if_false]
  have e4 : fX11_works__zX (nI L) (nI st) (nI d) (nI s1) (nI s2) 0 (nI 39) (nI S) un zX z = zX := by
    simp (decide := true) only [fX11_works__zX, if_true, if_false]
  unfold WK
  rw [e1, e2, e3, e4]
  exact alike_WO h (by decide) (by rw [kd_ref (by decide) (show _ = (1 : Int32) by unfold fX1_refined; rw [if_neg (by decide), if_pos (by decide)]; unfold pX1_refined_88_S1; rw [if_pos (by decide)]; decide), mb_free (by decide)]) vt sat c _ rf re r8 rg rl
theorem w0_40 {S E L st d s1 s2 md : Nat} {im un tb : Int32} {x z xS zX : Nat → Int32} (h : HY S E L st d s1 s2 md 0 im un tb x z xS zX) {vt : Int32} (hvt : fX11_vlmax vt = nI (16 * E / S)) (sat : Int32) (c : Int64) (rf re r8 rg : Int32) (rl : Int64) : WK S E L st d s1 s2 md 0 (nI 40) im un tb x z xS zX vt sat c rf re r8 rg rl := by
  have e1 : fX11_works (nI st) (nI d) (nI s1) (nI s2) 0 (nI 40) (nI S) (nI E) un = fX11_alike (nI d) (nI s1) (nI s2) 0 (nI S) (nI E) un := by
    simp (decide := true) only [fX11_works, fX11_integers, pX11_integers_251_S1, pX11_integers_269_S1, pX11_integers_288_S1, pX11_integers_307_S1, pX11_integers_326_S1, pX11_integers_345_S1, pX11_integers_390_S1, pX11_integers_407_S1, pX11_integers_440_S1, pX11_integers_459_S1, pX11_integers_494_S1, pX11_integers_512_S1, pX11_integers_543_S1, pX11_integers_562_S1, pX11_integers_595_S1, pX11_integers_614_S1, pX11_integers_639_S1, pX11_integers_715_S1, pX11_integers_735_S1, if_true, if_false]
  have e2 : fX11_works__zV c (nI L) vt (nI st) (nI md) sat (nI d) (nI s1) (nI s2) 0 (nI 40) (nI S) (nI E) un zX z z = fX11_alike__zV c (nI L) vt (nI st) (nI md) sat (nI d) (nI s1) (nI s2) 0 (nI S) (nI E) un zX z z 11 := by
    simp (decide := true) only [fX11_works__zV, fX11_integers__zV, pX11_integers_251_zV, pX11_integers_269_zV, pX11_integers_288_zV, pX11_integers_307_zV, pX11_integers_326_zV, pX11_integers_345_zV, pX11_integers_390_zV, pX11_integers_407_zV, pX11_integers_440_zV, pX11_integers_459_zV, pX11_integers_494_zV, pX11_integers_512_zV, pX11_integers_543_zV, pX11_integers_562_zV, pX11_integers_595_zV, pX11_integers_614_zV, pX11_integers_639_zV, pX11_integers_715_zV, pX11_integers_735_zV, if_true, if_false]
  have e3 : fX11_works__m_vxsat c (nI L) vt (nI st) (nI md) sat (nI d) (nI s1) (nI s2) 0 (nI 40) (nI S) (nI E) un zX z z = fX11_alike__m_vxsat c (nI L) vt (nI st) (nI md) sat (nI d) (nI s1) (nI s2) 0 (nI S) (nI E) un zX z z 11 := by
    simp (decide := true) only [fX11_works__m_vxsat, fX11_integers__m_vxsat, pX11_integers_251_m_vxsat, pX11_integers_269_m_vxsat, pX11_integers_288_m_vxsat, pX11_integers_307_m_vxsat, pX11_integers_326_m_vxsat, pX11_integers_345_m_vxsat, pX11_integers_595_m_vxsat, pX11_integers_614_m_vxsat, pX11_integers_639_m_vxsat, pX11_integers_715_m_vxsat, pX11_integers_735_m_vxsat, if_true, if_false]
  have e4 : fX11_works__zX (nI L) (nI st) (nI d) (nI s1) (nI s2) 0 (nI 40) (nI S) un zX z = zX := by
    simp (decide := true) only [fX11_works__zX, if_true, if_false]
  unfold WK
  rw [e1, e2, e3, e4]
  exact alike_WO h (by decide) (by rw [kd_plain (by decide) (by decide) (show _ = (1 : Int32) by decide), mb_free (by decide)]) vt sat c _ rf re r8 rg rl
theorem w0_41 {S E L st d s1 s2 md : Nat} {im un tb : Int32} {x z xS zX : Nat → Int32} (h : HY S E L st d s1 s2 md 0 im un tb x z xS zX) {vt : Int32} (hvt : fX11_vlmax vt = nI (16 * E / S)) (sat : Int32) (c : Int64) (rf re r8 rg : Int32) (rl : Int64) : WK S E L st d s1 s2 md 0 (nI 41) im un tb x z xS zX vt sat c rf re r8 rg rl := by
  have e1 : fX11_works (nI st) (nI d) (nI s1) (nI s2) 0 (nI 41) (nI S) (nI E) un = fX11_alike (nI d) (nI s1) (nI s2) 0 (nI S) (nI E) un := by
    simp (decide := true) only [fX11_works, fX11_integers, pX11_integers_251_S1, pX11_integers_269_S1, pX11_integers_288_S1, pX11_integers_307_S1, pX11_integers_326_S1, pX11_integers_345_S1, pX11_integers_390_S1, pX11_integers_407_S1, pX11_integers_440_S1, pX11_integers_459_S1, pX11_integers_494_S1, pX11_integers_512_S1, pX11_integers_543_S1, pX11_integers_562_S1, pX11_integers_595_S1, pX11_integers_614_S1, pX11_integers_639_S1, pX11_integers_715_S1, pX11_integers_735_S1, if_true, if_false]
  have e2 : fX11_works__zV c (nI L) vt (nI st) (nI md) sat (nI d) (nI s1) (nI s2) 0 (nI 41) (nI S) (nI E) un zX z z = fX11_alike__zV c (nI L) vt (nI st) (nI md) sat (nI d) (nI s1) (nI s2) 0 (nI S) (nI E) un zX z z 12 := by
    simp (decide := true) only [fX11_works__zV, fX11_integers__zV, pX11_integers_251_zV, pX11_integers_269_zV, pX11_integers_288_zV, pX11_integers_307_zV, pX11_integers_326_zV, pX11_integers_345_zV, pX11_integers_390_zV, pX11_integers_407_zV, pX11_integers_440_zV, pX11_integers_459_zV, pX11_integers_494_zV, pX11_integers_512_zV, pX11_integers_543_zV, pX11_integers_562_zV, pX11_integers_595_zV, pX11_integers_614_zV, pX11_integers_639_zV, pX11_integers_715_zV, pX11_integers_735_zV, if_true, if_false]
  have e3 : fX11_works__m_vxsat c (nI L) vt (nI st) (nI md) sat (nI d) (nI s1) (nI s2) 0 (nI 41) (nI S) (nI E) un zX z z = fX11_alike__m_vxsat c (nI L) vt (nI st) (nI md) sat (nI d) (nI s1) (nI s2) 0 (nI S) (nI E) un zX z z 12 := by
    simp (decide := true) only [fX11_works__m_vxsat, fX11_integers__m_vxsat, pX11_integers_251_m_vxsat, pX11_integers_269_m_vxsat, pX11_integers_288_m_vxsat, pX11_integers_307_m_vxsat, pX11_integers_326_m_vxsat, pX11_integers_345_m_vxsat, pX11_integers_595_m_vxsat, pX11_integers_614_m_vxsat, pX11_integers_639_m_vxsat, pX11_integers_715_m_vxsat, pX11_integers_735_m_vxsat, if_true, if_false]
  have e4 : fX11_works__zX (nI L) (nI st) (nI d) (nI s1) (nI s2) 0 (nI 41) (nI S) un zX z = zX := by
    simp (decide := true) only [fX11_works__zX, if_true, if_false]
  unfold WK
  rw [e1, e2, e3, e4]
  exact alike_WO h (by decide) (by rw [kd_plain (by decide) (by decide) (show _ = (1 : Int32) by decide), mb_free (by decide)]) vt sat c _ rf re r8 rg rl
theorem w0_42 {S E L st d s1 s2 md : Nat} {im un tb : Int32} {x z xS zX : Nat → Int32} (h : HY S E L st d s1 s2 md 0 im un tb x z xS zX) {vt : Int32} (hvt : fX11_vlmax vt = nI (16 * E / S)) (sat : Int32) (c : Int64) (rf re r8 rg : Int32) (rl : Int64) : WK S E L st d s1 s2 md 0 (nI 42) im un tb x z xS zX vt sat c rf re r8 rg rl := by
  have e1 : fX11_works (nI st) (nI d) (nI s1) (nI s2) 0 (nI 42) (nI S) (nI E) un = fX11_alike (nI d) (nI s1) (nI s2) 0 (nI S) (nI E) un := by
    simp (decide := true) only [fX11_works, fX11_integers, pX11_integers_251_S1, pX11_integers_269_S1, pX11_integers_288_S1, pX11_integers_307_S1, pX11_integers_326_S1, pX11_integers_345_S1, pX11_integers_390_S1, pX11_integers_407_S1, pX11_integers_440_S1, pX11_integers_459_S1, pX11_integers_494_S1, pX11_integers_512_S1, pX11_integers_543_S1, pX11_integers_562_S1, pX11_integers_595_S1, pX11_integers_614_S1, pX11_integers_639_S1, pX11_integers_715_S1, pX11_integers_735_S1, if_true, if_false]
  have e2 : fX11_works__zV c (nI L) vt (nI st) (nI md) sat (nI d) (nI s1) (nI s2) 0 (nI 42) (nI S) (nI E) un zX z z = fX11_alike__zV c (nI L) vt (nI st) (nI md) sat (nI d) (nI s1) (nI s2) 0 (nI S) (nI E) un zX z z 17 := by
    simp (decide := true) only [fX11_works__zV, fX11_integers__zV, pX11_integers_251_zV, pX11_integers_269_zV, pX11_integers_288_zV, pX11_integers_307_zV, pX11_integers_326_zV, pX11_integers_345_zV, pX11_integers_390_zV, pX11_integers_407_zV, pX11_integers_440_zV, pX11_integers_459_zV, pX11_integers_494_zV, pX11_integers_512_zV, pX11_integers_543_zV, pX11_integers_562_zV, pX11_integers_595_zV, pX11_integers_614_zV, pX11_integers_639_zV, pX11_integers_715_zV, pX11_integers_735_zV, if_true, if_false]
  have e3 : fX11_works__m_vxsat c (nI L) vt (nI st) (nI md) sat (nI d) (nI s1) (nI s2) 0 (nI 42) (nI S) (nI E) un zX z z = fX11_alike__m_vxsat c (nI L) vt (nI st) (nI md) sat (nI d) (nI s1) (nI s2) 0 (nI S) (nI E) un zX z z 17 := by
    simp (decide := true) only [fX11_works__m_vxsat, fX11_integers__m_vxsat, pX11_integers_251_m_vxsat, pX11_integers_269_m_vxsat, pX11_integers_288_m_vxsat, pX11_integers_307_m_vxsat, pX11_integers_326_m_vxsat, pX11_integers_345_m_vxsat, pX11_integers_595_m_vxsat, pX11_integers_614_m_vxsat, pX11_integers_639_m_vxsat, pX11_integers_715_m_vxsat, pX11_integers_735_m_vxsat, if_true, if_false]
  have e4 : fX11_works__zX (nI L) (nI st) (nI d) (nI s1) (nI s2) 0 (nI 42) (nI S) un zX z = zX := by
    simp (decide := true) only [fX11_works__zX, if_true, if_false]
  unfold WK
  rw [e1, e2, e3, e4]
  exact alike_WO h (by decide) (by rw [kd_plain (by decide) (by decide) (show _ = (1 : Int32) by decide), mb_free (by decide)]) vt sat c _ rf re r8 rg rl
theorem w0_43 {S E L st d s1 s2 md : Nat} {im un tb : Int32} {x z xS zX : Nat → Int32} (h : HY S E L st d s1 s2 md 0 im un tb x z xS zX) {vt : Int32} (hvt : fX11_vlmax vt = nI (16 * E / S)) (sat : Int32) (c : Int64) (rf re r8 rg : Int32) (rl : Int64) : WK S E L st d s1 s2 md 0 (nI 43) im un tb x z xS zX vt sat c rf re r8 rg rl := by
  have e1 : fX11_works (nI st) (nI d) (nI s1) (nI s2) 0 (nI 43) (nI S) (nI E) un = fX11_alike (nI d) (nI s1) (nI s2) 0 (nI S) (nI E) un := by
    simp (decide := true) only [fX11_works, fX11_integers, pX11_integers_251_S1, pX11_integers_269_S1, pX11_integers_288_S1, pX11_integers_307_S1, pX11_integers_326_S1, pX11_integers_345_S1, pX11_integers_390_S1, pX11_integers_407_S1, pX11_integers_440_S1, pX11_integers_459_S1, pX11_integers_494_S1, pX11_integers_512_S1, pX11_integers_543_S1, pX11_integers_562_S1, pX11_integers_595_S1, pX11_integers_614_S1, pX11_integers_639_S1, pX11_integers_715_S1, pX11_integers_735_S1, if_true, if_false]
  have e2 : fX11_works__zV c (nI L) vt (nI st) (nI md) sat (nI d) (nI s1) (nI s2) 0 (nI 43) (nI S) (nI E) un zX z z = fX11_alike__zV c (nI L) vt (nI st) (nI md) sat (nI d) (nI s1) (nI s2) 0 (nI S) (nI E) un zX z z 18 := by
    simp (decide := true) only [fX11_works__zV, fX11_integers__zV, pX11_integers_251_zV, pX11_integers_269_zV, pX11_integers_288_zV, pX11_integers_307_zV, pX11_integers_326_zV, pX11_integers_345_zV, pX11_integers_390_zV, pX11_integers_407_zV, pX11_integers_440_zV, pX11_integers_459_zV, pX11_integers_494_zV, pX11_integers_512_zV, pX11_integers_543_zV, pX11_integers_562_zV, pX11_integers_595_zV, pX11_integers_614_zV, pX11_integers_639_zV, pX11_integers_715_zV, pX11_integers_735_zV, if_true, if_false]
  have e3 : fX11_works__m_vxsat c (nI L) vt (nI st) (nI md) sat (nI d) (nI s1) (nI s2) 0 (nI 43) (nI S) (nI E) un zX z z = fX11_alike__m_vxsat c (nI L) vt (nI st) (nI md) sat (nI d) (nI s1) (nI s2) 0 (nI S) (nI E) un zX z z 18 := by
    simp (decide := true) only [fX11_works__m_vxsat, fX11_integers__m_vxsat, pX11_integers_251_m_vxsat, pX11_integers_269_m_vxsat, pX11_integers_288_m_vxsat, pX11_integers_307_m_vxsat, pX11_integers_326_m_vxsat, pX11_integers_345_m_vxsat, pX11_integers_595_m_vxsat, pX11_integers_614_m_vxsat, pX11_integers_639_m_vxsat, pX11_integers_715_m_vxsat, pX11_integers_735_m_vxsat, if_true, if_false]
  have e4 : fX11_works__zX (nI L) (nI st) (nI d) (nI s1) (nI s2) 0 (nI 43) (nI S) un zX z = zX := by
    simp (decide := true) only [fX11_works__zX, if_true, if_false]
  unfold WK
  rw [e1, e2, e3, e4]
  exact alike_WO h (by decide) (by rw [kd_plain (by decide) (by decide) (show _ = (1 : Int32) by decide), mb_free (by decide)]) vt sat c _ rf re r8 rg rl
theorem w0_44 {S E L st d s1 s2 md : Nat} {im un tb : Int32} {x z xS zX : Nat → Int32} (h : HY S E L st d s1 s2 md 0 im un tb x z xS zX) {vt : Int32} (hvt : fX11_vlmax vt = nI (16 * E / S)) (sat : Int32) (c : Int64) (rf re r8 rg : Int32) (rl : Int64) : WK S E L st d s1 s2 md 0 (nI 44) im un tb x z xS zX vt sat c rf re r8 rg rl := by
  have e1 : fX11_works (nI st) (nI d) (nI s1) (nI s2) 0 (nI 44) (nI S) (nI E) un = fX11_narrows (nI d) (nI s1) (nI s2) 0 (nI S) (nI E) un := by
    simp (decide := true) only [fX11_works, fX11_integers, pX11_integers_251_S1, pX11_integers_269_S1, pX11_integers_288_S1, pX11_integers_307_S1, pX11_integers_326_S1, pX11_integers_345_S1, pX11_integers_390_S1, pX11_integers_407_S1, pX11_integers_440_S1, pX11_integers_459_S1, pX11_integers_494_S1, pX11_integers_512_S1, pX11_integers_543_S1, pX11_integers_562_S1, pX11_integers_595_S1, pX11_integers_614_S1, pX11_integers_639_S1, pX11_integers_715_S1, pX11_integers_735_S1, if_true, if_false]
  have e2 : fX11_works__zV c (nI L) vt (nI st) (nI md) sat (nI d) (nI s1) (nI s2) 0 (nI 44) (nI S) (nI E) un zX z z = fX11_narrows__zV c (nI L) vt (nI st) (nI md) sat (nI d) (nI s1) (nI s2) 0 (nI S) (nI E) un zX z z 0 0 := by
    simp (decide := true) only [fX11_works__zV, fX11_integers__zV, pX11_integers_251_zV, pX11_integers_269_zV, pX11_integers_288_zV, pX11_integers_307_zV, pX11_integers_326_zV, pX11_integers_345_zV, pX11_integers_390_zV, pX11_integers_407_zV, pX11_integers_440_zV, pX11_integers_459_zV, pX11_integers_494_zV, pX11_integers_512_zV, pX11_integers_543_zV, pX11_integers_562_zV, pX11_integers_595_zV, pX11_integers_614_zV, pX11_integers_639_zV, pX11_integers_715_zV, pX11_integers_735_zV, if_true, if_false]
  have e3 : fX11_works__m_vxsat c (nI L) vt (nI st) (nI md) sat (nI d) (nI s1) (nI s2) 0 (nI 44) (nI S) (nI E) un zX z z = fX11_narrows__m_vxsat c (nI L) vt (nI st) (nI md) sat (nI d) (nI s1) (nI s2) 0 (nI S) (nI E) un zX z z 0 0 := by
    simp (decide := true) only [fX11_works__m_vxsat, fX11_integers__m_vxsat, pX11_integers_251_m_vxsat, pX11_integers_269_m_vxsat, pX11_integers_288_m_vxsat, pX11_integers_307_m_vxsat, pX11_integers_326_m_vxsat, pX11_integers_345_m_vxsat, pX11_integers_595_m_vxsat, pX11_integers_614_m_vxsat, pX11_integers_639_m_vxsat, pX11_integers_715_m_vxsat, pX11_integers_735_m_vxsat, if_true, if_false]
  have e4 : fX11_works__zX (nI L) (nI st) (nI d) (nI s1) (nI s2) 0 (nI 44) (nI S) un zX z = zX := by
    simp (decide := true) only [fX11_works__zX, if_true, if_false]
  unfold WK
  rw [e1, e2, e3, e4]
  exact narrows_WO h (by decide) (by rw [kd_plain (by decide) (by decide) (show _ = (6 : Int32) by decide), mb_free (by decide)]) vt sat c _ rf re r8 rg rl
theorem w0_45 {S E L st d s1 s2 md : Nat} {im un tb : Int32} {x z xS zX : Nat → Int32} (h : HY S E L st d s1 s2 md 0 im un tb x z xS zX) {vt : Int32} (hvt : fX11_vlmax vt = nI (16 * E / S)) (sat : Int32) (c : Int64) (rf re r8 rg : Int32) (rl : Int64) : WK S E L st d s1 s2 md 0 (nI 45) im un tb x z xS zX vt sat c rf re r8 rg rl := by
  have e1 : fX11_works (nI st) (nI d) (nI s1) (nI s2) 0 (nI 45) (nI S) (nI E) un = fX11_narrows (nI d) (nI s1) (nI s2) 0 (nI S) (nI E) un := by
    simp (decide := true) only [fX11_works, fX11_integers, pX11_integers_251_S1, pX11_integers_269_S1, pX11_integers_288_S1, pX11_integers_307_S1, pX11_integers_326_S1, pX11_integers_345_S1, pX11_integers_390_S1, pX11_integers_407_S1, pX11_integers_440_S1, pX11_integers_459_S1, pX11_integers_494_S1, pX11_integers_512_S1, pX11_integers_543_S1, pX11_integers_562_S1, pX11_integers_595_S1, pX11_integers_614_S1, pX11_integers_639_S1, pX11_integers_715_S1, pX11_integers_735_S1, if_true, if_false]
  have e2 : fX11_works__zV c (nI L) vt (nI st) (nI md) sat (nI d) (nI s1) (nI s2) 0 (nI 45) (nI S) (nI E) un zX z z = fX11_narrows__zV c (nI L) vt (nI st) (nI md) sat (nI d) (nI s1) (nI s2) 0 (nI S) (nI E) un zX z z 1 0 := by
    simp (decide := true) only [fX11_works__zV, fX11_integers__zV, pX11_integers_251_zV, pX11_integers_269_zV, pX11_integers_288_zV, pX11_integers_307_zV, pX11_integers_326_zV, pX11_integers_345_zV, pX11_integers_390_zV, pX11_integers_407_zV, pX11_integers_440_zV, pX11_integers_459_zV, pX11_integers_494_zV, pX11_integers_512_zV, pX11_integers_543_zV, pX11_integers_562_zV, pX11_integers_595_zV, pX11_integers_614_zV, pX11_integers_639_zV, pX11_integers_715_zV, pX11_integers_735_zV, if_true, if_false]
  have e3 : fX11_works__m_vxsat c (nI L) vt (nI st) (nI md) sat (nI d) (nI s1) (nI s2) 0 (nI 45) (nI S) (nI E) un zX z z = fX11_narrows__m_vxsat c (nI L) vt (nI st) (nI md) sat (nI d) (nI s1) (nI s2) 0 (nI S) (nI E) un zX z z 1 0 := by
    simp (decide := true) only [fX11_works__m_vxsat, fX11_integers__m_vxsat, pX11_integers_251_m_vxsat, pX11_integers_269_m_vxsat, pX11_integers_288_m_vxsat, pX11_integers_307_m_vxsat, pX11_integers_326_m_vxsat, pX11_integers_345_m_vxsat, pX11_integers_595_m_vxsat, pX11_integers_614_m_vxsat, pX11_integers_639_m_vxsat, pX11_integers_715_m_vxsat, pX11_integers_735_m_vxsat, if_true, if_false]
  have e4 : fX11_works__zX (nI L) (nI st) (nI d) (nI s1) (nI s2) 0 (nI 45) (nI S) un zX z = zX := by
    simp (decide := true) only [fX11_works__zX, if_true, if_false]
  unfold WK
  rw [e1, e2, e3, e4]
  exact narrows_WO h (by decide) (by rw [kd_plain (by decide) (by decide) (show _ = (6 : Int32) by decide), mb_free (by decide)]) vt sat c _ rf re r8 rg rl
theorem w0_46 {S E L st d s1 s2 md : Nat} {im un tb : Int32} {x z xS zX : Nat → Int32} (h : HY S E L st d s1 s2 md 0 im un tb x z xS zX) {vt : Int32} (hvt : fX11_vlmax vt = nI (16 * E / S)) (sat : Int32) (c : Int64) (rf re r8 rg : Int32) (rl : Int64) : WK S E L st d s1 s2 md 0 (nI 46) im un tb x z xS zX vt sat c rf re r8 rg rl := by
  have e1 : fX11_works (nI st) (nI d) (nI s1) (nI s2) 0 (nI 46) (nI S) (nI E) un = fX11_narrows (nI d) (nI s1) (nI s2) 0 (nI S) (nI E) un := by
    simp (decide := true) only [fX11_works, fX11_integers, pX11_integers_251_S1, pX11_integers_269_S1, pX11_integers_288_S1, pX11_integers_307_S1, pX11_integers_326_S1, pX11_integers_345_S1, pX11_integers_390_S1, pX11_integers_407_S1, pX11_integers_440_S1, pX11_integers_459_S1, pX11_integers_494_S1, pX11_integers_512_S1, pX11_integers_543_S1, pX11_integers_562_S1, pX11_integers_595_S1, pX11_integers_614_S1, pX11_integers_639_S1, pX11_integers_715_S1, pX11_integers_735_S1, if_true, if_false]
  have e2 : fX11_works__zV c (nI L) vt (nI st) (nI md) sat (nI d) (nI s1) (nI s2) 0 (nI 46) (nI S) (nI E) un zX z z = fX11_narrows__zV c (nI L) vt (nI st) (nI md) sat (nI d) (nI s1) (nI s2) 0 (nI S) (nI E) un zX z z 0 1 := by
    simp (decide := true) only [fX11_works__zV, fX11_integers__zV, pX11_integers_251_zV, pX11_integers_269_zV, pX11_integers_288_zV, pX11_integers_307_zV, pX11_integers_326_zV, pX11_integers_345_zV, pX11_integers_390_zV, pX11_integers_407_zV, pX11_integers_440_zV, pX11_integers_459_zV, pX11_integers_494_zV, pX11_integers_512_zV, pX11_integers_543_zV, pX11_integers_562_zV, pX11_integers_595_zV, pX11_integers_614_zV, pX11_integers_639_zV, pX11_integers_715_zV, pX11_integers_735_zV, if_true, if_false]
  have e3 : fX11_works__m_vxsat c (nI L) vt (nI st) (nI md) sat (nI d) (nI s1) (nI s2) 0 (nI 46) (nI S) (nI E) un zX z z = fX11_narrows__m_vxsat c (nI L) vt (nI st) (nI md) sat (nI d) (nI s1) (nI s2) 0 (nI S) (nI E) un zX z z 0 1 := by
    simp (decide := true) only [fX11_works__m_vxsat, fX11_integers__m_vxsat, pX11_integers_251_m_vxsat, pX11_integers_269_m_vxsat, pX11_integers_288_m_vxsat, pX11_integers_307_m_vxsat, pX11_integers_326_m_vxsat, pX11_integers_345_m_vxsat, pX11_integers_595_m_vxsat, pX11_integers_614_m_vxsat, pX11_integers_639_m_vxsat, pX11_integers_715_m_vxsat, pX11_integers_735_m_vxsat, if_true, if_false]
  have e4 : fX11_works__zX (nI L) (nI st) (nI d) (nI s1) (nI s2) 0 (nI 46) (nI S) un zX z = zX := by
    simp (decide := true) only [fX11_works__zX, if_true, if_false]
  unfold WK
  rw [e1, e2, e3, e4]
  exact narrows_WO h (by decide) (by rw [kd_plain (by decide) (by decide) (show _ = (6 : Int32) by decide), mb_free (by decide)]) vt sat c _ rf re r8 rg rl
theorem w0_47 {S E L st d s1 s2 md : Nat} {im un tb : Int32} {x z xS zX : Nat → Int32} (h : HY S E L st d s1 s2 md 0 im un tb x z xS zX) {vt : Int32} (hvt : fX11_vlmax vt = nI (16 * E / S)) (sat : Int32) (c : Int64) (rf re r8 rg : Int32) (rl : Int64) : WK S E L st d s1 s2 md 0 (nI 47) im un tb x z xS zX vt sat c rf re r8 rg rl := by
  have e1 : fX11_works (nI st) (nI d) (nI s1) (nI s2) 0 (nI 47) (nI S) (nI E) un = fX11_narrows (nI d) (nI s1) (nI s2) 0 (nI S) (nI E) un := by
    simp (decide := true) only [fX11_works, fX11_integers, pX11_integers_251_S1, pX11_integers_269_S1, pX11_integers_288_S1, pX11_integers_307_S1, pX11_integers_326_S1, pX11_integers_345_S1, pX11_integers_390_S1, pX11_integers_407_S1, pX11_integers_440_S1, pX11_integers_459_S1, pX11_integers_494_S1, pX11_integers_512_S1, pX11_integers_543_S1, pX11_integers_562_S1, pX11_integers_595_S1, pX11_integers_614_S1, pX11_integers_639_S1, pX11_integers_715_S1, pX11_integers_735_S1, if_true, if_false]
  have e2 : fX11_works__zV c (nI L) vt (nI st) (nI md) sat (nI d) (nI s1) (nI s2) 0 (nI 47) (nI S) (nI E) un zX z z = fX11_narrows__zV c (nI L) vt (nI st) (nI md) sat (nI d) (nI s1) (nI s2) 0 (nI S) (nI E) un zX z z 1 1 := by
    simp (decide := true) only [fX11_works__zV, fX11_integers__zV, pX11_integers_251_zV, pX11_integers_269_zV, pX11_integers_288_zV, pX11_integers_307_zV, pX11_integers_326_zV, pX11_integers_345_zV, pX11_integers_390_zV, pX11_integers_407_zV, pX11_integers_440_zV, pX11_integers_459_zV, pX11_integers_494_zV, pX11_integers_512_zV, pX11_integers_543_zV, pX11_integers_562_zV, pX11_integers_595_zV, pX11_integers_614_zV, pX11_integers_639_zV, pX11_integers_715_zV, pX11_integers_735_zV, if_true, if_false]
  have e3 : fX11_works__m_vxsat c (nI L) vt (nI st) (nI md) sat (nI d) (nI s1) (nI s2) 0 (nI 47) (nI S) (nI E) un zX z z = fX11_narrows__m_vxsat c (nI L) vt (nI st) (nI md) sat (nI d) (nI s1) (nI s2) 0 (nI S) (nI E) un zX z z 1 1 := by
    simp (decide := true) only [fX11_works__m_vxsat, fX11_integers__m_vxsat, pX11_integers_251_m_vxsat, pX11_integers_269_m_vxsat, pX11_integers_288_m_vxsat, pX11_integers_307_m_vxsat, pX11_integers_326_m_vxsat, pX11_integers_345_m_vxsat, pX11_integers_595_m_vxsat, pX11_integers_614_m_vxsat, pX11_integers_639_m_vxsat, pX11_integers_715_m_vxsat, pX11_integers_735_m_vxsat, if_true, if_false]
  have e4 : fX11_works__zX (nI L) (nI st) (nI d) (nI s1) (nI s2) 0 (nI 47) (nI S) un zX z = zX := by
    simp (decide := true) only [fX11_works__zX, if_true, if_false]
  unfold WK
  rw [e1, e2, e3, e4]
  exact narrows_WO h (by decide) (by rw [kd_plain (by decide) (by decide) (show _ = (6 : Int32) by decide), mb_free (by decide)]) vt sat c _ rf re r8 rg rl
theorem w0_48 {S E L st d s1 s2 md : Nat} {im un tb : Int32} {x z xS zX : Nat → Int32} (h : HY S E L st d s1 s2 md 0 im un tb x z xS zX) {vt : Int32} (hvt : fX11_vlmax vt = nI (16 * E / S)) (sat : Int32) (c : Int64) (rf re r8 rg : Int32) (rl : Int64) : WK S E L st d s1 s2 md 0 (nI 48) im un tb x z xS zX vt sat c rf re r8 rg rl := by
  have e1 : fX11_works (nI st) (nI d) (nI s1) (nI s2) 0 (nI 48) (nI S) (nI E) un = (if fX11_reduces (nI st) (nI s2) (nI S) (nI E) 1 = 0 then (0 : Int32) else 1) := by
    simp (decide := true) only [fX11_works, fX11_integers, pX11_integers_251_S1, pX11_integers_269_S1, pX11_integers_288_S1, pX11_integers_307_S1, pX11_integers_326_S1, pX11_integers_345_S1, pX11_integers_390_S1, pX11_integers_407_S1, pX11_integers_440_S1, pX11_integers_459_S1, pX11_integers_494_S1, pX11_integers_512_S1, pX11_integers_543_S1, pX11_integers_562_S1, pX11_integers_595_S1, pX11_integers_614_S1, pX11_integers_639_S1, pX11_integers_715_S1, pX11_integers_735_S1, if_true, if_false]
  have e2 : fX11_works__zV c (nI L) vt (nI st) (nI md) sat (nI d) (nI s1) (nI s2) 0 (nI 48) (nI S) (nI E) un zX z z = fX11_reduces__zV c (nI L) vt (nI st) (nI md) sat (nI d) (nI s1) (nI s2) (nI S) (nI E) un z z 0 1 0 := by
    simp (decide := true) only [fX11_works__zV, fX11_integers__zV, pX11_integers_251_zV, pX11_integers_269_zV, pX11_integers_288_zV, pX11_integers_307_zV, pX11_integers_326_zV, pX11_integers_345_zV, pX11_integers_390_zV, pX11_integers_407_zV, pX11_integers_440_zV, pX11_integers_459_zV, pX11_integers_494_zV, pX11_integers_512_zV, pX11_integers_543_zV, pX11_integers_562_zV, pX11_integers_595_zV, pX11_integers_614_zV, pX11_integers_639_zV, pX11_integers_715_zV, pX11_integers_735_zV, if_true, if_false]
  have e3 : fX11_works__m_vxsat c (nI L) vt (nI st) (nI md) sat (nI d) (nI s1) (nI s2) 0 (nI 48) (nI S) (nI E) un zX z z = fX11_reduces__m_vxsat (nI L) (nI st) (nI md) sat (nI s1) (nI s2) (nI S) (nI E) un z 0 1 0 := by
    simp (decide := true) only [fX11_works__m_vxsat, fX11_integers__m_vxsat, pX11_integers_251_m_vxsat, pX11_integers_269_m_vxsat, pX11_integers_288_m_vxsat, pX11_integers_307_m_vxsat, pX11_integers_326_m_vxsat, pX11_integers_345_m_vxsat, pX11_integers_595_m_vxsat, pX11_integers_614_m_vxsat, pX11_integers_639_m_vxsat, pX11_integers_715_m_vxsat, pX11_integers_735_m_vxsat, if_true, if_false]
  have e4 : fX11_works__zX (nI L) (nI st) (nI d) (nI s1) (nI s2) 0 (nI 48) (nI S) un zX z = zX := by
    simp (decide := true) only [fX11_works__zX, if_true, if_false]
  unfold WK
  rw [e1, e2, e3, e4]
  refine WO_b ?_
  exact reduces_WO h (W := 2 * S) (Or.inr ⟨rfl, rfl, rfl⟩) (Or.inr ⟨rfl, rfl, rfl, by decide⟩) (by rw [kd_plain (by decide) (by decide) (show _ = (11 : Int32) by decide), mb_free (by decide)]) vt sat c _ rf re r8 rg rl
theorem w0_49 {S E L st d s1 s2 md : Nat} {im un tb : Int32} {x z xS zX : Nat → Int32} (h : HY S E L st d s1 s2 md 0 im un tb x z xS zX) {vt : Int32} (hvt : fX11_vlmax vt = nI (16 * E / S)) (sat : Int32) (c : Int64) (rf re r8 rg : Int32) (rl : Int64) : WK S E L st d s1 s2 md 0 (nI 49) im un tb x z xS zX vt sat c rf re r8 rg rl := by
  have e1 : fX11_works (nI st) (nI d) (nI s1) (nI s2) 0 (nI 49) (nI S) (nI E) un = (if fX11_reduces (nI st) (nI s2) (nI S) (nI E) 1 = 0 then (0 : Int32) else 1) := by
    simp (decide := true) only [fX11_works, fX11_integers, pX11_integers_251_S1, pX11_integers_269_S1, pX11_integers_288_S1, pX11_integers_307_S1, pX11_integers_326_S1, pX11_integers_345_S1, pX11_integers_390_S1, pX11_integers_407_S1, pX11_integers_440_S1, pX11_integers_459_S1, pX11_integers_494_S1, pX11_integers_512_S1, pX11_integers_543_S1, pX11_integers_562_S1, pX11_integers_595_S1, pX11_integers_614_S1, pX11_integers_639_S1, pX11_integers_715_S1, pX11_integers_735_S1, if_true, if_false]
  have e2 : fX11_works__zV c (nI L) vt (nI st) (nI md) sat (nI d) (nI s1) (nI s2) 0 (nI 49) (nI S) (nI E) un zX z z = fX11_reduces__zV c (nI L) vt (nI st) (nI md) sat (nI d) (nI s1) (nI s2) (nI S) (nI E) un z z 0 1 1 := by
    simp (decide := true) only [fX11_works__zV, fX11_integers__zV, pX11_integers_251_zV, pX11_integers_269_zV, pX11_integers_288_zV, pX11_integers_307_zV, pX11_integers_326_zV, pX11_integers_345_zV, pX11_integers_390_zV, pX11_integers_407_zV, pX11_integers_440_zV, pX11_integers_459_zV, pX11_integers_494_zV, pX11_integers_512_zV, pX11_integers_543_zV, pX11_integers_562_zV, pX11_integers_595_zV, pX11_integers_614_zV, pX11_integers_639_zV, pX11_integers_715_zV, pX11_integers_735_zV, if_true, if_false]
  have e3 : fX11_works__m_vxsat c (nI L) vt (nI st) (nI md) sat (nI d) (nI s1) (nI s2) 0 (nI 49) (nI S) (nI E) un zX z z = fX11_reduces__m_vxsat (nI L) (nI st) (nI md) sat (nI s1) (nI s2) (nI S) (nI E) un z 0 1 1 := by
    simp (decide := true) only [fX11_works__m_vxsat, fX11_integers__m_vxsat, pX11_integers_251_m_vxsat, pX11_integers_269_m_vxsat, pX11_integers_288_m_vxsat, pX11_integers_307_m_vxsat, pX11_integers_326_m_vxsat, pX11_integers_345_m_vxsat, pX11_integers_595_m_vxsat, pX11_integers_614_m_vxsat, pX11_integers_639_m_vxsat, pX11_integers_715_m_vxsat, pX11_integers_735_m_vxsat, if_true, if_false]
  have e4 : fX11_works__zX (nI L) (nI st) (nI d) (nI s1) (nI s2) 0 (nI 49) (nI S) un zX z = zX := by
    simp (decide := true) only [fX11_works__zX, if_true, if_false]
  unfold WK
  rw [e1, e2, e3, e4]
  refine WO_b ?_
  exact reduces_WO h (W := 2 * S) (Or.inr ⟨rfl, rfl, rfl⟩) (Or.inr ⟨rfl, rfl, rfl, by decide⟩) (by rw [kd_plain (by decide) (by decide) (show _ = (11 : Int32) by decide), mb_free (by decide)]) vt sat c _ rf re r8 rg rl
theorem w0_50 {S E L st d s1 s2 md : Nat} {im un tb : Int32} {x z xS zX : Nat → Int32} (h : HY S E L st d s1 s2 md 0 im un tb x z xS zX) {vt : Int32} (hvt : fX11_vlmax vt = nI (16 * E / S)) (sat : Int32) (c : Int64) (rf re r8 rg : Int32) (rl : Int64) : WK S E L st d s1 s2 md 0 (nI 50) im un tb x z xS zX vt sat c rf re r8 rg rl := by
  have e1 : fX11_works (nI st) (nI d) (nI s1) (nI s2) 0 (nI 50) (nI S) (nI E) un = 0 := by
    simp (decide := true) only [fX11_works, fX11_integers, pX11_integers_251_S1, pX11_integers_269_S1, pX11_integers_288_S1, pX11_integers_307_S1, pX11_integers_326_S1, pX11_integers_345_S1, pX11_integers_390_S1, pX11_integers_407_S1, pX11_integers_440_S1, pX11_integers_459_S1, pX11_integers_494_S1, pX11_integers_512_S1, pX11_integers_543_S1, pX11_integers_562_S1, pX11_integers_595_S1, pX11_integers_614_S1, pX11_integers_639_S1, pX11_integers_715_S1, pX11_integers_735_S1, if_true, if_false]
  have e2 : fX11_works__zV c (nI L) vt (nI st) (nI md) sat (nI d) (nI s1) (nI s2) 0 (nI 50) (nI S) (nI E) un zX z z = z := by
    simp (decide := true) only [fX11_works__zV, fX11_integers__zV, pX11_integers_251_zV, pX11_integers_269_zV, pX11_integers_288_zV, pX11_integers_307_zV, pX11_integers_326_zV, pX11_integers_345_zV, pX11_integers_390_zV, pX11_integers_407_zV, pX11_integers_440_zV, pX11_integers_459_zV, pX11_integers_494_zV, pX11_integers_512_zV, pX11_integers_543_zV, pX11_integers_562_zV, pX11_integers_595_zV, pX11_integers_614_zV, pX11_integers_639_zV, pX11_integers_715_zV, pX11_integers_735_zV, if_true, if_false]
  have e3 : fX11_works__m_vxsat c (nI L) vt (nI st) (nI md) sat (nI d) (nI s1) (nI s2) 0 (nI 50) (nI S) (nI E) un zX z z = sat := by
    simp (decide := true) only [fX11_works__m_vxsat, fX11_integers__m_vxsat, pX11_integers_251_m_vxsat, pX11_integers_269_m_vxsat, pX11_integers_288_m_vxsat, pX11_integers_307_m_vxsat, pX11_integers_326_m_vxsat, pX11_integers_345_m_vxsat, pX11_integers_595_m_vxsat, pX11_integers_614_m_vxsat, pX11_integers_639_m_vxsat, pX11_integers_715_m_vxsat, pX11_integers_735_m_vxsat, if_true, if_false]
  have e4 : fX11_works__zX (nI L) (nI st) (nI d) (nI s1) (nI s2) 0 (nI 50) (nI S) un zX z = zX := by
    simp (decide := true) only [fX11_works__zX, if_true, if_false]
  unfold WK
  rw [e1, e2, e3, e4]
  exact ill_WO h (kd_none (by decide)) vt sat c _ rf re r8 rg rl
theorem w0_51 {S E L st d s1 s2 md : Nat} {im un tb : Int32} {x z xS zX : Nat → Int32} (h : HY S E L st d s1 s2 md 0 im un tb x z xS zX) {vt : Int32} (hvt : fX11_vlmax vt = nI (16 * E / S)) (sat : Int32) (c : Int64) (rf re r8 rg : Int32) (rl : Int64) : WK S E L st d s1 s2 md 0 (nI 51) im un tb x z xS zX vt sat c rf re r8 rg rl := by
  have e1 : fX11_works (nI st) (nI d) (nI s1) (nI s2) 0 (nI 51) (nI S) (nI E) un = 0 := by
    simp (decide := true) only [fX11_works, fX11_integers, pX11_integers_251_S1, pX11_integers_269_S1, pX11_integers_288_S1, pX11_integers_307_S1, pX11_integers_326_S1, pX11_integers_345_S1, pX11_integers_390_S1, pX11_integers_407_S1, pX11_integers_440_S1, pX11_integers_459_S1, pX11_integers_494_S1, pX11_integers_512_S1, pX11_integers_543_S1, pX11_integers_562_S1, pX11_integers_595_S1, pX11_integers_614_S1, pX11_integers_639_S1, pX11_integers_715_S1, pX11_integers_735_S1, if_true, if_false]
  have e2 : fX11_works__zV c (nI L) vt (nI st) (nI md) sat (nI d) (nI s1) (nI s2) 0 (nI 51) (nI S) (nI E) un zX z z = z := by
    simp (decide := true) only [fX11_works__zV, fX11_integers__zV, pX11_integers_251_zV, pX11_integers_269_zV, pX11_integers_288_zV, pX11_integers_307_zV, pX11_integers_326_zV, pX11_integers_345_zV, pX11_integers_390_zV, pX11_integers_407_zV, pX11_integers_440_zV, pX11_integers_459_zV, pX11_integers_494_zV, pX11_integers_512_zV, pX11_integers_543_zV, pX11_integers_562_zV, pX11_integers_595_zV, pX11_integers_614_zV, pX11_integers_639_zV, pX11_integers_715_zV, pX11_integers_735_zV, if_true, if_false]
  have e3 : fX11_works__m_vxsat c (nI L) vt (nI st) (nI md) sat (nI d) (nI s1) (nI s2) 0 (nI 51) (nI S) (nI E) un zX z z = sat := by
    simp (decide := true) only [fX11_works__m_vxsat, fX11_integers__m_vxsat, pX11_integers_251_m_vxsat, pX11_integers_269_m_vxsat, pX11_integers_288_m_vxsat, pX11_integers_307_m_vxsat, pX11_integers_326_m_vxsat, pX11_integers_345_m_vxsat, pX11_integers_595_m_vxsat, pX11_integers_614_m_vxsat, pX11_integers_639_m_vxsat, pX11_integers_715_m_vxsat, pX11_integers_735_m_vxsat, if_true, if_false]
  have e4 : fX11_works__zX (nI L) (nI st) (nI d) (nI s1) (nI s2) 0 (nI 51) (nI S) un zX z = zX := by
    simp (decide := true) only [fX11_works__zX, if_true, if_false]
  unfold WK
  rw [e1, e2, e3, e4]
  exact ill_WO h (kd_none (by decide)) vt sat c _ rf re r8 rg rl
theorem w0_52 {S E L st d s1 s2 md : Nat} {im un tb : Int32} {x z xS zX : Nat → Int32} (h : HY S E L st d s1 s2 md 0 im un tb x z xS zX) {vt : Int32} (hvt : fX11_vlmax vt = nI (16 * E / S)) (sat : Int32) (c : Int64) (rf re r8 rg : Int32) (rl : Int64) : WK S E L st d s1 s2 md 0 (nI 52) im un tb x z xS zX vt sat c rf re r8 rg rl := by
  have e1 : fX11_works (nI st) (nI d) (nI s1) (nI s2) 0 (nI 52) (nI S) (nI E) un = 0 := by
    simp (decide := true) only [fX11_works, fX11_integers, pX11_integers_251_S1, pX11_integers_269_S1, pX11_integers_288_S1, pX11_integers_307_S1, pX11_integers_326_S1, pX11_integers_345_S1, pX11_integers_390_S1, pX11_integers_407_S1, pX11_integers_440_S1, pX11_integers_459_S1, pX11_integers_494_S1, pX11_integers_512_S1, pX11_integers_543_S1, pX11_integers_562_S1, pX11_integers_595_S1, pX11_integers_614_S1, pX11_integers_639_S1, pX11_integers_715_S1, pX11_integers_735_S1, if_true, if_false]
  have e2 : fX11_works__zV c (nI L) vt (nI st) (nI md) sat (nI d) (nI s1) (nI s2) 0 (nI 52) (nI S) (nI E) un zX z z = z := by
    simp (decide := true) only [fX11_works__zV, fX11_integers__zV, pX11_integers_251_zV, pX11_integers_269_zV, pX11_integers_288_zV, pX11_integers_307_zV, pX11_integers_326_zV, pX11_integers_345_zV, pX11_integers_390_zV, pX11_integers_407_zV, pX11_integers_440_zV, pX11_integers_459_zV, pX11_integers_494_zV, pX11_integers_512_zV, pX11_integers_543_zV, pX11_integers_562_zV, pX11_integers_595_zV, pX11_integers_614_zV, pX11_integers_639_zV, pX11_integers_715_zV, pX11_integers_735_zV, if_true, if_false]
  have e3 : fX11_works__m_vxsat c (nI L) vt (nI st) (nI md) sat (nI d) (nI s1) (nI s2) 0 (nI 52) (nI S) (nI E) un zX z z = sat := by
    simp (decide := true) only [fX11_works__m_vxsat, fX11_integers__m_vxsat, pX11_integers_251_m_vxsat, pX11_integers_269_m_vxsat, pX11_integers_288_m_vxsat, pX11_integers_307_m_vxsat, pX11_integers_326_m_vxsat, pX11_integers_345_m_vxsat, pX11_integers_595_m_vxsat, pX11_integers_614_m_vxsat, pX11_integers_639_m_vxsat, pX11_integers_715_m_vxsat, pX11_integers_735_m_vxsat, if_true, if_false]
  have e4 : fX11_works__zX (nI L) (nI st) (nI d) (nI s1) (nI s2) 0 (nI 52) (nI S) un zX z = zX := by
    simp (decide := true) only [fX11_works__zX, if_true, if_false]
  unfold WK
  rw [e1, e2, e3, e4]
  exact ill_WO h (kd_none (by decide)) vt sat c _ rf re r8 rg rl
theorem w0_53 {S E L st d s1 s2 md : Nat} {im un tb : Int32} {x z xS zX : Nat → Int32} (h : HY S E L st d s1 s2 md 0 im un tb x z xS zX) {vt : Int32} (hvt : fX11_vlmax vt = nI (16 * E / S)) (sat : Int32) (c : Int64) (rf re r8 rg : Int32) (rl : Int64) : WK S E L st d s1 s2 md 0 (nI 53) im un tb x z xS zX vt sat c rf re r8 rg rl := by
  have e1 : fX11_works (nI st) (nI d) (nI s1) (nI s2) 0 (nI 53) (nI S) (nI E) un = 0 := by
    simp (decide := true) only [fX11_works, fX11_integers, pX11_integers_251_S1, pX11_integers_269_S1, pX11_integers_288_S1, pX11_integers_307_S1, pX11_integers_326_S1, pX11_integers_345_S1, pX11_integers_390_S1, pX11_integers_407_S1, pX11_integers_440_S1, pX11_integers_459_S1, pX11_integers_494_S1, pX11_integers_512_S1, pX11_integers_543_S1, pX11_integers_562_S1, pX11_integers_595_S1, pX11_integers_614_S1, pX11_integers_639_S1, pX11_integers_715_S1, pX11_integers_735_S1, if_true, if_false]
  have e2 : fX11_works__zV c (nI L) vt (nI st) (nI md) sat (nI d) (nI s1) (nI s2) 0 (nI 53) (nI S) (nI E) un zX z z = z := by
    simp (decide := true) only [fX11_works__zV, fX11_integers__zV, pX11_integers_251_zV, pX11_integers_269_zV, pX11_integers_288_zV, pX11_integers_307_zV, pX11_integers_326_zV, pX11_integers_345_zV, pX11_integers_390_zV, pX11_integers_407_zV, pX11_integers_440_zV, pX11_integers_459_zV, pX11_integers_494_zV, pX11_integers_512_zV, pX11_integers_543_zV, pX11_integers_562_zV, pX11_integers_595_zV, pX11_integers_614_zV, pX11_integers_639_zV, pX11_integers_715_zV, pX11_integers_735_zV, if_true, if_false]
  have e3 : fX11_works__m_vxsat c (nI L) vt (nI st) (nI md) sat (nI d) (nI s1) (nI s2) 0 (nI 53) (nI S) (nI E) un zX z z = sat := by
    simp (decide := true) only [fX11_works__m_vxsat, fX11_integers__m_vxsat, pX11_integers_251_m_vxsat, pX11_integers_269_m_vxsat, pX11_integers_288_m_vxsat, pX11_integers_307_m_vxsat, pX11_integers_326_m_vxsat, pX11_integers_345_m_vxsat, pX11_integers_595_m_vxsat, pX11_integers_614_m_vxsat, pX11_integers_639_m_vxsat, pX11_integers_715_m_vxsat, pX11_integers_735_m_vxsat, if_true, if_false]
  have e4 : fX11_works__zX (nI L) (nI st) (nI d) (nI s1) (nI s2) 0 (nI 53) (nI S) un zX z = zX := by
    simp (decide := true) only [fX11_works__zX, if_true, if_false]
  unfold WK
  rw [e1, e2, e3, e4]
  exact ill_WO h (kd_none (by decide)) vt sat c _ rf re r8 rg rl
theorem w0_54 {S E L st d s1 s2 md : Nat} {im un tb : Int32} {x z xS zX : Nat → Int32} (h : HY S E L st d s1 s2 md 0 im un tb x z xS zX) {vt : Int32} (hvt : fX11_vlmax vt = nI (16 * E / S)) (sat : Int32) (c : Int64) (rf re r8 rg : Int32) (rl : Int64) : WK S E L st d s1 s2 md 0 (nI 54) im un tb x z xS zX vt sat c rf re r8 rg rl := by
  have e1 : fX11_works (nI st) (nI d) (nI s1) (nI s2) 0 (nI 54) (nI S) (nI E) un = 0 := by
    simp (decide := true) only [fX11_works, fX11_integers, pX11_integers_251_S1, pX11_integers_269_S1, pX11_integers_288_S1, pX11_integers_307_S1, pX11_integers_326_S1, pX11_integers_345_S1, pX11_integers_390_S1, pX11_integers_407_S1, pX11_integers_440_S1, pX11_integers_459_S1, pX11_integers_494_S1, pX11_integers_512_S1, pX11_integers_543_S1, pX11_integers_562_S1, pX11_integers_595_S1, pX11_integers_614_S1, pX11_integers_639_S1, pX11_integers_715_S1, pX11_integers_735_S1, if_true, if_false]
  have e2 : fX11_works__zV c (nI L) vt (nI st) (nI md) sat (nI d) (nI s1) (nI s2) 0 (nI 54) (nI S) (nI E) un zX z z = z := by
    simp (decide := true) only [fX11_works__zV, fX11_integers__zV, pX11_integers_251_zV, pX11_integers_269_zV, pX11_integers_288_zV, pX11_integers_307_zV, pX11_integers_326_zV, pX11_integers_345_zV, pX11_integers_390_zV, pX11_integers_407_zV, pX11_integers_440_zV, pX11_integers_459_zV, pX11_integers_494_zV, pX11_integers_512_zV, pX11_integers_543_zV, pX11_integers_562_zV, pX11_integers_595_zV, pX11_integers_614_zV, pX11_integers_639_zV, pX11_integers_715_zV, pX11_integers_735_zV, if_true, if_false]
  have e3 : fX11_works__m_vxsat c (nI L) vt (nI st) (nI md) sat (nI d) (nI s1) (nI s2) 0 (nI 54) (nI S) (nI E) un zX z z = sat := by
    simp (decide := true) only [fX11_works__m_vxsat, fX11_integers__m_vxsat, pX11_integers_251_m_vxsat, pX11_integers_269_m_vxsat, pX11_integers_288_m_vxsat, pX11_integers_307_m_vxsat, pX11_integers_326_m_vxsat, pX11_integers_345_m_vxsat, pX11_integers_595_m_vxsat, pX11_integers_614_m_vxsat, pX11_integers_639_m_vxsat, pX11_integers_715_m_vxsat, pX11_integers_735_m_vxsat, if_true, if_false]
  have e4 : fX11_works__zX (nI L) (nI st) (nI d) (nI s1) (nI s2) 0 (nI 54) (nI S) un zX z = zX := by
    simp (decide := true) only [fX11_works__zX, if_true, if_false]
  unfold WK
  rw [e1, e2, e3, e4]
  exact ill_WO h (kd_none (by decide)) vt sat c _ rf re r8 rg rl
theorem w0_55 {S E L st d s1 s2 md : Nat} {im un tb : Int32} {x z xS zX : Nat → Int32} (h : HY S E L st d s1 s2 md 0 im un tb x z xS zX) {vt : Int32} (hvt : fX11_vlmax vt = nI (16 * E / S)) (sat : Int32) (c : Int64) (rf re r8 rg : Int32) (rl : Int64) : WK S E L st d s1 s2 md 0 (nI 55) im un tb x z xS zX vt sat c rf re r8 rg rl := by
  have e1 : fX11_works (nI st) (nI d) (nI s1) (nI s2) 0 (nI 55) (nI S) (nI E) un = 0 := by
    simp (decide := true) only [fX11_works, fX11_integers, pX11_integers_251_S1, pX11_integers_269_S1, pX11_integers_288_S1, pX11_integers_307_S1, pX11_integers_326_S1, pX11_integers_345_S1, pX11_integers_390_S1, pX11_integers_407_S1, pX11_integers_440_S1, pX11_integers_459_S1, pX11_integers_494_S1, pX11_integers_512_S1, pX11_integers_543_S1, pX11_integers_562_S1, pX11_integers_595_S1, pX11_integers_614_S1, pX11_integers_639_S1, pX11_integers_715_S1, pX11_integers_735_S1, if_true, if_false]
  have e2 : fX11_works__zV c (nI L) vt (nI st) (nI md) sat (nI d) (nI s1) (nI s2) 0 (nI 55) (nI S) (nI E) un zX z z = z := by
    simp (decide := true) only [fX11_works__zV, fX11_integers__zV, pX11_integers_251_zV, pX11_integers_269_zV, pX11_integers_288_zV, pX11_integers_307_zV, pX11_integers_326_zV, pX11_integers_345_zV, pX11_integers_390_zV, pX11_integers_407_zV, pX11_integers_440_zV, pX11_integers_459_zV, pX11_integers_494_zV, pX11_integers_512_zV, pX11_integers_543_zV, pX11_integers_562_zV, pX11_integers_595_zV, pX11_integers_614_zV, pX11_integers_639_zV, pX11_integers_715_zV, pX11_integers_735_zV, if_true, if_false]
  have e3 : fX11_works__m_vxsat c (nI L) vt (nI st) (nI md) sat (nI d) (nI s1) (nI s2) 0 (nI 55) (nI S) (nI E) un zX z z = sat := by
    simp (decide := true) only [fX11_works__m_vxsat, fX11_integers__m_vxsat, pX11_integers_251_m_vxsat, pX11_integers_269_m_vxsat, pX11_integers_288_m_vxsat, pX11_integers_307_m_vxsat, pX11_integers_326_m_vxsat, pX11_integers_345_m_vxsat, pX11_integers_595_m_vxsat, pX11_integers_614_m_vxsat, pX11_integers_639_m_vxsat, pX11_integers_715_m_vxsat, pX11_integers_735_m_vxsat, if_true, if_false]
  have e4 : fX11_works__zX (nI L) (nI st) (nI d) (nI s1) (nI s2) 0 (nI 55) (nI S) un zX z = zX := by
    simp (decide := true) only [fX11_works__zX, if_true, if_false]
  unfold WK
  rw [e1, e2, e3, e4]
  exact ill_WO h (kd_none (by decide)) vt sat c _ rf re r8 rg rl
theorem w0_56 {S E L st d s1 s2 md : Nat} {im un tb : Int32} {x z xS zX : Nat → Int32} (h : HY S E L st d s1 s2 md 0 im un tb x z xS zX) {vt : Int32} (hvt : fX11_vlmax vt = nI (16 * E / S)) (sat : Int32) (c : Int64) (rf re r8 rg : Int32) (rl : Int64) : WK S E L st d s1 s2 md 0 (nI 56) im un tb x z xS zX vt sat c rf re r8 rg rl := by
  have e1 : fX11_works (nI st) (nI d) (nI s1) (nI s2) 0 (nI 56) (nI S) (nI E) un = 0 := by
    simp (decide := true) only [fX11_works, fX11_integers, pX11_integers_251_S1, pX11_integers_269_S1, pX11_integers_288_S1, pX11_integers_307_S1, pX11_integers_326_S1, pX11_integers_345_S1, pX11_integers_390_S1, pX11_integers_407_S1, pX11_integers_440_S1, pX11_integers_459_S1, pX11_integers_494_S1, pX11_integers_512_S1, pX11_integers_543_S1, pX11_integers_562_S1, pX11_integers_595_S1, pX11_integers_614_S1, pX11_integers_639_S1, pX11_integers_715_S1, pX11_integers_735_S1, if_true, if_false]
  have e2 : fX11_works__zV c (nI L) vt (nI st) (nI md) sat (nI d) (nI s1) (nI s2) 0 (nI 56) (nI S) (nI E) un zX z z = z := by
    simp (decide := true) only [fX11_works__zV, fX11_integers__zV, pX11_integers_251_zV, pX11_integers_269_zV, pX11_integers_288_zV, pX11_integers_307_zV, pX11_integers_326_zV, pX11_integers_345_zV, pX11_integers_390_zV, pX11_integers_407_zV, pX11_integers_440_zV, pX11_integers_459_zV, pX11_integers_494_zV, pX11_integers_512_zV, pX11_integers_543_zV, pX11_integers_562_zV, pX11_integers_595_zV, pX11_integers_614_zV, pX11_integers_639_zV, pX11_integers_715_zV, pX11_integers_735_zV, if_true, if_false]
  have e3 : fX11_works__m_vxsat c (nI L) vt (nI st) (nI md) sat (nI d) (nI s1) (nI s2) 0 (nI 56) (nI S) (nI E) un zX z z = sat := by
    simp (decide := true) only [fX11_works__m_vxsat, fX11_integers__m_vxsat, pX11_integers_251_m_vxsat, pX11_integers_269_m_vxsat, pX11_integers_288_m_vxsat, pX11_integers_307_m_vxsat, pX11_integers_326_m_vxsat, pX11_integers_345_m_vxsat, pX11_integers_595_m_vxsat, pX11_integers_614_m_vxsat, pX11_integers_639_m_vxsat, pX11_integers_715_m_vxsat, pX11_integers_735_m_vxsat, if_true, if_false]
  have e4 : fX11_works__zX (nI L) (nI st) (nI d) (nI s1) (nI s2) 0 (nI 56) (nI S) un zX z = zX := by
    simp (decide := true) only [fX11_works__zX, if_true, if_false]
  unfold WK
  rw [e1, e2, e3, e4]
  exact ill_WO h (kd_none (by decide)) vt sat c _ rf re r8 rg rl
theorem w0_57 {S E L st d s1 s2 md : Nat} {im un tb : Int32} {x z xS zX : Nat → Int32} (h : HY S E L st d s1 s2 md 0 im un tb x z xS zX) {vt : Int32} (hvt : fX11_vlmax vt = nI (16 * E / S)) (sat : Int32) (c : Int64) (rf re r8 rg : Int32) (rl : Int64) : WK S E L st d s1 s2 md 0 (nI 57) im un tb x z xS zX vt sat c rf re r8 rg rl := by
  have e1 : fX11_works (nI st) (nI d) (nI s1) (nI s2) 0 (nI 57) (nI S) (nI E) un = 0 := by
    simp (decide := true) only [fX11_works, fX11_integers, pX11_integers_251_S1, pX11_integers_269_S1, pX11_integers_288_S1, pX11_integers_307_S1, pX11_integers_326_S1, pX11_integers_345_S1, pX11_integers_390_S1, pX11_integers_407_S1, pX11_integers_440_S1, pX11_integers_459_S1, pX11_integers_494_S1, pX11_integers_512_S1, pX11_integers_543_S1, pX11_integers_562_S1, pX11_integers_595_S1, pX11_integers_614_S1, pX11_integers_639_S1, pX11_integers_715_S1, pX11_integers_735_S1, if_true, if_false]
  have e2 : fX11_works__zV c (nI L) vt (nI st) (nI md) sat (nI d) (nI s1) (nI s2) 0 (nI 57) (nI S) (nI E) un zX z z = z := by
    simp (decide := true) only [fX11_works__zV, fX11_integers__zV, pX11_integers_251_zV, pX11_integers_269_zV, pX11_integers_288_zV, pX11_integers_307_zV, pX11_integers_326_zV, pX11_integers_345_zV, pX11_integers_390_zV, pX11_integers_407_zV, pX11_integers_440_zV, pX11_integers_459_zV, pX11_integers_494_zV, pX11_integers_512_zV, pX11_integers_543_zV, pX11_integers_562_zV, pX11_integers_595_zV, pX11_integers_614_zV, pX11_integers_639_zV, pX11_integers_715_zV, pX11_integers_735_zV, if_true, if_false]
  have e3 : fX11_works__m_vxsat c (nI L) vt (nI st) (nI md) sat (nI d) (nI s1) (nI s2) 0 (nI 57) (nI S) (nI E) un zX z z = sat := by
    simp (decide := true) only [fX11_works__m_vxsat, fX11_integers__m_vxsat, pX11_integers_251_m_vxsat, pX11_integers_269_m_vxsat, pX11_integers_288_m_vxsat, pX11_integers_307_m_vxsat, pX11_integers_326_m_vxsat, pX11_integers_345_m_vxsat, pX11_integers_595_m_vxsat, pX11_integers_614_m_vxsat, pX11_integers_639_m_vxsat, pX11_integers_715_m_vxsat, pX11_integers_735_m_vxsat, if_true, if_false]
  have e4 : fX11_works__zX (nI L) (nI st) (nI d) (nI s1) (nI s2) 0 (nI 57) (nI S) un zX z = zX := by
    simp (decide := true) only [fX11_works__zX, if_true, if_false]
  unfold WK
  rw [e1, e2, e3, e4]
  exact ill_WO h (kd_none (by decide)) vt sat c _ rf re r8 rg rl
theorem w0_58 {S E L st d s1 s2 md : Nat} {im un tb : Int32} {x z xS zX : Nat → Int32} (h : HY S E L st d s1 s2 md 0 im un tb x z xS zX) {vt : Int32} (hvt : fX11_vlmax vt = nI (16 * E / S)) (sat : Int32) (c : Int64) (rf re r8 rg : Int32) (rl : Int64) : WK S E L st d s1 s2 md 0 (nI 58) im un tb x z xS zX vt sat c rf re r8 rg rl := by
  have e1 : fX11_works (nI st) (nI d) (nI s1) (nI s2) 0 (nI 58) (nI S) (nI E) un = 0 := by
    simp (decide := true) only [fX11_works, fX11_integers, pX11_integers_251_S1, pX11_integers_269_S1, pX11_integers_288_S1, pX11_integers_307_S1, pX11_integers_326_S1, pX11_integers_345_S1, pX11_integers_390_S1, pX11_integers_407_S1, pX11_integers_440_S1, pX11_integers_459_S1, pX11_integers_494_S1, pX11_integers_512_S1, pX11_integers_543_S1, pX11_integers_562_S1, pX11_integers_595_S1, pX11_integers_614_S1, pX11_integers_639_S1, pX11_integers_715_S1, pX11_integers_735_S1, if_true, if_false]
  have e2 : fX11_works__zV c (nI L) vt (nI st) (nI md) sat (nI d) (nI s1) (nI s2) 0 (nI 58) (nI S) (nI E) un zX z z = z := by
    simp (decide := true) only [fX11_works__zV, fX11_integers__zV, pX11_integers_251_zV, pX11_integers_269_zV, pX11_integers_288_zV, pX11_integers_307_zV, pX11_integers_326_zV, pX11_integers_345_zV, pX11_integers_390_zV, pX11_integers_407_zV, pX11_integers_440_zV, pX11_integers_459_zV, pX11_integers_494_zV, pX11_integers_512_zV, pX11_integers_543_zV, pX11_integers_562_zV, pX11_integers_595_zV, pX11_integers_614_zV, pX11_integers_639_zV, pX11_integers_715_zV, pX11_integers_735_zV, if_true, if_false]
  have e3 : fX11_works__m_vxsat c (nI L) vt (nI st) (nI md) sat (nI d) (nI s1) (nI s2) 0 (nI 58) (nI S) (nI E) un zX z z = sat := by
    simp (decide := true) only [fX11_works__m_vxsat, fX11_integers__m_vxsat, pX11_integers_251_m_vxsat, pX11_integers_269_m_vxsat, pX11_integers_288_m_vxsat, pX11_integers_307_m_vxsat, pX11_integers_326_m_vxsat, pX11_integers_345_m_vxsat, pX11_integers_595_m_vxsat, pX11_integers_614_m_vxsat, pX11_integers_639_m_vxsat, pX11_integers_715_m_vxsat, pX11_integers_735_m_vxsat, if_true, if_false]
  have e4 : fX11_works__zX (nI L) (nI st) (nI d) (nI s1) (nI s2) 0 (nI 58) (nI S) un zX z = zX := by
    simp (decide := true) only [fX11_works__zX, if_true, if_false]
  unfold WK
  rw [e1, e2, e3, e4]
  exact ill_WO h (kd_none (by decide)) vt sat c _ rf re r8 rg rl
theorem w0_59 {S E L st d s1 s2 md : Nat} {im un tb : Int32} {x z xS zX : Nat → Int32} (h : HY S E L st d s1 s2 md 0 im un tb x z xS zX) {vt : Int32} (hvt : fX11_vlmax vt = nI (16 * E / S)) (sat : Int32) (c : Int64) (rf re r8 rg : Int32) (rl : Int64) : WK S E L st d s1 s2 md 0 (nI 59) im un tb x z xS zX vt sat c rf re r8 rg rl := by
  have e1 : fX11_works (nI st) (nI d) (nI s1) (nI s2) 0 (nI 59) (nI S) (nI E) un = 0 := by
    simp (decide := true) only [fX11_works, fX11_integers, pX11_integers_251_S1, pX11_integers_269_S1, pX11_integers_288_S1, pX11_integers_307_S1, pX11_integers_326_S1, pX11_integers_345_S1, pX11_integers_390_S1, pX11_integers_407_S1, pX11_integers_440_S1, pX11_integers_459_S1, pX11_integers_494_S1, pX11_integers_512_S1, pX11_integers_543_S1, pX11_integers_562_S1, pX11_integers_595_S1, pX11_integers_614_S1, pX11_integers_639_S1, pX11_integers_715_S1, pX11_integers_735_S1, if_true, if_false]
  have e2 : fX11_works__zV c (nI L) vt (nI st) (nI md) sat (nI d) (nI s1) (nI s2) 0 (nI 59) (nI S) (nI E) un zX z z = z := by
    simp (decide := true) only [fX11_works__zV, fX11_integers__zV, pX11_integers_251_zV, pX11_integers_269_zV, pX11_integers_288_zV, pX11_integers_307_zV, pX11_integers_326_zV, pX11_integers_345_zV, pX11_integers_390_zV, pX11_integers_407_zV, pX11_integers_440_zV, pX11_integers_459_zV, pX11_integers_494_zV, pX11_integers_512_zV, pX11_integers_543_zV, pX11_integers_562_zV, pX11_integers_595_zV, pX11_integers_614_zV, pX11_integers_639_zV, pX11_integers_715_zV, pX11_integers_735_zV, if_true, if_false]
  have e3 : fX11_works__m_vxsat c (nI L) vt (nI st) (nI md) sat (nI d) (nI s1) (nI s2) 0 (nI 59) (nI S) (nI E) un zX z z = sat := by
    simp (decide := true) only [fX11_works__m_vxsat, fX11_integers__m_vxsat, pX11_integers_251_m_vxsat, pX11_integers_269_m_vxsat, pX11_integers_288_m_vxsat, pX11_integers_307_m_vxsat, pX11_integers_326_m_vxsat, pX11_integers_345_m_vxsat, pX11_integers_595_m_vxsat, pX11_integers_614_m_vxsat, pX11_integers_639_m_vxsat, pX11_integers_715_m_vxsat, pX11_integers_735_m_vxsat, if_true, if_false]
  have e4 : fX11_works__zX (nI L) (nI st) (nI d) (nI s1) (nI s2) 0 (nI 59) (nI S) un zX z = zX := by
    simp (decide := true) only [fX11_works__zX, if_true, if_false]
  unfold WK
  rw [e1, e2, e3, e4]
  exact ill_WO h (kd_none (by decide)) vt sat c _ rf re r8 rg rl
theorem w0_60 {S E L st d s1 s2 md : Nat} {im un tb : Int32} {x z xS zX : Nat → Int32} (h : HY S E L st d s1 s2 md 0 im un tb x z xS zX) {vt : Int32} (hvt : fX11_vlmax vt = nI (16 * E / S)) (sat : Int32) (c : Int64) (rf re r8 rg : Int32) (rl : Int64) : WK S E L st d s1 s2 md 0 (nI 60) im un tb x z xS zX vt sat c rf re r8 rg rl := by
  have e1 : fX11_works (nI st) (nI d) (nI s1) (nI s2) 0 (nI 60) (nI S) (nI E) un = 0 := by
    simp (decide := true) only [fX11_works, fX11_integers, pX11_integers_251_S1, pX11_integers_269_S1, pX11_integers_288_S1, pX11_integers_307_S1, pX11_integers_326_S1, pX11_integers_345_S1, pX11_integers_390_S1, pX11_integers_407_S1, pX11_integers_440_S1, pX11_integers_459_S1, pX11_integers_494_S1, pX11_integers_512_S1, pX11_integers_543_S1, pX11_integers_562_S1, pX11_integers_595_S1, pX11_integers_614_S1, pX11_integers_639_S1, pX11_integers_715_S1, pX11_integers_735_S1, if_true, if_false]
  have e2 : fX11_works__zV c (nI L) vt (nI st) (nI md) sat (nI d) (nI s1) (nI s2) 0 (nI 60) (nI S) (nI E) un zX z z = z := by
    simp (decide := true) only [fX11_works__zV, fX11_integers__zV, pX11_integers_251_zV, pX11_integers_269_zV, pX11_integers_288_zV, pX11_integers_307_zV, pX11_integers_326_zV, pX11_integers_345_zV, pX11_integers_390_zV, pX11_integers_407_zV, pX11_integers_440_zV, pX11_integers_459_zV, pX11_integers_494_zV, pX11_integers_512_zV, pX11_integers_543_zV, pX11_integers_562_zV, pX11_integers_595_zV, pX11_integers_614_zV, pX11_integers_639_zV, pX11_integers_715_zV, pX11_integers_735_zV, if_true, if_false]
  have e3 : fX11_works__m_vxsat c (nI L) vt (nI st) (nI md) sat (nI d) (nI s1) (nI s2) 0 (nI 60) (nI S) (nI E) un zX z z = sat := by
    simp (decide := true) only [fX11_works__m_vxsat, fX11_integers__m_vxsat, pX11_integers_251_m_vxsat, pX11_integers_269_m_vxsat, pX11_integers_288_m_vxsat, pX11_integers_307_m_vxsat, pX11_integers_326_m_vxsat, pX11_integers_345_m_vxsat, pX11_integers_595_m_vxsat, pX11_integers_614_m_vxsat, pX11_integers_639_m_vxsat, pX11_integers_715_m_vxsat, pX11_integers_735_m_vxsat, if_true, if_false]
  have e4 : fX11_works__zX (nI L) (nI st) (nI d) (nI s1) (nI s2) 0 (nI 60) (nI S) un zX z = zX := by
    simp (decide := true) only [fX11_works__zX, if_true, if_false]
  unfold WK
  rw [e1, e2, e3, e4]
  exact ill_WO h (kd_none (by decide)) vt sat c _ rf re r8 rg rl
theorem w0_61 {S E L st d s1 s2 md : Nat} {im un tb : Int32} {x z xS zX : Nat → Int32} (h : HY S E L st d s1 s2 md 0 im un tb x z xS zX) {vt : Int32} (hvt : fX11_vlmax vt = nI (16 * E / S)) (sat : Int32) (c : Int64) (rf re r8 rg : Int32) (rl : Int64) : WK S E L st d s1 s2 md 0 (nI 61) im un tb x z xS zX vt sat c rf re r8 rg rl := by
  have e1 : fX11_works (nI st) (nI d) (nI s1) (nI s2) 0 (nI 61) (nI S) (nI E) un = 0 := by
    simp (decide := true) only [fX11_works, fX11_integers, pX11_integers_251_S1, pX11_integers_269_S1, pX11_integers_288_S1, pX11_integers_307_S1, pX11_integers_326_S1, pX11_integers_345_S1, pX11_integers_390_S1, pX11_integers_407_S1, pX11_integers_440_S1, pX11_integers_459_S1, pX11_integers_494_S1, pX11_integers_512_S1, pX11_integers_543_S1, pX11_integers_562_S1, pX11_integers_595_S1, pX11_integers_614_S1, pX11_integers_639_S1, pX11_integers_715_S1, pX11_integers_735_S1, if_true, if_false]
  have e2 : fX11_works__zV c (nI L) vt (nI st) (nI md) sat (nI d) (nI s1) (nI s2) 0 (nI 61) (nI S) (nI E) un zX z z = z := by
    simp (decide := true) only [fX11_works__zV, fX11_integers__zV, pX11_integers_251_zV, pX11_integers_269_zV, pX11_integers_288_zV, pX11_integers_307_zV, pX11_integers_326_zV, pX11_integers_345_zV, pX11_integers_390_zV, pX11_integers_407_zV, pX11_integers_440_zV, pX11_integers_459_zV, pX11_integers_494_zV, pX11_integers_512_zV, pX11_integers_543_zV, pX11_integers_562_zV, pX11_integers_595_zV, pX11_integers_614_zV, pX11_integers_639_zV, pX11_integers_715_zV, pX11_integers_735_zV, if_true, if_false]
  have e3 : fX11_works__m_vxsat c (nI L) vt (nI st) (nI md) sat (nI d) (nI s1) (nI s2) 0 (nI 61) (nI S) (nI E) un zX z z = sat := by
    simp (decide := true) only [fX11_works__m_vxsat, fX11_integers__m_vxsat, pX11_integers_251_m_vxsat, pX11_integers_269_m_vxsat, pX11_integers_288_m_vxsat, pX11_integers_307_m_vxsat, pX11_integers_326_m_vxsat, pX11_integers_345_m_vxsat, pX11_integers_595_m_vxsat, pX11_integers_614_m_vxsat, pX11_integers_639_m_vxsat, pX11_integers_715_m_vxsat, pX11_integers_735_m_vxsat, if_true, if_false]
  have e4 : fX11_works__zX (nI L) (nI st) (nI d) (nI s1) (nI s2) 0 (nI 61) (nI S) un zX z = zX := by
    simp (decide := true) only [fX11_works__zX, if_true, if_false]
  unfold WK
  rw [e1, e2, e3, e4]
  exact ill_WO h (kd_none (by decide)) vt sat c _ rf re r8 rg rl
theorem w0_62 {S E L st d s1 s2 md : Nat} {im un tb : Int32} {x z xS zX : Nat → Int32} (h : HY S E L st d s1 s2 md 0 im un tb x z xS zX) {vt : Int32} (hvt : fX11_vlmax vt = nI (16 * E / S)) (sat : Int32) (c : Int64) (rf re r8 rg : Int32) (rl : Int64) : WK S E L st d s1 s2 md 0 (nI 62) im un tb x z xS zX vt sat c rf re r8 rg rl := by
  have e1 : fX11_works (nI st) (nI d) (nI s1) (nI s2) 0 (nI 62) (nI S) (nI E) un = 0 := by
    simp (decide := true) only [fX11_works, fX11_integers, pX11_integers_251_S1, pX11_integers_269_S1, pX11_integers_288_S1, pX11_integers_307_S1, pX11_integers_326_S1, pX11_integers_345_S1, pX11_integers_390_S1, pX11_integers_407_S1, pX11_integers_440_S1, pX11_integers_459_S1, pX11_integers_494_S1, pX11_integers_512_S1, pX11_integers_543_S1, pX11_integers_562_S1, pX11_integers_595_S1, pX11_integers_614_S1, pX11_integers_639_S1, pX11_integers_715_S1, pX11_integers_735_S1, if_true, if_false]
  have e2 : fX11_works__zV c (nI L) vt (nI st) (nI md) sat (nI d) (nI s1) (nI s2) 0 (nI 62) (nI S) (nI E) un zX z z = z := by
    simp (decide := true) only [fX11_works__zV, fX11_integers__zV, pX11_integers_251_zV, pX11_integers_269_zV, pX11_integers_288_zV, pX11_integers_307_zV, pX11_integers_326_zV, pX11_integers_345_zV, pX11_integers_390_zV, pX11_integers_407_zV, pX11_integers_440_zV, pX11_integers_459_zV, pX11_integers_494_zV, pX11_integers_512_zV, pX11_integers_543_zV, pX11_integers_562_zV, pX11_integers_595_zV, pX11_integers_614_zV, pX11_integers_639_zV, pX11_integers_715_zV, pX11_integers_735_zV, if_true, if_false]
  have e3 : fX11_works__m_vxsat c (nI L) vt (nI st) (nI md) sat (nI d) (nI s1) (nI s2) 0 (nI 62) (nI S) (nI E) un zX z z = sat := by
    simp (decide := true) only [fX11_works__m_vxsat, fX11_integers__m_vxsat, pX11_integers_251_m_vxsat, pX11_integers_269_m_vxsat, pX11_integers_288_m_vxsat, pX11_integers_307_m_vxsat, pX11_integers_326_m_vxsat, pX11_integers_345_m_vxsat, pX11_integers_595_m_vxsat, pX11_integers_614_m_vxsat, pX11_integers_639_m_vxsat, pX11_integers_715_m_vxsat, pX11_integers_735_m_vxsat, if_true, if_false]
  have e4 : fX11_works__zX (nI L) (nI st) (nI d) (nI s1) (nI s2) 0 (nI 62) (nI S) un zX z = zX := by
    simp (decide := true) only [fX11_works__zX, if_true, if_false]
  unfold WK
  rw [e1, e2, e3, e4]
  exact ill_WO h (kd_none (by decide)) vt sat c _ rf re r8 rg rl
theorem w0_63 {S E L st d s1 s2 md : Nat} {im un tb : Int32} {x z xS zX : Nat → Int32} (h : HY S E L st d s1 s2 md 0 im un tb x z xS zX) {vt : Int32} (hvt : fX11_vlmax vt = nI (16 * E / S)) (sat : Int32) (c : Int64) (rf re r8 rg : Int32) (rl : Int64) : WK S E L st d s1 s2 md 0 (nI 63) im un tb x z xS zX vt sat c rf re r8 rg rl := by
  have e1 : fX11_works (nI st) (nI d) (nI s1) (nI s2) 0 (nI 63) (nI S) (nI E) un = 0 := by
    simp (decide := true) only [fX11_works, fX11_integers, pX11_integers_251_S1, pX11_integers_269_S1, pX11_integers_288_S1, pX11_integers_307_S1, pX11_integers_326_S1, pX11_integers_345_S1, pX11_integers_390_S1, pX11_integers_407_S1, pX11_integers_440_S1, pX11_integers_459_S1, pX11_integers_494_S1, pX11_integers_512_S1, pX11_integers_543_S1, pX11_integers_562_S1, pX11_integers_595_S1, pX11_integers_614_S1, pX11_integers_639_S1, pX11_integers_715_S1, pX11_integers_735_S1, if_true, if_false]
  have e2 : fX11_works__zV c (nI L) vt (nI st) (nI md) sat (nI d) (nI s1) (nI s2) 0 (nI 63) (nI S) (nI E) un zX z z = z := by
    simp (decide := true) only [fX11_works__zV, fX11_integers__zV, pX11_integers_251_zV, pX11_integers_269_zV, pX11_integers_288_zV, pX11_integers_307_zV, pX11_integers_326_zV, pX11_integers_345_zV, pX11_integers_390_zV, pX11_integers_407_zV, pX11_integers_440_zV, pX11_integers_459_zV, pX11_integers_494_zV, pX11_integers_512_zV, pX11_integers_543_zV, pX11_integers_562_zV, pX11_integers_595_zV, pX11_integers_614_zV, pX11_integers_639_zV, pX11_integers_715_zV, pX11_integers_735_zV, if_true, if_false]
  have e3 : fX11_works__m_vxsat c (nI L) vt (nI st) (nI md) sat (nI d) (nI s1) (nI s2) 0 (nI 63) (nI S) (nI E) un zX z z = sat := by
    simp (decide := true) only [fX11_works__m_vxsat, fX11_integers__m_vxsat, pX11_integers_251_m_vxsat, pX11_integers_269_m_vxsat, pX11_integers_288_m_vxsat, pX11_integers_307_m_vxsat, pX11_integers_326_m_vxsat, pX11_integers_345_m_vxsat, pX11_integers_595_m_vxsat, pX11_integers_614_m_vxsat, pX11_integers_639_m_vxsat, pX11_integers_715_m_vxsat, pX11_integers_735_m_vxsat, if_true, if_false]
  have e4 : fX11_works__zX (nI L) (nI st) (nI d) (nI s1) (nI s2) 0 (nI 63) (nI S) un zX z = zX := by
    simp (decide := true) only [fX11_works__zX, if_true, if_false]
  unfold WK
  rw [e1, e2, e3, e4]
  exact ill_WO h (kd_none (by decide)) vt sat c _ rf re r8 rg rl
theorem wF0 {S E L st d s1 s2 md : Nat} {im un tb : Int32} {x z xS zX : Nat → Int32} (h : HY S E L st d s1 s2 md 0 im un tb x z xS zX) {vt : Int32} (hvt : fX11_vlmax vt = nI (16 * E / S)) (sat : Int32) (c : Int64) (rf re r8 rg : Int32) (rl : Int64) : ∀ hh, hh < 64 → WK S E L st d s1 s2 md 0 (nI hh) im un tb x z xS zX vt sat c rf re r8 rg rl
  | 0, _ => w0_0 h hvt sat c rf re r8 rg rl
  | 1, _ => w0_1 h hvt sat c rf re r8 rg rl
  | 2, _ => w0_2 h hvt sat c rf re r8 rg rl
  | 3, _ => w0_3 h hvt sat c rf re r8 rg rl
  | 4, _ => w0_4 h hvt sat c rf re r8 rg rl
  | 5, _ => w0_5 h hvt sat c rf re r8 rg rl
  | 6, _ => w0_6 h hvt sat c rf re r8 rg rl
  | 7, _ => w0_7 h hvt sat c rf re r8 rg rl
  | 8, _ => w0_8 h hvt sat c rf re r8 rg rl
  | 9, _ => w0_9 h hvt sat c rf re r8 rg rl
  | 10, _ => w0_10 h hvt sat c rf re r8 rg rl
  | 11, _ => w0_11 h hvt sat c rf re r8 rg rl
  | 12, _ => w0_12 h hvt sat c rf re r8 rg rl
  | 13, _ => w0_13 h hvt sat c rf re r8 rg rl
  | 14, _ => w0_14 h hvt sat c rf re r8 rg rl
  | 15, _ => w0_15 h hvt sat c rf re r8 rg rl
  | 16, _ => w0_16 h hvt sat c rf re r8 rg rl
  | 17, _ => w0_17 h hvt sat c rf re r8 rg rl
  | 18, _ => w0_18 h hvt sat c rf re r8 rg rl
  | 19, _ => w0_19 h hvt sat c rf re r8 rg rl
  | 20, _ => w0_20 h hvt sat c rf re r8 rg rl
  | 21, _ => w0_21 h hvt sat c rf re r8 rg rl
  | 22, _ => w0_22 h hvt sat c rf re r8 rg rl
  | 23, _ => w0_23 h hvt sat c rf re r8 rg rl
  | 24, _ => w0_24 h hvt sat c rf re r8 rg rl
  | 25, _ => w0_25 h hvt sat c rf re r8 rg rl
  | 26, _ => w0_26 h hvt sat c rf re r8 rg rl
  | 27, _ => w0_27 h hvt sat c rf re r8 rg rl
  | 28, _ => w0_28 h hvt sat c rf re r8 rg rl
  | 29, _ => w0_29 h hvt sat c rf re r8 rg rl
  | 30, _ => w0_30 h hvt sat c rf re r8 rg rl
  | 31, _ => w0_31 h hvt sat c rf re r8 rg rl
  | 32, _ => w0_32 h hvt sat c rf re r8 rg rl
  | 33, _ => w0_33 h hvt sat c rf re r8 rg rl
  | 34, _ => w0_34 h hvt sat c rf re r8 rg rl
  | 35, _ => w0_35 h hvt sat c rf re r8 rg rl
  | 36, _ => w0_36 h hvt sat c rf re r8 rg rl
  | 37, _ => w0_37 h hvt sat c rf re r8 rg rl
  | 38, _ => w0_38 h hvt sat c rf re r8 rg rl
  | 39, _ => w0_39 h hvt sat c rf re r8 rg rl
  | 40, _ => w0_40 h hvt sat c rf re r8 rg rl
  | 41, _ => w0_41 h hvt sat c rf re r8 rg rl
  | 42, _ => w0_42 h hvt sat c rf re r8 rg rl
  | 43, _ => w0_43 h hvt sat c rf re r8 rg rl
  | 44, _ => w0_44 h hvt sat c rf re r8 rg rl
  | 45, _ => w0_45 h hvt sat c rf re r8 rg rl
  | 46, _ => w0_46 h hvt sat c rf re r8 rg rl
  | 47, _ => w0_47 h hvt sat c rf re r8 rg rl
  | 48, _ => w0_48 h hvt sat c rf re r8 rg rl
  | 49, _ => w0_49 h hvt sat c rf re r8 rg rl
  | 50, _ => w0_50 h hvt sat c rf re r8 rg rl
  | 51, _ => w0_51 h hvt sat c rf re r8 rg rl
  | 52, _ => w0_52 h hvt sat c rf re r8 rg rl
  | 53, _ => w0_53 h hvt sat c rf re r8 rg rl
  | 54, _ => w0_54 h hvt sat c rf re r8 rg rl
  | 55, _ => w0_55 h hvt sat c rf re r8 rg rl
  | 56, _ => w0_56 h hvt sat c rf re r8 rg rl
  | 57, _ => w0_57 h hvt sat c rf re r8 rg rl
  | 58, _ => w0_58 h hvt sat c rf re r8 rg rl
  | 59, _ => w0_59 h hvt sat c rf re r8 rg rl
  | 60, _ => w0_60 h hvt sat c rf re r8 rg rl
  | 61, _ => w0_61 h hvt sat c rf re r8 rg rl
  | 62, _ => w0_62 h hvt sat c rf re r8 rg rl
  | 63, _ => w0_63 h hvt sat c rf re r8 rg rl
  | n + 64, hn => absurd hn (by omega)
