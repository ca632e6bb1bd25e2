/-! ===== the memory: class's words, reference's bytes ===== -/
def SyM (w m : Nat → Int32) : Prop := zB m ∧ ∀ n, n < 8192 → vb w n = zb m n
def SyP (sp : Int32) (zS : Nat → Int32) : Prop := ∀ k, k < 16 → (bt sp k = true ↔ ¬ zS k = 0)
theorem shr2 {A : Nat} (h : A < 2 ^ 31) : shr (nI A) 2 = nI (A / 4) := by unfold shr; exact pk_shrN h _ 2 (by decide)
theorem shr6 {A : Nat} (h : A < 2 ^ 31) : shr (nI A) 6 = nI (A / 64) := by unfold shr; exact pk_shrN h _ 6 (by decide)
theorem and3 {A : Nat} (h : A < 2 ^ 32) : nI A &&& 3 = nI (A % 4) := pk_andN h 2 (by decide)
theorem byteAt_bt (w : Nat → Int32) {A t : Nat} (hA : A < 1024) (ht : t < 32) : bt (fX6_byteAt w (nI A)) t = (decide (t < 8) && vb w (8 * A + t)) := by
  unfold fX6_byteAt
  rw [shr2 (by omega), if_neg (nI_pos (by omega)), if_pos (show nI (A / 4) < (256 : Int32) from nI_lt (b := 256) (by omega) (by decide)), nI_clamp (by omega), and3 (by omega), nI8, pk_mul, b_and, b_255, b_sruF _ (by omega)]
  by_cases h : t < 8
  · unfold vb
    rw [show (8 * A + t) / 32 = A / 4 by omega, show (8 * A + t) % 32 = 8 * (A % 4) + t by omega]
    simp [h]
  · simp [h]
def okN (b : Nat) : Prop := b = 1 ∨ b = 2 ∨ b = 4
theorem okN.le {b : Nat} (h : okN b) : 1 ≤ b ∧ b ≤ 4 := by rcases h with rfl | rfl | rfl <;> decide
theorem okB.N {e : Nat} (h : okB e) : okN (e / 8) ∧ 8 * (e / 8) = e := by rcases h with rfl | rfl | rfl <;> (refine ⟨?_, by decide⟩; simp [okN])
theorem load_lb (w : Nat → Int32) {A b j : Nat} (hb : okN b) (hA : A + b ≤ 1024) (hj : j < 64) : lb (fX6_load w (nI A) (nI b)) j = (decide (j < 8 * b) && vb w (8 * A + j)) := by
  have hle := hb.le
  unfold fX6_load
  rw [← nI_0, cnt_nI (by omega) (by omega), itX6_load_5 (b9 := b) _ _ _ rfl (by omega) (b - 0) 0 0 (by omega)]
  have key := itr_inv (fun i s => ∀ j, j < 64 → lb s j = (decide (j < 8 * i) && vb w (8 * A + j))) (fun k s => eX6_load_28 w (nI A) (nI k) s) (b - 0) 0 (0 : Int64) (by
    intro i s h1 h2 h3 j hj
    show lb (eX6_load_28 w (nI A) (nI i) s) j = _
    unfold eX6_load_28
    rw [nI_add, nI8, pk_mul, l_or, h3 j hj, l_shl _ (by omega) _ hj]
    by_cases q : 8 * i ≤ j
    · rw [l_i2l _ (by omega)]
      by_cases q2 : j - 8 * i < 32
      · rw [if_pos q2, byteAt_bt w (by omega) (by omega)]
        by_cases q3 : j - 8 * i < 8
        · rw [show 8 * (A + i) + (j - 8 * i) = 8 * A + j by omega]
          simp [q, q3, show ¬ j < 8 * i by omega, show j < 8 * (i + 1) by omega]
        · simp [q, q3, show ¬ j < 8 * i by omega, show ¬ j < 8 * (i + 1) by omega]
      · rw [if_neg q2, byteAt_bt w (by omega) (by omega)]
        simp [q, show ¬ j < 8 * i by omega, show ¬ j < 8 * (i + 1) by omega]
    · simp [q, show j < 8 * i by omega, show j < 8 * (i + 1) by omega]) (fun j hj => by rw [l_0]; simp)
  have := key j hj
  rw [show 0 + (b - 0) = b by omega] at this
  exact this
theorem putByte_vb (w : Nat → Int32) {A : Nat} (hA : A < 1024) {u : Int32} (hu : ∀ j, 8 ≤ j → bt u j = false) (n : Nat) : vb (fX6_putByte__xW w (nI A) u) n = if 8 * A ≤ n ∧ n < 8 * A + 8 then bt u (n - 8 * A) else vb w n := by
  unfold fX6_putByte__xW eX6_putByte_49
  rw [shr2 (by omega), if_neg (nI_pos (by omega)), if_pos (show nI (A / 4) < (256 : Int32) from nI_lt (b := 256) (by omega) (by decide)), nI_clamp (by omega), and3 (by omega), nI8, pk_mul]
  by_cases hw : n / 32 = A / 4
  · have hn : n % 32 < 32 := Nat.mod_lt _ (by decide)
    have e1 : vb (upd w (A / 4) ((w (A / 4) &&& (shl (255 : Int32) (nI (8 * (A % 4))) ^^^ (-1 : Int32))) ||| shl u (nI (8 * (A % 4))))) n = bt ((w (A / 4) &&& (shl (255 : Int32) (nI (8 * (A % 4))) ^^^ (-1 : Int32))) ||| shl u (nI (8 * (A % 4)))) (n % 32) := by
      unfold vb; rw [hw, pk_us]
    rw [e1, b_or, b_and, b_xor, b_shlF _ (by omega) _ hn, b_shlF _ (by omega) _ hn, b_m1 _ hn, b_255]
    by_cases h : 8 * A ≤ n ∧ n < 8 * A + 8
    · rw [if_pos h, show n % 32 - 8 * (A % 4) = n - 8 * A by omega]
      simp [show 8 * (A % 4) ≤ n % 32 by omega, show n - 8 * A < 8 by omega]
    · rw [if_neg h]
      unfold vb
      rw [hw]
      by_cases q : 8 * (A % 4) ≤ n % 32
      · rw [hu _ (by omega)]
        simp [q, show ¬ n % 32 - 8 * (A % 4) < 8 by omega]
      · simp [q]
  · rw [if_neg (by omega)]
    unfold vb
    rw [pk_un hw]
theorem n255' (x : Int32) (j : Nat) (hj : 8 ≤ j) : bt (x &&& 255) j = false := by rw [b_and, b_255]; simp [show ¬ j < 8 by omega]
theorem store_vb (w : Nat → Int32) {A b : Nat} (hb : okN b) (hA : A + b ≤ 1024) (v : Int64) (n : Nat) : vb (fX6_store__xW w (nI A) (nI b) v) n = vset (vb w) (8 * A) (8 * b) v n := by
  have hle := hb.le
  unfold fX6_store__xW
  rw [← nI_0, cnt_nI (by omega) (by omega), itX6_store_3 (b9 := b) _ _ _ rfl (by omega) (b - 0) 0 w (by omega)]
  have key := itr_inv (fun i s => ∀ n, vb s n = vset (vb w) (8 * A) (8 * i) v n) (fun k s => fX6_putByte__xW s (nI A + nI k) (Int64.toInt32 (lsru v ((8 : Int32) * nI k)) &&& (255 : Int32))) (b - 0) 0 w (by
    intro i s h1 h2 h3 n
    show vb (fX6_putByte__xW s (nI A + nI i) (Int64.toInt32 (lsru v ((8 : Int32) * nI i)) &&& (255 : Int32))) n = _
    rw [nI_add, putByte_vb s (by omega) (fun j hj => n255' _ j hj), h3 n, nI8, pk_mul]
    unfold vset
    by_cases q : 8 * (A + i) ≤ n ∧ n < 8 * (A + i) + 8
    · rw [if_pos q, if_pos (by omega), b_and, b_255, b_l2i _ (by omega), l_ushr _ (by omega), show 8 * i + (n - 8 * (A + i)) = n - 8 * A by omega]
      simp [show n - 8 * (A + i) < 8 by omega]
    · rw [if_neg q]
      by_cases q2 : 8 * A ≤ n ∧ n < 8 * A + 8 * i
      · rw [if_pos q2, if_pos (by omega)]
      · rw [if_neg q2, if_neg (by omega)]) (fun n => by unfold vset; rw [if_neg (by omega)])
  have := key n
  rw [show 0 + (b - 0) = b by omega] at this
  exact this
theorem acc_loop (zM : Nat → Int32) (hz : zB zM) {F : Nat} (hF2 : F + 8 < 2 ^ 30) : ∀ (n : Nat) (a : Int64) (j : Nat), n ≤ 8 → j < 64 → lb (LX11_access_15 zM (nI F) n (a, nI n - 1)).1 j = if j < 8 * n then zb zM (8 * F + j) else lb a (j - 8 * n)
  | 0, a, j, _, _ => by simp [LX11_access_15]
  | n + 1, a, j, hn, hj => by
    rw [LX11_access_15]
    dsimp only
    unfold bX11_access_15_L6 bX11_access_15_L8
    rw [nI_pred, if_neg (nI_pos (by omega)), if_neg (nI_pos (by omega)), ← Int32.sub_eq_add_neg, acc_loop zM hz hF2 n _ j (by omega) hj]
    by_cases h : j < 8 * n
    · rw [if_pos h, if_pos (by omega)]
    · rw [if_neg h]
      unfold eX11_access_37
      rw [nI_add, nI_clamp (by omega), nI8, l_or, l_shl 8 (by decide) _ (by omega), l_i2l _ (by omega)]
      by_cases h2 : j < 8 * (n + 1)
      · rw [if_pos h2, if_pos (by omega)]
        unfold zb
        rw [show (8 * F + j) / 8 = F + n by omega, show (8 * F + j) % 8 = j - 8 * n by omega]
        simp [show ¬ 8 ≤ j - 8 * n by omega]
      · rw [if_neg h2]
        have e1 : (if j - 8 * n < 32 then bt (zM (F + n)) (j - 8 * n) else bt (zM (F + n)) 31) = false := by
          split
          · exact hz _ _ (by omega)
          · exact hz _ _ (by omega)
        rw [e1]
        simp [show 8 ≤ j - 8 * n by omega, show j - 8 * n - 8 = j - 8 * (n + 1) by omega]
noncomputable abbrev accV (zM : Nat → Int32) (u5 u3 : Int32) : Int64 := (LX11_access_15 zM u5 ((Int32.toInt ((u3 / (8 : Int32)) - (1 : Int32)) + 1).toNat) ((0 : Int64), ((u3 / (8 : Int32)) - (1 : Int32)))).1
theorem acc_lb (zM : Nat → Int32) (hz : zB zM) {A e j : Nat} (he : okB e) (hA : A < 1024) (hj : j < 64) : lb (accV zM (nI A) (nI e)) j = (decide (j < e) && zb zM (8 * A + j)) := by
  have key : ∀ n, (Int32.toInt ((nI e / (8 : Int32)) - (1 : Int32)) + 1).toNat = n → (nI e / (8 : Int32)) - (1 : Int32) = nI n - 1 → n ≤ 8 → 8 * n = e → lb (accV zM (nI A) (nI e)) j = (decide (j < e) && zb zM (8 * A + j)) := by
    intro n h1 h2 h3 h4
    unfold accV
    rw [h1, h2, acc_loop zM hz (by omega) n 0 j h3 hj, h4]
    by_cases h : j < e
    · rw [if_pos h]; simp [h]
    · rw [if_neg h, l_0]; simp [h]
  rcases he with rfl | rfl | rfl
  · exact key 1 (by decide) (by decide) (by decide) rfl
  · exact key 2 (by decide) (by decide) (by decide) rfl
  · exact key 4 (by decide) (by decide) (by decide) rfl
theorem SyM.load {w m : Nat → Int32} (h : SyM w m) {A e : Nat} (he : okB e) (hA : A + e / 8 ≤ 1024) : fX6_load w (nI A) (nI e / 8) = accV m (nI A) (nI e) := by
  obtain ⟨h1, h2⟩ := he.N
  have hle := he.le
  rw [div8 he]
  refine l_ext (fun j hj => ?_)
  rw [load_lb w h1 hA hj, acc_lb m h.1 he (by omega) hj, h2]
  by_cases q : j < e
  · rw [h.2 _ (by omega)]
  · simp [q]
theorem SyM.store {w m zO : Nat → Int32} (h : SyM w m) {A e : Nat} (he : okB e) (hA : A + e / 8 ≤ 1024) {v : Int64} {r i : Int32} (hv : v = fX11_get zO r (nI e) i) : SyM (fX6_store__xW w (nI A) (nI e / 8) v) ((LX11_access_71 zO r (nI e) i (nI A) (cnt (0 : Int32) (nI e / 8)) ((0 : Int32), m)).2) := by
  obtain ⟨h1, h2⟩ := he.N
  have hle := he.le
  have hd := div8 he
  rw [hd, ← nI_0, cnt_nI (by omega) (by omega), itX11_access_71 (b9 := e / 8) _ _ _ _ _ hd (by omega) (e / 8 - 0) 0 m (by omega)]
  have key := itr_inv (fun i s => zB s ∧ ∀ n, zb s n = vset (zb m) (8 * A) (8 * i) v n) (fun k s => upd s (Int32.toNatClampNeg (nI A + nI k)) (eX11_access_102 zO r (nI e) i (nI k))) (e / 8 - 0) 0 m (by
    intro k s k1 k2 ⟨k3, k4⟩
    show zB (upd s (Int32.toNatClampNeg (nI A + nI k)) (eX11_access_102 zO r (nI e) i (nI k))) ∧ ∀ n, zb (upd s (Int32.toNatClampNeg (nI A + nI k)) (eX11_access_102 zO r (nI e) i (nI k))) n = _
    unfold eX11_access_102
    rw [nI_add, nI_clamp (by omega), nI8, pk_mul, ← hv]
    refine ⟨zB_upd k3 _ (fun j hj => n255' _ j hj), fun n => ?_⟩
    rw [zb_upd, k4 n]
    unfold vset
    by_cases q : n / 8 = A + k
    · rw [if_pos q, if_pos (by omega), b_and, b_255, b_l2i _ (by omega), l_sshr _ (by omega) _ (by omega), if_pos (by omega), show 8 * k + n % 8 = n - 8 * A by omega]
      simp [show n % 8 < 8 by omega]
    · rw [if_neg q]
      by_cases q2 : 8 * A ≤ n ∧ n < 8 * A + 8 * k
      · rw [if_pos q2, if_pos (by omega)]
      · rw [if_neg q2, if_neg (by omega)]) ⟨h.1, fun n => by unfold vset; rw [if_neg (by omega)]⟩
  obtain ⟨k1, k2⟩ := key
  refine ⟨k1, fun n hn => ?_⟩
  rw [store_vb w h1 hA v n]
  have e3 := k2 n
  rw [show 0 + (e / 8 - 0) = e / 8 by omega] at e3
  refine Eq.trans ?_ e3.symm
  unfold vset
  by_cases q : 8 * A ≤ n ∧ n < 8 * A + 8 * (e / 8)
  · rw [if_pos q, if_pos q]
  · rw [if_neg q, if_neg q]; exact h.2 n hn
/-- which addresses an access may reach -/
def good (zS : Nat → Int32) (a : Int32) (k : Nat) : Prop := ¬ (a + nI k < 0) ∧ ¬ (1024 ≤ a + nI k) ∧ zS (Int32.toNatClampNeg ((a + nI k) / 64)) = 0
theorem fails_iff (zS : Nat → Int32) (a : Int32) {b : Nat} (hb : b ≤ 8) : fX11_fails zS a (nI b) = 0 ↔ ∀ k, k < b → good zS a k := by
  unfold fX11_fails
  rw [← nI_0, cnt_nI (by omega) (by omega), itX11_fails_5 (b9 := b) _ _ _ rfl (by omega) (b - 0) 0 (nI 0) (by omega)]
  have key := itr_inv (fun i s => (s = nI 0 ↔ ∀ k, k < i → good zS a k)) (fun k s => pX11_fails_52_S1 zS a (nI k) s) (b - 0) 0 (nI 0) (by
    intro i s h1 h2 h3
    show pX11_fails_52_S1 zS a (nI i) s = nI 0 ↔ _
    unfold pX11_fails_52_S1
    have d1 : ¬ (1 : Int32) = nI 0 := by decide
    have d0 : (0 : Int32) = nI 0 := by decide
    constructor
    · intro w k hk
      by_cases q : s = 0
      · rw [if_pos q] at w
        by_cases q1 : a + nI i < 0
        · rw [if_pos q1] at w; exact absurd w d1
        · rw [if_neg q1] at w
          by_cases q2 : 1024 ≤ a + nI i
          · rw [if_pos q2] at w; exact absurd w d1
          · rw [if_neg q2] at w
            by_cases q3 : zS (Int32.toNatClampNeg ((a + nI i) / 64)) = 0
            · by_cases e : k = i
              · subst e; exact ⟨q1, q2, q3⟩
              · exact h3.mp (q.trans d0) k (by omega)
            · rw [if_neg q3] at w; exact absurd w d1
      · rw [if_neg q] at w; exact absurd w d1
    · intro w
      have q : s = 0 := (h3.mpr (fun k hk => w k (by omega))).trans d0.symm
      obtain ⟨g1, g2, g3⟩ := w i (by omega)
      rw [if_pos q, if_neg g1, if_neg g2, if_pos g3]; exact d0) ⟨fun _ k hk => absurd hk (by omega), fun _ => rfl⟩
  rw [show 0 + (b - 0) = b by omega] at key
  exact key
theorem open_iff {sp : Int32} {zS : Nat → Int32} (h : SyP sp zS) {A : Nat} (hA : A < 1024) : ¬ fX6_isOpenAt sp (nI A) = 0 ↔ zS (A / 64) = 0 := by
  unfold fX6_isOpenAt pX6_isOpenAt_19_S1
  rw [shr6 (by omega)]
  have hk : A / 64 < 32 := by omega
  have e : sru sp (nI (A / 64)) &&& 1 = 0 ↔ bt sp (A / 64) = false := by
    have h1 : ∀ j, j < 32 → bt (1 : Int32) j = decide (j = 0) := by decide +kernel
    constructor
    · intro w
      have := congrArg (fun y => bt y 0) w
      simp only [b_and, b_sruF _ hk, h1 0 (by decide), b_0] at this
      simpa using this
    · intro w
      refine b_ext (fun j hj => ?_)
      rw [b_and, b_sruF _ hk, h1 j hj, b_0]
      by_cases q : j = 0
      · subst q; rw [Nat.add_zero, w]; rfl
      · simp [q]
  have e2 := h (A / 64) (by omega)
  by_cases q : bt sp (A / 64) = false
  · rw [if_pos (e.mpr q)]
    refine ⟨fun _ => Classical.byContradiction (fun w => ?_), fun _ => by decide⟩
    rw [e2.mpr w] at q; exact absurd q (by decide)
  · rw [if_neg (fun w => q (e.mp w))]
    refine ⟨fun w => absurd rfl w, fun w => ?_⟩
    have : bt sp (A / 64) = true := by cases h : bt sp (A / 64) <;> simp_all
    exact absurd w (e2.mp this)
theorem admits_iff {sp : Int32} {zS : Nat → Int32} (h : SyP sp zS) (a : Int32) {b : Nat} (hb : okN b) : ¬ fX6_admits sp a (nI b) = 0 ↔ ∃ A, a = nI A ∧ A + b ≤ 1024 ∧ zS (A / 64) = 0 ∧ zS ((A + b - 1) / 64) = 0 := by
  have hle := hb.le
  unfold fX6_admits
  by_cases q : a < 0
  · rw [if_pos q]
    refine ⟨fun w => absurd rfl w, fun ⟨A, e, h1, _⟩ => ?_⟩
    subst e; exact absurd q (nI_pos (by omega))
  · obtain ⟨A, hA, rfl⟩ := nI_of q
    have e1 : (1024 : Int32) - nI b = nI (1024 - b) := by rcases hb with rfl | rfl | rfl <;> decide
    rw [if_neg q, e1]
    by_cases q2 : A ≤ 1024 - b
    · rw [if_pos (nI_le q2 (by omega))]
      unfold pX6_admits_40_S1
      have e2 : nI A + nI b - 1 = nI (A + b - 1) := by
        rw [nI_add, show A + b = (A + b - 1) + 1 by omega, nI_pred, Nat.add_sub_cancel]
      have o1 := open_iff h (A := A) (by omega)
      have o2 := open_iff h (A := A + b - 1) (by omega)
      rw [e2]
      constructor
      · intro w
        by_cases w1 : fX6_isOpenAt sp (nI A) = 0
        · rw [if_pos w1] at w; exact absurd rfl w
        · rw [if_neg w1] at w
          by_cases w2 : fX6_isOpenAt sp (nI (A + b - 1)) = 0
          · rw [if_pos w2] at w; exact absurd rfl w
          · exact ⟨A, rfl, by omega, o1.mp w1, o2.mp w2⟩
      · rintro ⟨B, eB, h1, h2, h3⟩
        have : A = B := (nI_eq hA (by omega)).mp eB
        subst this
        rw [if_neg (o1.mpr h2), if_neg (o2.mpr h3)]; decide
    · rw [if_neg (nI_ge (by omega) hA)]
      refine ⟨fun w => absurd rfl w, fun ⟨B, eB, h1, _⟩ => ?_⟩
      have : A = B := (nI_eq hA (by omega)).mp eB
      omega
theorem admits_fails {sp : Int32} {zS : Nat → Int32} (h : SyP sp zS) (a : Int32) {b : Nat} (hb : okN b) : fX6_admits sp a (nI b) = 0 ↔ ¬ fX11_fails zS a (nI b) = 0 := by
  have hle := hb.le
  have k1 := admits_iff h a hb
  have k2 := fails_iff zS a (b := b) (by omega)
  have h64 : (64 : Int32) = nI 64 := by decide
  have h1024 : (1024 : Int32) = nI 1024 := by decide
  have key : (∃ A, a = nI A ∧ A + b ≤ 1024 ∧ zS (A / 64) = 0 ∧ zS ((A + b - 1) / 64) = 0) ↔ ∀ k, k < b → good zS a k := by
    constructor
    · rintro ⟨A, rfl, h1, h2, h3⟩ k hk
      unfold good
      rw [nI_add]
      refine ⟨nI_pos (by omega), by rw [h1024]; exact nI_ge (by omega) (by decide), ?_⟩
      rw [h64, pk_div (by omega) (by decide) (by decide), nI_clamp (by omega)]
      rcases (show (A + k) / 64 = A / 64 ∨ (A + k) / 64 = (A + b - 1) / 64 by omega) with e | e
      · rw [e]; exact h2
      · rw [e]; exact h3
    · intro w
      obtain ⟨g1, g2, g3⟩ := w 0 (by omega)
      rw [nI_0, Int32.add_zero] at g1 g2 g3
      obtain ⟨A, hA, rfl⟩ := nI_of g1
      have hA2 : A < 1024 := Classical.byContradiction (fun q => g2 (by rw [h1024]; exact nI_le (by omega) hA))
      rw [h64, pk_div hA (by decide) (by decide), nI_clamp (by omega)] at g3
      obtain ⟨f1, f2, f3⟩ := w (b - 1) (by omega)
      rw [nI_add] at f1 f2 f3
      have hB2 : A + (b - 1) < 1024 := Classical.byContradiction (fun q => f2 (by rw [h1024]; exact nI_le (by omega) (by omega)))
      rw [h64, pk_div (by omega) (by decide) (by decide), nI_clamp (by omega), show A + (b - 1) = A + b - 1 by omega] at f3
      exact ⟨A, rfl, by omega, g3, f3⟩
  constructor
  · intro w1 w2
    exact absurd w1 (k1.mpr (key.mpr (k2.mp w2)))
  · intro w
    exact Classical.byContradiction (fun w2 => w (k2.mpr (key.mp (k1.mp w2))))
