/-! ===== the reference's put, bit, putBit; what they oblige; both register files in step ===== -/
theorem n255 (j : Nat) (h : 8 ≤ j) (x : Int32) : bt (x &&& 255) j = false := by rw [b_and, b_255]; simp [Nat.not_lt.mpr h]
theorem zB_upd {z : Nat → Int32} (h : zB z) (k : Nat) {x : Int32} (hx : ∀ j, 8 ≤ j → bt x j = false) : zB (upd z k x) := by
  intro m j hj
  by_cases e : m = k
  · subst e; rw [pk_us]; exact hx j hj
  · rw [pk_un e]; exact h m j hj
theorem zb_upd (z : Nat → Int32) (k : Nat) (x : Int32) (m : Nat) : zb (upd z k x) m = if m / 8 = k then bt x (m % 8) else zb z m := by
  unfold zb
  by_cases e : m / 8 = k
  · rw [if_pos e, e, pk_us]
  · rw [if_neg e, pk_un e]
theorem putz_loop {r e i F c : Nat} (hF : (16 : Int32) * nI r + nI i * nI e / 8 = nI F) (hF2 : F + 8 < 2 ^ 30) (hc : nI e / (8 : Int32) = nI c) (hc8 : c ≤ 8) (x : Int64) : ∀ (n k : Nat) (z : Nat → Int32), k + n ≤ c → zB z → zB (LX11_put_16 (nI r) (nI e) (nI i) x n (nI k, z)).2 ∧ ∀ m : Nat, zb (LX11_put_16 (nI r) (nI e) (nI i) x n (nI k, z)).2 m = if 8 * (F + k) ≤ m ∧ m < 8 * (F + k + n) then lb x (m - 8 * F) else zb z m := by
  intro n k z hk hz
  rw [itX11_put_16 (nI r) (nI e) (nI i) x (b9 := c) hc (by omega) n k z hk]
  dsimp only
  have key := itr_inv (fun a z' => zB z' ∧ ∀ m : Nat, zb z' m = if 8 * (F + k) ≤ m ∧ m < 8 * (F + a) then lb x (m - 8 * F) else zb z m) (fun k s => (upd s (Int32.toNatClampNeg ((((16 : Int32) * (nI r)) + (((nI i) * (nI e)) / (8 : Int32))) + (nI k))) ((Int64.toInt32 (lshr x ((8 : Int32) * (nI k)))) &&& (255 : Int32)))) n k z (by
    intro a s h1 h2 ⟨h3, h4⟩
    rw [hF, nI_add, nI_clamp (by omega), nI8, pk_mul]
    refine ⟨zB_upd h3 _ (fun j hj => n255 j hj _), fun m => ?_⟩
    rw [zb_upd]
    by_cases e1 : m / 8 = F + a
    · rw [if_pos e1, if_pos (by omega), b_and, b_255, b_l2i _ (by omega), l_sshr _ (by omega) _ (by omega), if_pos (by omega)]
      rw [show 8 * a + m % 8 = m - 8 * F by omega]
      simp [show m % 8 < 8 by omega]
    · rw [if_neg e1, h4 m]
      by_cases h5 : 8 * (F + k) ≤ m ∧ m < 8 * (F + a)
      · rw [if_pos h5, if_pos (by omega)]
      · rw [if_neg h5, if_neg (by omega)]) ⟨hz, fun m => by rw [if_neg (by omega)]⟩
  obtain ⟨h1, h2⟩ := key
  refine ⟨h1, fun m => ?_⟩
  rw [h2 m, show F + (k + n) = F + k + n by omega]
theorem div8 {e : Nat} (he : okB e) : nI e / (8 : Int32) = nI (e / 8) := by rcases he with rfl | rfl | rfl <;> decide
theorem putz {r e i : Nat} (he : okB e) (hr : r < 64) (hi : i < 4096) (x : Int64) (z : Nat → Int32) (hz : zB z) : zB (fX11_put__zV z (nI r) (nI e) (nI i) x) ∧ ∀ m : Nat, zb (fX11_put__zV z (nI r) (nI e) (nI i) x) m = vset (zb z) (r * 128 + i * e) e x m := by
  unfold fX11_put__zV
  have he2 : e / 8 ≤ 8 ∧ 8 * (e / 8) = e ∧ e ≤ 32 := by rcases he with rfl | rfl | rfl <;> decide
  have h0 : cnt (0 : Int32) (nI e / (8 : Int32)) = e / 8 := by rw [div8 he, ← nI_0, cnt_nI (by decide) (by omega)]; omega
  have hm : 8 * (i * e / 8) = i * e := by rcases he with rfl | rfl | rfl <;> omega
  have hm2 : i * e / 8 ≤ 4 * i := by rcases he with rfl | rfl | rfl <;> omega
  obtain ⟨h1, h2⟩ := putz_loop (get_from he hr hi) (by omega) (div8 he) he2.1 x (e / 8) 0 z (by omega) hz
  rw [h0, ← nI_0]
  refine ⟨h1, fun m => ?_⟩
  rw [h2 m]
  unfold vset
  by_cases h : r * 128 + i * e ≤ m ∧ m < r * 128 + i * e + e
  · rw [if_pos h, if_pos (by omega), show 8 * (16 * r + i * e / 8) = r * 128 + i * e by omega]
  · rw [if_neg h, if_neg (by omega)]
theorem ok_get (z : Nat → Int32) {r e i : Nat} (he : okB e) (hB : r * 128 + i * e + e ≤ 4096) (hr : r < 64) (hi : i < 4096) : okX11_get z (nI r) (nI e) (nI i) := by
  have hF := get_from he hr hi
  have hm : 8 * (i * e / 8) = i * e := by rcases he with rfl | rfl | rfl <;> omega
  have hK : ∀ (n : Nat) (a : Int64), 8 * n ≤ e → KX11_get_24 z (nI r) (nI e) (nI i) n (a, nI n - 1) ∧ (LX11_get_24 z (nI r) (nI e) (nI i) n (a, nI n - 1)).2 = nI 0 - 1 := by
    intro n
    induction n with
    | zero => intro a _; exact ⟨True.intro, rfl⟩
    | succ n ih =>
      intro a hn
      have he2 : e ≤ 32 := by rcases he with rfl | rfl | rfl <;> decide
      have hc : ¬ (nI n < (0 : Int32)) := nI_pos (by omega)
      obtain ⟨h1, h2⟩ := ih (bX11_get_24_L4 z (nI r) (nI e) (nI i) a (nI n)) (by omega)
      rw [nI_pred]
      have e1 : bX11_get_24_L7 a (nI n) = nI n - 1 := by rw [bX11_get_24_L7, if_neg hc, ← Int32.sub_eq_add_neg]
      refine ⟨?_, ?_⟩
      · show (tX11_get_24 a (nI n) ∧ oX11_get_24 (nI r) (nI e) (nI i) a (nI n)) ∧ KX11_get_24 z (nI r) (nI e) (nI i) n (bX11_get_24_L4 z (nI r) (nI e) (nI i) a (nI n), bX11_get_24_L7 a (nI n))
        refine ⟨⟨by rw [tX11_get_24, if_neg hc]; exact True.intro, fun _ => ?_⟩, by rw [e1]; exact h1⟩
        rw [hF, nI_add]
        exact vp_in_nI (by omega) (by decide)
      · show (LX11_get_24 z (nI r) (nI e) (nI i) n (bX11_get_24_L4 z (nI r) (nI e) (nI i) a (nI n), bX11_get_24_L7 a (nI n))).2 = _
        rw [e1]; exact h2
  have key : ∀ n, (Int32.toInt ((nI e / (8 : Int32)) - (1 : Int32)) + 1).toNat = n → (nI e / (8 : Int32)) - (1 : Int32) = nI n - 1 → 8 * n ≤ e → okX11_get z (nI r) (nI e) (nI i) := by
    intro n h1 h2 h3
    obtain ⟨k1, k2⟩ := hK n 0 h3
    unfold okX11_get
    rw [h1, h2, k2]
    have hneg : (nI 0 - 1 : Int32) < 0 := by decide
    exact ⟨k1, by rw [tX11_get_24, if_pos hneg]; exact id, fun h => absurd hneg h⟩
  rcases he with rfl | rfl | rfl
  · exact key 1 (by decide) (by decide) (by decide)
  · exact key 2 (by decide) (by decide) (by decide)
  · exact key 4 (by decide) (by decide) (by decide)
theorem ok_put (z : Nat → Int32) {r e i : Nat} (he : okB e) (hB : r * 128 + i * e + e ≤ 4096) (hr : r < 64) (hi : i < 4096) (x : Int64) : okX11_put z (nI r) (nI e) (nI i) x := by
  have hF := get_from he hr hi
  have he2 : e / 8 ≤ 8 ∧ 8 * (e / 8) = e ∧ e ≤ 32 := by rcases he with rfl | rfl | rfl <;> decide
  have hm : 8 * (i * e / 8) = i * e := by rcases he with rfl | rfl | rfl <;> omega
  have h0 : cnt (0 : Int32) (nI e / (8 : Int32)) = e / 8 := by rw [div8 he, ← nI_0, cnt_nI (by decide) (by omega)]; omega
  have hI : ∀ (a : Nat) (w : Nat → Int32), a < e / 8 → oX11_put_16 (nI r) (nI e) (nI i) (nI a) w := by
    intro a w ha _
    rw [hF, nI_add]
    exact vp_in_nI (by omega) (by decide)
  have hL := itX11_put_16 (nI r) (nI e) (nI i) x (b9 := e / 8) (div8 he) (by omega) (e / 8) 0 z (by omega)
  have hn := ntX11_put_16 (nI r) (nI e) (nI i) x (b9 := e / 8) (div8 he) (by omega)
  unfold okX11_put
  rw [h0, ← nI_0, hL, Nat.zero_add]
  refine ⟨ktX11_put_16 (nI r) (nI e) (nI i) x (b9 := e / 8) (div8 he) (by omega) (fun _ _ => True) (fun a w _ ha => ⟨hI a w ha, True.intro⟩) (e / 8) 0 z (by omega) True.intro, hn _, fun h => ?_⟩
  exact absurd (by rw [div8 he]; exact Int32.le_refl _) h
/-- bit i of a mask register -/
theorem rem8 {i : Nat} (h : i < 2 ^ 31) : irem (nI i) 8 = nI (i % 8) := by unfold irem; rw [nI8]; exact pk_rem h (by decide) (by decide)
theorem one_bit (x : Int32) {k : Nat} (hk : k < 32) : ((shr x (nI k)) &&& (1 : Int32)) = (1 : Int32) ↔ bt x k = true := by
  have h1 : ∀ j, j < 32 → bt (1 : Int32) j = decide (j = 0) := by decide +kernel
  constructor
  · intro h
    have := congrArg (fun y => bt y 0) h
    simp only [b_and, b_shrF k hk x (show 0 < 32 by decide), h1 0 (by decide)] at this
    simpa [hk] using this
  · intro h
    refine b_ext (fun j hj => ?_)
    rw [b_and, h1 j hj, b_shrF k hk x hj]
    by_cases e : j = 0
    · subst e; simp [hk, h]
    · simp [e]
theorem bit_at {r i : Nat} (hr : r < 64) (hi : i < 4096) : ((16 : Int32) * nI r) + (nI i / (8 : Int32)) = nI (16 * r + i / 8) := by
  rw [nI16, nI8, pk_mul, pk_div (by omega) (by decide) (by decide), nI_add]
theorem bitz (z : Nat → Int32) {r i : Nat} (hr : r < 64) (hi : i < 4096) : fX11_bit z (nI r) (nI i) = if zb z (r * 128 + i) then 1 else 0 := by
  unfold fX11_bit pX11_bit_30_S1
  rw [bit_at hr hi, nI_clamp (by omega), rem8 (by omega)]
  have e1 : zb z (r * 128 + i) = bt (z (16 * r + i / 8)) (i % 8) := by
    unfold zb; rw [show (r * 128 + i) / 8 = 16 * r + i / 8 by omega, show (r * 128 + i) % 8 = i % 8 by omega]
  rw [e1]
  by_cases h : bt (z (16 * r + i / 8)) (i % 8) = true
  · rw [if_pos ((one_bit _ (by omega)).mpr h), if_pos h]
  · rw [if_neg (fun q => h ((one_bit _ (by omega)).mp q)), if_neg h]
theorem ok_bit {r i : Nat} (hB : r * 128 + i < 4096) : okX11_bit (nI r) (nI i) := by
  unfold okX11_bit; rw [bit_at (by omega) (by omega)]; exact vp_in_nI (by omega) (by decide)
theorem ok_putBit {r i : Nat} (hB : r * 128 + i < 4096) : okX11_putBit (nI r) (nI i) := by
  unfold okX11_putBit; rw [bit_at (by omega) (by omega)]; exact vp_in_nI (by omega) (by decide)
theorem putBitz (z : Nat → Int32) (hz : zB z) {r i : Nat} (hr : r < 64) (hi : i < 4096) (u : Int32) : zB (fX11_putBit__zV z (nI r) (nI i) u) ∧ ∀ m, zb (fX11_putBit__zV z (nI r) (nI i) u) m = if m = r * 128 + i then decide (¬ u = 0) else zb z m := by
  unfold fX11_putBit__zV eX11_putBit_48 pX11_putBit_47_S4
  rw [bit_at hr hi, nI_clamp (by omega), rem8 (by omega)]
  have hk : i % 8 < 8 := Nat.mod_lt _ (by decide)
  have h1 : ∀ j, j < 32 → bt (1 : Int32) j = decide (j = 0) := by decide +kernel
  have h2 : ∀ j, j < 32 → bt (shl (1 : Int32) (nI (i % 8))) j = decide (j = i % 8) := by
    intro j hj
    rw [b_shlF _ (by omega) _ hj, h1 _ (by omega)]
    by_cases h : j = i % 8
    · simp [h]
    · by_cases h3 : i % 8 ≤ j
      · simp [h, h3]; omega
      · simp [h, h3]
  have h3 : ∀ j, j < 32 → bt (if u = (0 : Int32) then (0 : Int32) else (shl (1 : Int32) (nI (i % 8)))) j = (decide (¬ u = 0) && decide (j = i % 8)) := by
    intro j hj
    by_cases hu : u = 0
    · rw [if_pos hu, b_0]; simp [hu]
    · rw [if_neg hu, h2 j hj]; simp [hu]
  refine ⟨zB_upd hz _ (fun j hj => ?_), fun m => ?_⟩
  · rcases Nat.lt_or_ge j 32 with h | h
    · rw [b_or, b_and, hz _ j hj, h3 j h]
      simp [show ¬ j = i % 8 by omega]
    · exact b_big h
  · rw [zb_upd]
    by_cases e : m / 8 = 16 * r + i / 8
    · rw [if_pos e, b_or, b_and, b_xor, h2 _ (by omega), h3 _ (by omega), b_m1 _ (by omega)]
      by_cases e2 : m = r * 128 + i
      · rw [if_pos e2]
        simp [show m % 8 = i % 8 by omega]
      · rw [if_neg e2]
        have e3 : ¬ m % 8 = i % 8 := by omega
        unfold zb
        simp [e3, e]
    · rw [if_neg e, if_neg (by omega)]
/-- both register files hold the same bits -/
def Sy (x z : Nat → Int32) : Prop := zB z ∧ ∀ n, n < 4096 → vb x n = zb z n
theorem Sy.el {x z : Nat → Int32} (h : Sy x z) {r e i : Nat} (he : okB e) (hB : r * 128 + i * e + e ≤ 4096) : fX2_element (nI r) (nI e) (fX10_ones (nI e)) x (nI i) = fX11_get z (nI r) (nI e) (nI i) := by
  have h8 : 8 ≤ e := by rcases he with rfl | rfl | rfl <;> decide
  have h5 : i ≤ i * e := Nat.le_mul_of_pos_right _ (by omega)
  refine l_ext (fun j hj => ?_)
  rw [el_lb x he.E (by omega) hj, get_lb z h.1 he (by omega) (by omega) hj]
  by_cases hje : j < e
  · rw [h.2 _ (by omega)]
  · simp [hje]
theorem Sy.put {x z : Nat → Int32} (h : Sy x z) {r e i : Nat} (he : okB e) (hB : r * 128 + i * e + e ≤ 4096) {a b : Int64} (hab : ∀ j, j < e → lb a j = lb b j) : Sy (fX2_put__xV (nI r) (nI e) (fX10_ones (nI e)) x (nI i) a) (fX11_put__zV z (nI r) (nI e) (nI i) b) := by
  have h8 : 8 ≤ e := by rcases he with rfl | rfl | rfl <;> decide
  have h5 : i ≤ i * e := Nat.le_mul_of_pos_right _ (by omega)
  obtain ⟨h1, h2⟩ := putz he (r := r) (i := i) (by omega) (by omega) b z h.1
  refine ⟨h1, fun n hn => ?_⟩
  rw [put_vb x he.E (by omega), h2 n]
  unfold vset
  by_cases q : r * 128 + i * e ≤ n ∧ n < r * 128 + i * e + e
  · rw [if_pos q, if_pos q]; exact hab _ (by omega)
  · rw [if_neg q, if_neg q]; exact h.2 n hn
theorem Sy.putBit {x z : Nat → Int32} (h : Sy x z) {r i : Nat} (hB : r * 128 + i < 4096) {a : Int64} {u : Int32} (hab : lb a 0 = decide (¬ u = 0)) : Sy (fX2_put__xV (nI r) (nI 1) (fX10_ones (nI 1)) x (nI i) a) (fX11_putBit__zV z (nI r) (nI i) u) := by
  obtain ⟨h1, h2⟩ := putBitz z h.1 (r := r) (i := i) (by omega) (by omega) u
  refine ⟨h1, fun n hn => ?_⟩
  rw [put_vb x (Or.inl rfl) (by omega), h2 n]
  unfold vset
  by_cases q : n = r * 128 + i
  · rw [if_pos (by omega), if_pos q, show n - (r * 128 + i * 1) = 0 by omega]; exact hab
  · rw [if_neg (by omega), if_neg q]; exact h.2 n hn
