/-! ===== what must hold so that the accesses throw nothing ===== -/
theorem ok_ix2 {x : Int32} (h0 : ¬ x < 0) (h1 : x < 256) : vp_in x 256 := by
  rcases pk_ix x (n := 256) (by decide) with h | h | ⟨k, hk, e⟩
  · exact absurd h h0
  · exact absurd h1 (by rw [← Int32.not_le, Classical.not_not]; exact h)
  · rw [e]; exact vp_in_nI hk (by decide)
theorem ok_byteAt (a : Int32) : okX6_byteAt a := fun h0 h1 => ok_ix2 h0 h1
theorem ok_putByte (a : Int32) : okX6_putByte a := fun h0 h1 => ok_ix2 h0 h1
theorem ok_load (w : Nat → Int32) (a : Int32) {b : Nat} (hb : b ≤ 8) : okX6_load w a (nI b) := by
  unfold okX6_load
  rw [← nI_0, cnt_nI (by omega) (by omega), itX6_load_5 (b9 := b) _ _ _ rfl (by omega) (b - 0) 0 0 (by omega), show 0 + (b - 0) = b by omega]
  exact ⟨ktX6_load_5 (b9 := b) _ _ _ rfl (by omega) (fun _ _ => True) (fun a w _ _ => ⟨fun _ => ok_byteAt _, True.intro⟩) (b - 0) 0 0 (by omega) True.intro, ntX6_load_5 w a _ (b9 := b) rfl (by omega) _, fun _ => ok_byteAt _⟩
theorem ok_store (w : Nat → Int32) (a : Int32) {b : Nat} (hb : b ≤ 8) (v : Int64) : okX6_store w a (nI b) v := by
  unfold okX6_store
  rw [← nI_0, cnt_nI (by omega) (by omega), itX6_store_3 (b9 := b) _ _ _ rfl (by omega) (b - 0) 0 w (by omega), show 0 + (b - 0) = b by omega]
  exact ⟨ktX6_store_3 (b9 := b) _ _ _ rfl (by omega) (fun _ _ => True) (fun a w _ _ => ⟨fun _ => ok_putByte _, True.intro⟩) (b - 0) 0 w (by omega) True.intro, ntX6_store_3 a _ v (b9 := b) rfl (by omega) _, fun _ => ok_putByte _⟩
theorem ok_leaveTail (f : Int32) {e g k : Nat} (he : 1 ≤ e) (he2 : e ≤ 32) (hg : g ≤ 8) (hk : k < 2 ^ 30) (fu c : Int64) (x : Nat → Int32) : okX2_leaveTail f (nI e) (nI g) fu c x (nI k) := by
  have hc := cap_nI he he2 hg
  have hb : g * 128 / e ≤ g * 128 := Nat.div_le_self _ _
  unfold okX2_leaveTail
  rw [hc, cnt_nI (by omega) (by omega)]
  refine ⟨fun _ => nI_ne0 he (by omega), ?_⟩
  rcases Nat.lt_or_ge k (g * 128 / e) with q | q
  · rw [itX2_leaveTail_26 (b9 := g * 128 / e) _ _ _ _ _ hc (by omega) (g * 128 / e - k) k x (by omega), show k + (g * 128 / e - k) = g * 128 / e by omega]
    exact ⟨ktX2_leaveTail_26 (b9 := g * 128 / e) _ _ _ _ _ hc (by omega) (fun _ _ => True) (fun a w _ _ => ⟨fun _ => ok_lo _ _ _ _, True.intro⟩) (g * 128 / e - k) k x (by omega) True.intro, ntX2_leaveTail_26 f _ _ fu c (b9 := g * 128 / e) hc (by omega) _, fun _ => ok_lo _ _ _ _⟩
  · rw [show g * 128 / e - k = 0 by omega]
    refine ⟨True.intro, ?_, fun _ => ok_lo _ _ _ _⟩
    show ¬ tX2_leaveTail_26 (nI e) (nI g) (nI k) x
    unfold tX2_leaveTail_26
    rw [hc, if_pos (nI_le q (by omega))]; exact id
theorem ok_fails (zS : Nat → Int32) (a : Int32) {b : Nat} (hb : b ≤ 8) : okX11_fails zS a (nI b) := by
  have hv : ∀ (x : Int32), ¬ x < 0 → ¬ 1024 ≤ x → vp_in (x / 64) 16 := by
    intro x h0 h1
    obtain ⟨k, hk, rfl⟩ := nI_of h0
    have : k < 1024 := Classical.byContradiction (fun q => h1 (by rw [show (1024 : Int32) = nI 1024 by decide]; exact nI_le (by omega) hk))
    rw [show (64 : Int32) = nI 64 by decide, pk_div hk (by decide) (by decide)]
    exact vp_in_nI (by omega) (by decide)
  unfold okX11_fails
  rw [← nI_0, cnt_nI (by omega) (by omega), itX11_fails_5 (b9 := b) _ _ _ rfl (by omega) (b - 0) 0 (nI 0) (by omega), show 0 + (b - 0) = b by omega]
  refine ⟨ktX11_fails_5 (b9 := b) _ _ _ rfl (by omega) (fun _ _ => True) (fun a w _ _ => ⟨fun _ _ h1 h2 => hv _ h1 h2, True.intro⟩) (b - 0) 0 (nI 0) (by omega) True.intro, ntX11_fails_5 zS a _ (b9 := b) rfl (by omega) _, fun _ => ?_, fun _ _ h1 h2 => hv _ (fun w => h1 (by rw [nI_0]; exact w)) h2⟩
  refine itr_inv (fun _ s => narrow .boolean (.int s) = .int s) _ (b - 0) 0 (nI 0) (fun i s _ _ _ => ?_) rfl
  unfold pX11_fails_52_S1
  exact kzi (kzi rfl (kzi rfl (kzi rfl rfl))) rfl
theorem ok_access (zV zO zM : Nat → Int32) {W d i A : Nat} (hW : okB W) (hB : d * 128 + i * W + W ≤ 4096) (hd : d < 64) (hi : i < 4096) (hA : A + W / 8 ≤ 1024) (u1 : Int32) : okX11_access zV zO zM u1 (nI d) (nI W) (nI i) (nI A) := by
  obtain ⟨hN, hN8⟩ := hW.N
  have hle := hW.le
  have hd8 := div8 hW
  have hK : ∀ (n : Nat) (a : Int64), 8 * n ≤ W → KX11_access_15 zM (nI A) n (a, nI n - 1) ∧ (LX11_access_15 zM (nI A) n (a, nI n - 1)).2 = nI 0 - 1 := by
    intro n
    induction n with
    | zero => intro a _; exact ⟨True.intro, rfl⟩
    | succ n ih =>
      intro a hn
      have hc : ¬ (nI n < (0 : Int32)) := nI_pos (by omega)
      obtain ⟨h1, h2⟩ := ih (bX11_access_15_L6 zM (nI A) a (nI n)) (by omega)
      rw [nI_pred]
      have e1 : bX11_access_15_L8 a (nI n) = nI n - 1 := by rw [bX11_access_15_L8, if_neg hc, ← Int32.sub_eq_add_neg]
      refine ⟨?_, ?_⟩
      · show (tX11_access_15 a (nI n) ∧ oX11_access_15 (nI A) a (nI n)) ∧ KX11_access_15 zM (nI A) n (bX11_access_15_L6 zM (nI A) a (nI n), bX11_access_15_L8 a (nI n))
        refine ⟨⟨by rw [tX11_access_15, if_neg hc]; exact True.intro, fun _ => ?_⟩, by rw [e1]; exact h1⟩
        rw [nI_add]
        exact vp_in_nI (by omega) (by decide)
      · show (LX11_access_15 zM (nI A) n (bX11_access_15_L6 zM (nI A) a (nI n), bX11_access_15_L8 a (nI n))).2 = _
        rw [e1]; exact h2
  have hload : KX11_access_15 zM (nI A) ((Int32.toInt ((nI W / (8 : Int32)) - (1 : Int32)) + 1).toNat) ((0 : Int64), ((nI W / (8 : Int32)) - (1 : Int32))) ∧ (LX11_access_15 zM (nI A) ((Int32.toInt ((nI W / (8 : Int32)) - (1 : Int32)) + 1).toNat) ((0 : Int64), ((nI W / (8 : Int32)) - (1 : Int32)))).2 < 0 := by
    have key : ∀ n, (Int32.toInt ((nI W / (8 : Int32)) - (1 : Int32)) + 1).toNat = n → (nI W / (8 : Int32)) - (1 : Int32) = nI n - 1 → 8 * n ≤ W → KX11_access_15 zM (nI A) ((Int32.toInt ((nI W / (8 : Int32)) - (1 : Int32)) + 1).toNat) ((0 : Int64), ((nI W / (8 : Int32)) - (1 : Int32))) ∧ (LX11_access_15 zM (nI A) ((Int32.toInt ((nI W / (8 : Int32)) - (1 : Int32)) + 1).toNat) ((0 : Int64), ((nI W / (8 : Int32)) - (1 : Int32)))).2 < 0 := by
      intro n h1 h2 h3
      obtain ⟨k1, k2⟩ := hK n 0 h3
      rw [h1, h2, k2]
      exact ⟨k1, by decide⟩
    rcases hW with rfl | rfl | rfl
    · exact key 1 (by decide) (by decide) (by decide)
    · exact key 2 (by decide) (by decide) (by decide)
    · exact key 4 (by decide) (by decide) (by decide)
  obtain ⟨l1, l2⟩ := hload
  have hcnt : cnt (0 : Int32) (nI W / 8) = W / 8 := by rw [hd8, ← nI_0, cnt_nI (by omega) (by omega)]; omega
  have hL := itX11_access_71 zO (nI d) (nI W) (nI i) (nI A) (b9 := W / 8) hd8 (by omega) (W / 8) 0 zM (by omega)
  rw [Nat.zero_add, nI_0] at hL
  unfold okX11_access
  rw [hcnt, hL]
  refine ⟨fun _ => ok_get zO hW hB hd hi, fun _ => ?_, fun _ => ntX11_access_71 zO (nI d) (nI W) (nI i) (nI A) (b9 := W / 8) hd8 (by omega) _, fun _ q => absurd (by rw [hd8]; exact Int32.le_refl _) q, fun _ => l1, fun _ => by unfold tX11_access_15; rw [if_pos l2]; exact id, fun _ _ => ok_put zV hW hB hd hi _, fun _ q => absurd l2 q⟩
  have := ktX11_access_71 zO (nI d) (nI W) (nI i) (nI A) (b9 := W / 8) hd8 (by omega) (fun _ _ => True) (fun a w _ ha => ⟨fun _ => by rw [nI_add]; exact vp_in_nI (by omega) (by decide), True.intro⟩) (W / 8) 0 zM (by omega) True.intro
  rw [nI_0] at this; exact this
theorem ok_masked (z : Nat → Int32) {r e i : Nat} (he : okB e) (hB : r * 128 + i * e + e ≤ 4096) (c : Int64) (vt : Int32) : okX11_masked c vt z (nI r) (nI e) (nI i) := fun _ => ok_open z he hB c
theorem ok_isActive {i : Nat} (hi : i < 128) (un : Int32) : okX11_isActive un (nI i) := fun _ => by
  have := ok_bit (r := 0) (i := i) (by omega)
  rw [nI_0] at this; exact this
theorem ok_move (isS : Int32) (x w : Nat → Int32) (df : Int32) {W : Nat} (hW : okB W) (dl : Int64) (i a : Int32) : okX7_move isS x w df (nI W) dl i a := by
  have hle := hW.le
  unfold okX7_move
  rw [div8 hW]
  exact ⟨fun _ => ok_load w a (by omega), fun _ => ok_pt _ _ _, fun _ => ok_el _ _ _, fun _ => ok_store w a (by omega) _⟩
theorem o7_all (bs str len isS isM isX : Int32) (c : Int64) (mo sp df : Int32) {W : Nat} (hW : okB W) (dl : Int64) (xf xe : Int32) (xl : Int64) (mf me : Int32) (ml : Int64) (s : Int32 × (Nat → Int32) × (Nat → Int32)) : o7 bs str len isS isM isX c mo sp df (nI W) dl xf xe xl mf me ml s :=
  ⟨fun _ _ _ => ok_el _ _ _, fun _ _ _ _ => ok_el _ _ _, fun _ _ _ => ok_move _ _ _ _ hW _ _ _, fun _ _ => ok_el _ _ _, fun _ _ _ _ _ => ok_lo _ _ _ _, fun _ _ _ _ => ok_el _ _ _, fun _ _ _ _ _ => ok_el _ _ _, fun _ _ _ _ => ok_move _ _ _ _ hW _ _ _⟩
/-- a turn of the class's loop: the counter -/
theorem b7_next {bs str isS isM isX : Int32} {c : Int64} {mo sp df : Int32} {W : Nat} {dl : Int64} {xf xe : Int32} {xl : Int64} {mf me : Int32} {ml : Int64} {to i : Nat} {s : Int32 × (Nat → Int32) × (Nat → Int32)} (hs : s.1 = nI i) (ht : t7 bs str (nI to) isM isX sp (nI W) xf xe xl mf me ml s) : (b7 bs str (nI to) isS isM isX c mo sp df (nI W) dl xf xe xl mf me ml s).1 = nI (i + 1) := by
  unfold t7 tX7_transfer_24 at ht
  show bX7_transfer_24_L1 bs str (nI to) isM isX sp (nI W) xf xe xl mf me ml s.1 s.2.1 s.2.2 = _
  unfold bX7_transfer_24_L1
  have hnext : nI i + (1 : Int32) = nI (i + 1) := by rw [show (1 : Int32) = nI 1 by decide, nI_add]
  rw [← hnext, ← hs]
  repeat' (split at ht <;> try exact absurd ht id)
  all_goals (simp_all; try exact fun w => absurd w (Int32.not_le.mpr (by assumption)))
theorem bw_next {c : Int64} {vt vd vs1 vs2 un : Int32} {zX zO zS : Nat → Int32} {u1 u2 u4 u5 u7 : Int32} {to i : Nat} {s : Int32 × (Nat → Int32) × (Nat → Int32)} (hs : s.1 = nI i) (ht : tw vs1 vs2 un zX zO zS u2 (nI to) u4 u5 u7 s) : (bw c vt vd vs1 vs2 un zX zO zS u1 u2 (nI to) u4 u5 u7 s).1 = nI (i + 1) := by
  unfold tw tX11_walks_6 at ht
  show bX11_walks_6_L8 vs1 vs2 un zX zO zS u2 (nI to) u4 u5 u7 s.1 s.2.1 s.2.2 = _
  unfold bX11_walks_6_L8
  have hnext : nI i + (1 : Int32) = nI (i + 1) := by rw [show (1 : Int32) = nI 1 by decide, nI_add]
  rw [← hnext, ← hs]
  repeat' (split at ht <;> try exact absurd ht id)
  all_goals (simp_all; try exact fun w => absurd w (Int32.not_le.mpr (by assumption)))
theorem t7_end {bs str isM isX sp : Int32} {de xf xe : Int32} {xl : Int64} {mf me : Int32} {ml : Int64} {to : Int32} {s : Int32 × (Nat → Int32) × (Nat → Int32)} (hs : to ≤ s.1) : ¬ t7 bs str to isM isX sp de xf xe xl mf me ml s := by
  unfold t7 tX7_transfer_24; rw [if_pos hs]; exact id
theorem tw_end {vs1 vs2 un : Int32} {zX zO zS : Nat → Int32} {u2 u4 u5 u7 : Int32} {to : Int32} {s : Int32 × (Nat → Int32) × (Nat → Int32)} (hs : to ≤ s.1) : ¬ tw vs1 vs2 un zX zO zS u2 to u4 u5 u7 s := by
  unfold tw tX11_walks_6; rw [if_pos hs]; exact id
theorem ow_all (c : Int64) (vt : Int32) {d s1 s2 W B to i : Nat} (hW : okB W) (hto : to ≤ 128) (hi : i < to) (hBd : to * W + d * 128 ≤ 4096) (h1 : s1 < 32) (un : Int32) (zX zO zS : Nat → Int32) (u1 u4 u5 : Int32) {u7 : Int32} (h7 : u7 = 0 ∨ (u7 = nI B ∧ okB B ∧ s2 * 128 + i * B + B ≤ 4096)) {s : Int32 × (Nat → Int32) × (Nat → Int32)} (hs : s.1 = nI i) : ow c vt (nI d) (nI s1) (nI s2) un zX zO zS u1 (nI W) (nI to) u4 u5 u7 s := by
  have hle := hW.le
  have hd8 := div8 hW
  have hiW : i * W + W ≤ to * W := by
    have := Nat.mul_le_mul_right W (show i + 1 ≤ to by omega)
    rw [Nat.add_mul, Nat.one_mul] at this; exact this
  have hg : ¬ u7 ≤ 0 → okX11_get zO (nI s2) u7 (nI i) := by
    intro q
    rcases h7 with rfl | ⟨rfl, h8, h9⟩
    · exact absurd (Int32.le_refl _) q
    · have := h8.le
      have h5 : i ≤ i * B := Nat.le_mul_of_pos_right _ (by omega)
      exact ok_get zO h8 h9 (by omega) (by omega)
  have ha : fX11_fails zS (eX11_walks_80 (nI s1) (nI s2) zX zO u4 u7 (nI i)) (nI W / 8) = 0 → okX11_access s.2.1 zO s.2.2 u1 (nI d) (nI W) (nI i) (eX11_walks_80 (nI s1) (nI s2) zX zO u4 u7 (nI i)) := by
    intro q
    rw [hd8] at q
    have hN := hW.N
    have hN4 := hN.1.le
    have q2 := (fails_iff zS _ (b := W / 8) (by omega)).mp q
    obtain ⟨g1, g2, g3⟩ := q2 0 (by omega)
    rw [nI_0, Int32.add_zero] at g1 g2
    obtain ⟨A, hA, e⟩ := nI_of g1
    obtain ⟨f1, f2, f3⟩ := q2 (W / 8 - 1) (by omega)
    rw [e] at g2 f1 f2 ⊢
    rw [nI_add] at f1 f2
    have hA2 : A < 1024 := Classical.byContradiction (fun q => g2 (by rw [show (1024 : Int32) = nI 1024 by decide]; exact nI_le (by omega) hA))
    have hB2 : A + (W / 8 - 1) < 1024 := Classical.byContradiction (fun q => f2 (by rw [show (1024 : Int32) = nI 1024 by decide]; exact nI_le (by omega) (by omega)))
    exact ok_access s.2.1 zO s.2.2 hW (by omega) (by omega) (by omega) (by omega) u1
  have hv : vp_in (nI s1) 32 := vp_in_nI h1 (by decide)
  unfold ow oX11_walks_6
  rw [hs]
  exact ⟨fun _ _ => ok_isActive (by omega) un, fun _ _ _ _ => ok_masked _ hW (by omega) c vt, fun _ _ _ => hv, fun _ _ _ q => hg q, fun _ _ _ => by rw [hd8]; exact ok_fails zS _ (by omega), fun _ _ _ q => ha q, fun _ _ => hv, fun _ _ q => hg q, fun _ _ => by rw [hd8]; exact ok_fails zS _ (by omega), fun _ _ q => ha q⟩
theorem walks_ok (c : Int64) (vt : Int32) {d s1 s2 W B to st : Nat} (hW : okB W) (hto : to ≤ 128) (hst : st < 128) (hBd : to * W + d * 128 ≤ 4096) (h1 : s1 < 32) (un : Int32) (zX zV zO zM zS : Nat → Int32) (u1 u4 u5 : Int32) {u7 : Int32} (h7 : u7 = 0 ∨ (u7 = nI B ∧ okB B ∧ ∀ i, i < to → s2 * 128 + i * B + B ≤ 4096)) : okX11_walks c vt (nI st) (nI d) (nI s1) (nI s2) un zX zV zO zM zS u1 (nI W) (nI to) u4 u5 u7 := by
  have h8 : ∀ i, i < to → u7 = 0 ∨ (u7 = nI B ∧ okB B ∧ s2 * 128 + i * B + B ≤ 4096) := by
    intro i hi
    rcases h7 with h | ⟨ha, hb, hc⟩
    · exact Or.inl h
    · exact Or.inr ⟨ha, hb, hc i hi⟩
  unfold okX11_walks
  rw [Lw_eq, Kw_eq, Nw_eq]
  have hfin : ∃ e, e ≤ max st to ∧ (run (tw (nI s1) (nI s2) un zX zO zS (nI W) (nI to) u4 u5 u7) (bw c vt (nI d) (nI s1) (nI s2) un zX zO zS u1 (nI W) (nI to) u4 u5 u7) 600 (nI st, zV, zM)).1 = nI e ∧ ¬ tw (nI s1) (nI s2) un zX zO zS (nI W) (nI to) u4 u5 u7 (run (tw (nI s1) (nI s2) un zX zO zS (nI W) (nI to) u4 u5 u7) (bw c vt (nI d) (nI s1) (nI s2) un zX zO zS u1 (nI W) (nI to) u4 u5 u7) 600 (nI st, zV, zM)) := by
    rcases Nat.lt_or_ge st to with q | q
    · obtain ⟨e, a1, a2, a3, a4, a5⟩ := run_rel (fun i s t => s.1 = nI i ∧ s = t) (tw (nI s1) (nI s2) un zX zO zS (nI W) (nI to) u4 u5 u7) (bw c vt (nI d) (nI s1) (nI s2) un zX zO zS u1 (nI W) (nI to) u4 u5 u7) (tw (nI s1) (nI s2) un zX zO zS (nI W) (nI to) u4 u5 u7) (bw c vt (nI d) (nI s1) (nI s2) un zX zO zS u1 (nI W) (nI to) u4 u5 u7) to (by
        intro i s t hi ⟨h1, h2⟩
        subst h2
        exact ⟨Iff.rfl, fun q => ⟨bw_next h1 q, rfl⟩⟩) (by
        intro s t ⟨h1, h2⟩
        subst h2
        exact ⟨tw_end (by rw [h1]; exact Int32.le_refl _), tw_end (by rw [h1]; exact Int32.le_refl _)⟩) (to - st) st 600 600 (nI st, zV, zM) (nI st, zV, zM) (by omega) (by omega) (by omega) ⟨rfl, rfl⟩
      exact ⟨e, by omega, a3.1, a4⟩
    · have hn : ¬ tw (nI s1) (nI s2) un zX zO zS (nI W) (nI to) u4 u5 u7 (nI st, zV, zM) := tw_end (nI_le q (by omega))
      have e1 : run (tw (nI s1) (nI s2) un zX zO zS (nI W) (nI to) u4 u5 u7) (bw c vt (nI d) (nI s1) (nI s2) un zX zO zS u1 (nI W) (nI to) u4 u5 u7) 600 (nI st, zV, zM) = (nI st, zV, zM) := if_neg hn
      rw [e1]
      exact ⟨st, by omega, rfl, hn⟩
  obtain ⟨e, he1, he2, he3⟩ := hfin
  have hK : KR (tw (nI s1) (nI s2) un zX zO zS (nI W) (nI to) u4 u5 u7) (ow c vt (nI d) (nI s1) (nI s2) un zX zO zS u1 (nI W) (nI to) u4 u5 u7) (bw c vt (nI d) (nI s1) (nI s2) un zX zO zS u1 (nI W) (nI to) u4 u5 u7) (NR (tw (nI s1) (nI s2) un zX zO zS (nI W) (nI to) u4 u5 u7) (bw c vt (nI d) (nI s1) (nI s2) un zX zO zS u1 (nI W) (nI to) u4 u5 u7) 600 (nI st, zV, zM)) (nI st, zV, zM) := by
    rcases Nat.lt_or_ge st to with q | q
    · exact run_K (fun i s => s.1 = nI i) _ _ _ to (fun i s hi h q => ⟨ow_all c vt hW hto hi hBd h1 un zX zO zS u1 u4 u5 (h8 i hi) h, bw_next h q⟩) (fun s h => tw_end (by rw [h]; exact Int32.le_refl _)) 600 st _ (by omega) rfl
    · have hn : ¬ tw (nI s1) (nI s2) un zX zO zS (nI W) (nI to) u4 u5 u7 (nI st, zV, zM) := tw_end (nI_le q (by omega))
      have e1 : NR (tw (nI s1) (nI s2) un zX zO zS (nI W) (nI to) u4 u5 u7) (bw c vt (nI d) (nI s1) (nI s2) un zX zO zS u1 (nI W) (nI to) u4 u5 u7) 600 (nI st, zV, zM) = 0 := if_neg hn
      rw [e1]; exact True.intro
  generalize run (tw (nI s1) (nI s2) un zX zO zS (nI W) (nI to) u4 u5 u7) (bw c vt (nI d) (nI s1) (nI s2) un zX zO zS u1 (nI W) (nI to) u4 u5 u7) 600 (nI st, zV, zM) = G at *
  refine ⟨hK, he3, ?_⟩
  by_cases q : nI to ≤ G.1
  · exact ⟨fun w => absurd q w, fun w => absurd q w, fun w => absurd q w, fun w => absurd q w, fun w => absurd q w, fun w => absurd q w, fun w => absurd q w, fun w => absurd q w, fun w => absurd q w, fun w => absurd q w⟩
  · have hlt : e < to := by
      rcases Nat.lt_or_ge e to with w | w
      · exact w
      · exact absurd (by rw [he2]; exact nI_le w (by omega)) q
    exact ow_all c vt hW hto hlt hBd h1 un zX zO zS u1 u4 u5 (h8 e hlt) (s := G) he2
