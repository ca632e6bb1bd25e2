/-! ===== loops that end where a condition says ===== -/
noncomputable def run {σ : Type} (t : σ → Prop) (b : σ → σ) : Nat → σ → σ
  | 0, s => s
  | n + 1, s => @ite σ (t s) (Classical.propDecidable _) (run t b n (b s)) s
def KR {σ : Type} (t o : σ → Prop) (b : σ → σ) : Nat → σ → Prop
  | 0, _ => True
  | n + 1, s => (t s ∧ o s) ∧ KR t o b n (b s)
noncomputable def NR {σ : Type} (t : σ → Prop) (b : σ → σ) : Nat → σ → Nat
  | 0, _ => 0
  | n + 1, s => @ite Nat (t s) (Classical.propDecidable _) (NR t b n (b s) + 1) 0
theorem run_rel {σ τ : Type} (R : Nat → σ → τ → Prop) (t1 : σ → Prop) (b1 : σ → σ) (t2 : τ → Prop) (b2 : τ → τ) (to : Nat) (hs : ∀ i s t, i < to → R i s t → (t1 s ↔ t2 t) ∧ (t1 s → R (i + 1) (b1 s) (b2 t))) (he : ∀ s t, R to s t → ¬ t1 s ∧ ¬ t2 t) : ∀ (n i f1 f2 : Nat) (s : σ) (t : τ), i + n = to → n ≤ f1 → n ≤ f2 → R i s t → ∃ e, i ≤ e ∧ e ≤ to ∧ R e (run t1 b1 f1 s) (run t2 b2 f2 t) ∧ ¬ t1 (run t1 b1 f1 s) ∧ ¬ t2 (run t2 b2 f2 t) := by
  have stop1 : ∀ f s, ¬ t1 s → run t1 b1 f s = s := by
    intro f s h; cases f with
    | zero => rfl
    | succ f => exact if_neg h
  have stop2 : ∀ f s, ¬ t2 s → run t2 b2 f s = s := by
    intro f s h; cases f with
    | zero => rfl
    | succ f => exact if_neg h
  intro n
  induction n with
  | zero =>
    intro i f1 f2 s t hi _ _ h
    have hi : i = to := by omega
    subst hi
    obtain ⟨h1, h2⟩ := he s t h
    rw [stop1 f1 s h1, stop2 f2 t h2]
    exact ⟨i, Nat.le_refl _, Nat.le_refl _, h, h1, h2⟩
  | succ n ih =>
    intro i f1 f2 s t hi hf1 hf2 h
    obtain ⟨k1, k2⟩ := hs i s t (by omega) h
    by_cases q : t1 s
    · obtain ⟨g1, rfl⟩ : ∃ g, f1 = g + 1 := ⟨f1 - 1, by omega⟩
      obtain ⟨g2, rfl⟩ : ∃ g, f2 = g + 1 := ⟨f2 - 1, by omega⟩
      have e1 : run t1 b1 (g1 + 1) s = run t1 b1 g1 (b1 s) := if_pos q
      have e2 : run t2 b2 (g2 + 1) t = run t2 b2 g2 (b2 t) := if_pos (k1.mp q)
      rw [e1, e2]
      obtain ⟨e, a1, a2, a3⟩ := ih (i + 1) g1 g2 (b1 s) (b2 t) (by omega) (by omega) (by omega) (k2 q)
      exact ⟨e, by omega, a2, a3⟩
    · have q2 : ¬ t2 t := fun w => q (k1.mpr w)
      rw [stop1 f1 s q, stop2 f2 t q2]
      exact ⟨i, Nat.le_refl _, by omega, h, q, q2⟩
theorem run_K {σ : Type} (I : Nat → σ → Prop) (t o : σ → Prop) (b : σ → σ) (to : Nat) (hs : ∀ i s, i < to → I i s → t s → o s ∧ I (i + 1) (b s)) (he : ∀ s, I to s → ¬ t s) : ∀ (f i : Nat) (s : σ), i ≤ to → I i s → KR t o b (NR t b f s) s := by
  intro f
  induction f with
  | zero => intro i s _ _; exact True.intro
  | succ f ih =>
    intro i s hi h
    by_cases q : t s
    · have e : NR t b (f + 1) s = NR t b f (b s) + 1 := if_pos q
      rw [e]
      have hlt : i < to := by
        rcases Nat.lt_or_ge i to with w | w
        · exact w
        · have : i = to := by omega
          subst this; exact absurd q (he s h)
      obtain ⟨k1, k2⟩ := hs i s hlt h q
      exact ⟨⟨q, k1⟩, ih (i + 1) (b s) (by omega) k2⟩
    · have e : NR t b (f + 1) s = 0 := if_neg q
      rw [e]; exact True.intro
/-! ===== transfer of the class, walks of the reference ===== -/
section TR
variable (bs str len isS isM isX : Int32) (c : Int64) (mo sp df de : Int32) (dl : Int64) (xf xe : Int32) (xl : Int64) (mf me : Int32) (ml : Int64)
def t7 (s : Int32 × (Nat → Int32) × (Nat → Int32)) : Prop := tX7_transfer_24 bs str len isM isX sp de xf xe xl mf me ml s.1 s.2.1 s.2.2
def o7 (s : Int32 × (Nat → Int32) × (Nat → Int32)) : Prop := oX7_transfer_24 bs str len isS isM isX c mo sp df de dl xf xe xl mf me ml s.1 s.2.1 s.2.2
noncomputable def b7 (s : Int32 × (Nat → Int32) × (Nat → Int32)) : Int32 × (Nat → Int32) × (Nat → Int32) := ((bX7_transfer_24_L1 bs str len isM isX sp de xf xe xl mf me ml s.1 s.2.1 s.2.2), (bX7_transfer_24_xV bs str len isS isM isX c mo sp df de dl xf xe xl mf me ml s.1 s.2.1 s.2.2), (bX7_transfer_24_xW bs str len isS isM isX sp df de dl xf xe xl mf me ml s.1 s.2.1 s.2.2))
theorem N7_eq : ∀ (f : Nat) (s : Int32 × (Nat → Int32) × (Nat → Int32)), NX7_transfer_24 bs str len isS isM isX c mo sp df de dl xf xe xl mf me ml f s = NR (t7 bs str len isM isX sp de xf xe xl mf me ml) (b7 bs str len isS isM isX c mo sp df de dl xf xe xl mf me ml) f s
  | 0, _ => rfl
  | f + 1, s => by
    rw [NX7_transfer_24, NR, N7_eq f]; rfl
theorem L7_eq : ∀ (f : Nat) (s : Int32 × (Nat → Int32) × (Nat → Int32)), LX7_transfer_24 bs str len isS isM isX c mo sp df de dl xf xe xl mf me ml (NX7_transfer_24 bs str len isS isM isX c mo sp df de dl xf xe xl mf me ml f s) s = run (t7 bs str len isM isX sp de xf xe xl mf me ml) (b7 bs str len isS isM isX c mo sp df de dl xf xe xl mf me ml) f s
  | 0, _ => rfl
  | f + 1, s => by
    by_cases q : t7 bs str len isM isX sp de xf xe xl mf me ml s
    · have e1 : NX7_transfer_24 bs str len isS isM isX c mo sp df de dl xf xe xl mf me ml (f + 1) s = NX7_transfer_24 bs str len isS isM isX c mo sp df de dl xf xe xl mf me ml f (b7 bs str len isS isM isX c mo sp df de dl xf xe xl mf me ml s) + 1 := if_pos q
      have e2 : run (t7 bs str len isM isX sp de xf xe xl mf me ml) (b7 bs str len isS isM isX c mo sp df de dl xf xe xl mf me ml) (f + 1) s = run (t7 bs str len isM isX sp de xf xe xl mf me ml) (b7 bs str len isS isM isX c mo sp df de dl xf xe xl mf me ml) f (b7 bs str len isS isM isX c mo sp df de dl xf xe xl mf me ml s) := if_pos q
      rw [e1, e2, ← L7_eq f]; rfl
    · have e1 : NX7_transfer_24 bs str len isS isM isX c mo sp df de dl xf xe xl mf me ml (f + 1) s = 0 := if_neg q
      have e2 : run (t7 bs str len isM isX sp de xf xe xl mf me ml) (b7 bs str len isS isM isX c mo sp df de dl xf xe xl mf me ml) (f + 1) s = s := if_neg q
      rw [e1, e2]; rfl
theorem K7_eq : ∀ (n : Nat) (s : Int32 × (Nat → Int32) × (Nat → Int32)), KX7_transfer_24 bs str len isS isM isX c mo sp df de dl xf xe xl mf me ml n s = KR (t7 bs str len isM isX sp de xf xe xl mf me ml) (o7 bs str len isS isM isX c mo sp df de dl xf xe xl mf me ml) (b7 bs str len isS isM isX c mo sp df de dl xf xe xl mf me ml) n s
  | 0, _ => rfl
  | n + 1, s => by rw [KX7_transfer_24, KR, K7_eq n]; rfl
end TR
section WK
variable (c : Int64) (vt vd vs1 vs2 un : Int32) (zX zO zS : Nat → Int32) (u1 u2 u3 u4 u5 u7 : Int32)
def tw (s : Int32 × (Nat → Int32) × (Nat → Int32)) : Prop := tX11_walks_6 vs1 vs2 un zX zO zS u2 u3 u4 u5 u7 s.1 s.2.1 s.2.2
def ow (s : Int32 × (Nat → Int32) × (Nat → Int32)) : Prop := oX11_walks_6 c vt vd vs1 vs2 un zX zO zS u1 u2 u3 u4 u5 u7 s.1 s.2.1 s.2.2
noncomputable def bw (s : Int32 × (Nat → Int32) × (Nat → Int32)) : Int32 × (Nat → Int32) × (Nat → Int32) := ((bX11_walks_6_L8 vs1 vs2 un zX zO zS u2 u3 u4 u5 u7 s.1 s.2.1 s.2.2), (bX11_walks_6_zV c vt vd vs1 vs2 un zX zO zS u1 u2 u3 u4 u5 u7 s.1 s.2.1 s.2.2), (bX11_walks_6_zM vd vs1 vs2 un zX zO zS u1 u2 u3 u4 u5 u7 s.1 s.2.1 s.2.2))
theorem Nw_eq : ∀ (f : Nat) (s : Int32 × (Nat → Int32) × (Nat → Int32)), NX11_walks_6 c vt vd vs1 vs2 un zX zO zS u1 u2 u3 u4 u5 u7 f s = NR (tw vs1 vs2 un zX zO zS u2 u3 u4 u5 u7) (bw c vt vd vs1 vs2 un zX zO zS u1 u2 u3 u4 u5 u7) f s
  | 0, _ => rfl
  | f + 1, s => by
    rw [NX11_walks_6, NR, Nw_eq f]; rfl
theorem Lw_eq : ∀ (f : Nat) (s : Int32 × (Nat → Int32) × (Nat → Int32)), LX11_walks_6 c vt vd vs1 vs2 un zX zO zS u1 u2 u3 u4 u5 u7 (NX11_walks_6 c vt vd vs1 vs2 un zX zO zS u1 u2 u3 u4 u5 u7 f s) s = run (tw vs1 vs2 un zX zO zS u2 u3 u4 u5 u7) (bw c vt vd vs1 vs2 un zX zO zS u1 u2 u3 u4 u5 u7) f s
  | 0, _ => rfl
  | f + 1, s => by
    by_cases q : tw vs1 vs2 un zX zO zS u2 u3 u4 u5 u7 s
    · have e1 : NX11_walks_6 c vt vd vs1 vs2 un zX zO zS u1 u2 u3 u4 u5 u7 (f + 1) s = NX11_walks_6 c vt vd vs1 vs2 un zX zO zS u1 u2 u3 u4 u5 u7 f (bw c vt vd vs1 vs2 un zX zO zS u1 u2 u3 u4 u5 u7 s) + 1 := if_pos q
      have e2 : run (tw vs1 vs2 un zX zO zS u2 u3 u4 u5 u7) (bw c vt vd vs1 vs2 un zX zO zS u1 u2 u3 u4 u5 u7) (f + 1) s = run (tw vs1 vs2 un zX zO zS u2 u3 u4 u5 u7) (bw c vt vd vs1 vs2 un zX zO zS u1 u2 u3 u4 u5 u7) f (bw c vt vd vs1 vs2 un zX zO zS u1 u2 u3 u4 u5 u7 s) := if_pos q
      rw [e1, e2, ← Lw_eq f]; rfl
    · have e1 : NX11_walks_6 c vt vd vs1 vs2 un zX zO zS u1 u2 u3 u4 u5 u7 (f + 1) s = 0 := if_neg q
      have e2 : run (tw vs1 vs2 un zX zO zS u2 u3 u4 u5 u7) (bw c vt vd vs1 vs2 un zX zO zS u1 u2 u3 u4 u5 u7) (f + 1) s = s := if_neg q
      rw [e1, e2]; rfl
theorem Kw_eq : ∀ (n : Nat) (s : Int32 × (Nat → Int32) × (Nat → Int32)), KX11_walks_6 c vt vd vs1 vs2 un zX zO zS u1 u2 u3 u4 u5 u7 n s = KR (tw vs1 vs2 un zX zO zS u2 u3 u4 u5 u7) (ow c vt vd vs1 vs2 un zX zO zS u1 u2 u3 u4 u5 u7) (bw c vt vd vs1 vs2 un zX zO zS u1 u2 u3 u4 u5 u7) n s
  | 0, _ => rfl
  | n + 1, s => by rw [KX11_walks_6, KR, Kw_eq n]; rfl
end WK
/-- one turn of both loops -/
theorem walk_step {W st to i d s1 s2 : Nat} {x z xx zz w m zX zS : Nat → Int32} (hW : okB W) (hB : to * W + d * 128 ≤ 4096) (h0 : Sy x z) (hsi : st ≤ i) (hi : i < to) (hto : to ≤ 128) {bs str isS isM isX : Int32} {c : Int64} {mo sp xf xe : Int32} {xl : Int64} {vt un u1 u4 u5 u7 : Int32}
    (hmo : mo = fX11_isMaskOpen vt) (hS : isS = 0 ↔ ¬ u1 = 0) (hmu : isM = 0 ↔ ¬ un = 0) (h5 : ¬ u5 = 0 → isM = 0) (hP : SyP sp zS)
    (hR : Rl (d * 128) W st z i xx zz) (hM : SyM w m) (hst : ¬ isS = 0 → xx = x ∧ zz = z)
    (hmask : ¬ isM = 0 → fX2_element (nI 0) (nI 1) (fX10_ones (nI 1)) xx (nI i) = if fX11_bit z (0 : Int32) (nI i) = 0 then 0 else 1)
    (haddr : fX7_addressOf bs str isX xx xf xe xl (nI i) = eX11_walks_80 (nI s1) (nI s2) zX z u4 u7 (nI i)) :
    (t7 bs str (nI to) isM isX sp (nI W) xf xe xl (nI 0) (nI 1) (fX10_ones (nI 1)) (nI i, xx, w) ↔ tw (nI s1) (nI s2) un zX z zS (nI W) (nI to) u4 u5 u7 (nI i, zz, m)) ∧
    (t7 bs str (nI to) isM isX sp (nI W) xf xe xl (nI 0) (nI 1) (fX10_ones (nI 1)) (nI i, xx, w) → ∃ x2 w2 z2 m2, b7 bs str (nI to) isS isM isX c mo sp (nI d) (nI W) (fX10_ones (nI W)) xf xe xl (nI 0) (nI 1) (fX10_ones (nI 1)) (nI i, xx, w) = (nI (i + 1), x2, w2) ∧ bw c vt (nI d) (nI s1) (nI s2) un zX z zS u1 (nI W) (nI to) u4 u5 u7 (nI i, zz, m) = (nI (i + 1), z2, m2) ∧ Rl (d * 128) W st z (i + 1) x2 z2 ∧ SyM w2 m2 ∧ (¬ isS = 0 → x2 = x ∧ z2 = z)) := by
  have hle := hW.le
  obtain ⟨hN, hN8⟩ := hW.N
  have hd8 := div8 hW
  have hlt : ¬ nI to ≤ nI i := nI_ge hi (by omega)
  have hiW : i * W + W ≤ to * W := by
    have := Nat.mul_le_mul_right W (show i + 1 ≤ to by omega)
    rw [Nat.add_mul, Nat.one_mul] at this; exact this
  have hnext : nI i + (1 : Int32) = nI (i + 1) := by rw [show (1 : Int32) = nI 1 by decide, nI_add]
  have hadm := admits_fails hP (eX11_walks_80 (nI s1) (nI s2) zX z u4 u7 (nI i)) hN
  -- the access itself
  have hacc : ∀ A, eX11_walks_80 (nI s1) (nI s2) zX z u4 u7 (nI i) = nI A → A + W / 8 ≤ 1024 → Rl (d * 128) W st z (i + 1) (fX7_move__xV isS xx w (nI d) (nI W) (fX10_ones (nI W)) (nI i) (nI A)) (fX11_access__zV zz m u1 (nI d) (nI W) (nI i) (nI A)) ∧ SyM (fX7_move__xW isS xx w (nI d) (nI W) (fX10_ones (nI W)) (nI i) (nI A)) (fX11_access__zM z m u1 (nI d) (nI W) (nI i) (nI A)) ∧ (¬ isS = 0 → fX7_move__xV isS xx w (nI d) (nI W) (fX10_ones (nI W)) (nI i) (nI A) = x ∧ fX11_access__zV zz m u1 (nI d) (nI W) (nI i) (nI A) = z) := by
    intro A hA hA2
    unfold fX7_move__xV pX7_move_55_xV fX7_move__xW pX7_move_55_xW fX11_access__zV fX11_access__zM
    by_cases q : isS = 0
    · have q1 : ¬ u1 = 0 := hS.mp q
      rw [if_pos q, if_pos q, if_neg q1, if_neg q1]
      refine ⟨hR.put hW hsi (by omega) (fun j _ => ?_), hM, fun w => absurd q w⟩
      rw [hM.load hW hA2]
    · have q1 : u1 = 0 := Classical.byContradiction (fun w => q (hS.mpr w))
      obtain ⟨rfl, rfl⟩ := hst q
      rw [if_neg q, if_neg q, if_pos q1, if_pos q1]
      exact ⟨⟨hR.1, hR.2.skip⟩, hM.store hW hA2 (h0.el hW (by omega)), fun _ => ⟨rfl, rfl⟩⟩
  have hgo : ¬ fX6_admits sp (eX11_walks_80 (nI s1) (nI s2) zX z u4 u7 (nI i)) (nI (W / 8)) = 0 → ∃ A, eX11_walks_80 (nI s1) (nI s2) zX z u4 u7 (nI i) = nI A ∧ A + W / 8 ≤ 1024 := by
    intro q
    obtain ⟨A, e, h1, _⟩ := (admits_iff hP _ hN).mp q
    exact ⟨A, e, h1⟩
  -- the two ways
  have hway : ∀ (P Q : Prop), (P ↔ ¬ fX6_admits sp (eX11_walks_80 (nI s1) (nI s2) zX z u4 u7 (nI i)) (nI (W / 8)) = 0) → (Q ↔ fX11_fails zS (eX11_walks_80 (nI s1) (nI s2) zX z u4 u7 (nI i)) (nI (W / 8)) = 0) → (P ↔ Q) := by
    intro P Q h1 h2
    rw [h1, h2, hadm, Classical.not_not]
  unfold t7 tw b7 bw
  dsimp only
  unfold tX7_transfer_24 tX11_walks_6 bX7_transfer_24_L1 bX7_transfer_24_xV bX7_transfer_24_xW bX11_walks_6_L8 bX11_walks_6_zV bX11_walks_6_zM
  simp only [if_neg hlt, haddr, hd8]
  by_cases qM : isM = 0
  · have qu : ¬ un = 0 := hmu.mp qM
    have ha : ¬ fX11_isActive un z (nI i) = 0 := by
      unfold fX11_isActive pX11_isActive_21_S1
      rw [if_neg qu]; decide
    simp only [if_pos qM, if_neg ha, ite_self]
    by_cases qa : fX6_admits sp (eX11_walks_80 (nI s1) (nI s2) zX z u4 u7 (nI i)) (nI (W / 8)) = 0
    · have qf := hadm.mp qa
      simp only [if_pos qa, if_neg qf]
      exact ⟨trivial, fun w => absurd w id⟩
    · have qf : fX11_fails zS (eX11_walks_80 (nI s1) (nI s2) zX z u4 u7 (nI i)) (nI (W / 8)) = 0 := Classical.byContradiction (fun w => qa (hadm.mpr w))
      simp only [if_neg qa, if_pos qf, hnext]
      obtain ⟨A, e, hA⟩ := hgo qa
      obtain ⟨k1, k2, k3⟩ := hacc A e hA
      refine ⟨trivial, fun _ => ⟨_, _, _, _, rfl, rfl, ?_, ?_, ?_⟩⟩
      · rw [e]; exact k1
      · rw [e]; exact k2
      · rw [e]; exact k3
  · have qu : un = 0 := Classical.byContradiction (fun w => qM (hmu.mpr w))
    have q5 : u5 = 0 := Classical.byContradiction (fun w => qM (h5 w))
    have hel := hmask qM
    have hact : fX11_isActive un z (nI i) = 0 ↔ fX11_bit z (0 : Int32) (nI i) = 0 := by
      unfold fX11_isActive pX11_isActive_21_S1
      rw [if_pos qu]
      by_cases q : fX11_bit z (0 : Int32) (nI i) = 0
      · simp [q]
      · simp [q]
    simp only [if_neg qM, if_pos q5]
    by_cases qb : fX11_bit z (0 : Int32) (nI i) = 0
    · have e1 : fX2_element (nI 0) (nI 1) (fX10_ones (nI 1)) xx (nI i) = 0 := by rw [hel, if_pos qb]
      have e2 := hact.mpr qb
      simp only [if_pos e1, if_pos e2, hnext]
      refine ⟨trivial, fun _ => ⟨_, _, _, _, rfl, rfl, ?_, hM, ?_⟩⟩
      · unfold fX7_passOver__xV pX7_passOver_28_xV pX11_walks_141_zV
        by_cases q : isS = 0
        · have q1 : ¬ u1 = 0 := hS.mp q
          rw [if_pos q, if_neg q1, hmo]
          exact hR.msk hW hsi (by omega) c vt
        · have q1 : u1 = 0 := Classical.byContradiction (fun w => q (hS.mpr w))
          rw [if_neg q, if_pos q1]
          exact ⟨hR.1, hR.2.skip⟩
      · intro q
        have q1 : u1 = 0 := Classical.byContradiction (fun w => q (hS.mpr w))
        unfold fX7_passOver__xV pX7_passOver_28_xV pX11_walks_141_zV
        rw [if_neg q, if_pos q1]
        exact hst q
    · have e1 : ¬ fX2_element (nI 0) (nI 1) (fX10_ones (nI 1)) xx (nI i) = 0 := by rw [hel, if_neg qb]; decide
      have e2 : ¬ fX11_isActive un z (nI i) = 0 := fun w => qb (hact.mp w)
      simp only [if_neg e1, if_neg e2]
      by_cases qa : fX6_admits sp (eX11_walks_80 (nI s1) (nI s2) zX z u4 u7 (nI i)) (nI (W / 8)) = 0
      · have qf := hadm.mp qa
        simp only [if_pos qa, if_neg qf]
        exact ⟨trivial, fun w => absurd w id⟩
      · have qf : fX11_fails zS (eX11_walks_80 (nI s1) (nI s2) zX z u4 u7 (nI i)) (nI (W / 8)) = 0 := Classical.byContradiction (fun w => qa (hadm.mpr w))
        simp only [if_neg qa, if_pos qf, hnext]
        obtain ⟨A, e, hA⟩ := hgo qa
        obtain ⟨k1, k2, k3⟩ := hacc A e hA
        refine ⟨trivial, fun _ => ⟨_, _, _, _, rfl, rfl, ?_, ?_, ?_⟩⟩
        · rw [e]; exact k1
        · rw [e]; exact k2
        · rw [e]; exact k3
