/-! ===== step ===== -/
theorem old_gen {z zO : Nat → Int32} {N : Nat} (h5 : (512 : Int32) = nI N) (hN : N < 2 ^ 31) (h : ∀ k, N ≤ k → zO k = z k) : LX11_step_147 z N (nI 0, zO) = (nI N, z) := by
  rw [itX11_step_147 (b9 := N) z h5 hN N 0 zO (by omega)]
  have key := itr_rel (fun i (s t : Nat → Int32) => ∀ k, (k < i ∨ N ≤ k) → s k = z k) (fun k s => (upd s (Int32.toNatClampNeg (nI k)) (z (Int32.toNatClampNeg (nI k))))) (fun k s => s) N 0 zO zO (by
    intro i s t _ hi hs k hk
    show upd s (Int32.toNatClampNeg (nI i)) (z (Int32.toNatClampNeg (nI i))) k = z k
    rw [nI_clamp (by omega)]
    by_cases e : k = i
    · rw [e]; exact pk_us
    · rw [pk_un e]; exact hs k (by omega)) (by
    intro k hk
    rcases hk with hk | hk
    · omega
    · exact h k hk)
  have e : itr (fun k s => (upd s (Int32.toNatClampNeg (nI k)) (z (Int32.toNatClampNeg (nI k))))) N 0 zO = z := funext (fun k => key k (by omega))
  rw [e, Nat.zero_add]
theorem old_eq {z zO : Nat → Int32} (h : ∀ k, 512 ≤ k → zO k = z k) : LX11_step_147 z (kN 512) (0, zO) = (nI 512, z) ∧ KX11_step_147 z (kN 512) (0, zO) := by
  have h5 : (512 : Int32) = nI 512 := by decide
  rw [kN_eq, ← nI_0]
  exact ⟨old_gen h5 (by decide) h, ktX11_step_147 (b9 := 512) z h5 (by omega) (fun _ _ => True) (fun a w _ ha => ⟨fun _ => vp_in_nI ha (by decide), True.intro⟩) 512 0 zO (by omega) True.intro⟩
def MID (a b ln ln2 sr sr2 sat sat2 tr tr2 vt tb ts te tm tt tk : Int32) (xS zX x z w m : Nat → Int32) : Prop := a = b ∧ (b = 0 ∨ b = 1 ∨ b = 2) ∧ ln = ln2 ∧ sr = sr2 ∧ sat = sat2 ∧ tr = tr2 ∧ TI vt tb ts te tm tt tk ∧ (∃ L, ln2 = nI L ∧ VLok vt L) ∧ (∃ s, sr2 = nI s ∧ s < 128) ∧ SX xS zX ∧ Sy x z ∧ SyM w m
def Rel (dn il tp ln sr rd sat : Int32) (c : Int64) (tb ts te tm tt tk : Int32) (xS x : Nat → Int32) (sp : Int32) (w : Nat → Int32) (tr : Int32) (dn2 il2 tp2 ln2 sr2 rd2 sat2 : Int32) (c2 : Int64) (vt : Int32) (zX z m zS : Nat → Int32) (tr2 : Int32) : Prop :=
  dn = dn2 ∧ il = il2 ∧ tp = tp2 ∧ ln = ln2 ∧ sr = sr2 ∧ rd = rd2 ∧ sat = sat2 ∧ c = c2 ∧ tr = tr2 ∧ TI vt tb ts te tm tt tk ∧ (∃ L, ln2 = nI L ∧ VLok vt L) ∧ (∃ s, sr2 = nI s ∧ s < 128) ∧ (∃ k, rd2 = nI k ∧ k < 4) ∧ SX xS zX ∧ Sy x z ∧ SyM w m ∧ SyP sp zS
theorem MID.rel {a b ln ln2 sr sr2 sat sat2 tr tr2 vt tb ts te tm tt tk : Int32} {xS zX x z w m : Nat → Int32} (h : MID a b ln ln2 sr sr2 sat sat2 tr tr2 vt tb ts te tm tt tk xS zX x z w m) (dn il tp : Int32) {md : Nat} (hmd : md < 4) (c : Int64) {sp : Int32} {zS : Nat → Int32} (hP : SyP sp zS) :
    Rel (if a = 0 then dn + 1 else dn) (if a = 0 then il else (if a = 1 then il + 1 else il)) (if a = 0 then tp else (if a = 1 then tp else tp + 1)) ln (if a = 0 then 0 else sr) (nI md) sat c tb ts te tm tt tk xS x sp w tr (if b = 0 then dn + 1 else dn) (if b = 1 then il + 1 else il) (if b = 2 then tp + 1 else tp) ln2 (if b = 0 then 0 else sr2) (nI md) sat2 c vt zX z m zS tr2 := by
  obtain ⟨e1, e2, e3, e4, e5, e6, e7, e8, e9, e10, e11, e12⟩ := h
  subst e1
  rcases e2 with h | h | h
  · subst h
    exact ⟨rfl, rfl, rfl, e3, rfl, rfl, e5, rfl, e6, e7, e8, ⟨0, by rw [if_pos rfl]; decide, by decide⟩, ⟨md, rfl, hmd⟩, e10, e11, e12, hP⟩
  · subst h
    exact ⟨rfl, rfl, rfl, e3, e4, rfl, e5, rfl, e6, e7, e8, e9, ⟨md, rfl, hmd⟩, e10, e11, e12, hP⟩
  · subst h
    exact ⟨rfl, rfl, rfl, e3, e4, rfl, e5, rfl, e6, e7, e8, e9, ⟨md, rfl, hmd⟩, e10, e11, e12, hP⟩
theorem TI.MS {vt tb ts te tm tt tk : Int32} (hT : TI vt tb ts te tm tt tk) : MS vt (pX11_step_119_S2 vt) (pX11_step_142_S2 vt) := by
  obtain ⟨_, h⟩ := hT
  unfold pX11_step_119_S2 pX11_step_142_S2
  rcases h with ⟨h, _⟩ | ⟨v, hv, hl, e, _⟩
  · rw [h]; exact Or.inl ⟨rfl, by decide, by decide⟩
  · have hr := ty_ref v hv hl
    rw [e, if_pos (isIll_v v hv).2, if_pos (isIll_v v hv).2, hr.1, hr.2.1]
    exact Or.inr ⟨v, hv, hl, rfl, rfl, rfl⟩
theorem ty_all2 {vt ms ml tb ts te tm tt tk : Int32} (hT : TI vt tb ts te tm tt tk) (hMS : MS vt ms ml) {L : Nat} (hL : VLok vt L) (hi : fX11_isIll vt = 0) : ∃ S E, (S, E) ∈ PE ∧ ms = nI S ∧ ml = nI E ∧ ts = nI S ∧ te = nI E ∧ L ≤ 16 * E / S ∧ L ≤ 128 ∧ tt = fX11_isTailOpen vt ∧ tk = fX11_isMaskOpen vt ∧ S ∈ eews ∧ okB S ∧ tm = nI (16 * E / S) ∧ fX11_vlmax vt = nI (16 * E / S) ∧ 2 * S ∈ eews ∧ gE S E S = E ∧ fX11_registers (nI E) = nI (gN S E S) ∧ okX11_most vt ∧ fX9_isIll tb = 0 := by
  obtain ⟨S, E, h1, h2, h3, h4, h5, h6, h7, h8, h9, h10, h11⟩ := ty_all hT hMS hL hi
  have hE : gE S E S = E := by
    unfold gE
    exact Nat.mul_div_cancel E (by have := h11.le; omega)
  have hreg := (G1 h1 h10).2.2.2.1
  rw [hE] at hreg
  have hok := ok_most (TI.kind hT)
  obtain ⟨e, h⟩ := hT
  rcases h with ⟨h, _⟩ | ⟨v, hv, hl, e0, e1, e2, e3, _, _⟩
  · rw [h] at hi; exact absurd hi (by decide)
  · have hn := ty_nums v hv hl
    have hS : S = tyS v := (nI_eq (by have := h11.le; omega) (by rcases hn.1 with w | w | w <;> rw [w] <;> decide)).mp (h4.symm.trans e1)
    have hEE : E = tyE v := (nI_eq (by have : ∀ p ∈ PE, p.2 < 2 ^ 31 := by decide
                                       exact this (S, E) h1) (by have := hn.2.2.1; omega)).mp (h5.symm.trans e2)
    refine ⟨S, E, h1, h2, h3, h4, h5, h6, h7, h8, h9, h10, h11, ?_, ?_, ?_, hE, hreg, hok, ?_⟩
    · rw [e3, hS, hEE]; rfl
    · rw [show fX11_vlmax vt = fX11_most vt from rfl, e0, (ty_ref v hv hl).2.2.1, hS, hEE]; rfl
    · rcases h11 with w | w | w <;> rw [w] <;> decide
    · rw [e, e0]; exact (isIll_v v hv).1
theorem boolN {b : Int32} (h : b = 0 ∨ b = 1) : narrow .boolean (.int b) = .int b := by
  rcases h with h | h <;> subst h <;> rfl
theorem lanes_eq {vt ms ml tb ts te tm tt tk : Int32} (hT : TI vt tb ts te tm tt tk) (hMS : MS vt ms ml) {L st md : Nat} (hL : VLok vt L) (hst : st < 128) (hmd : md < 4) {x z xS zX : Nat → Int32} (h0 : Sy x z) (hX : SX xS zX) (sat : Int32) (c : Int64) {F im un : Int32} {d s1 s2 hh : Nat} (hd : d < 32) (h1 : s1 < 32) (h2 : s2 < 32) (hh64 : hh < 64) (hF : F = 0 ∨ F = 1 ∨ F = 2 ∨ F = 3 ∨ F = 4 ∨ F = 5 ∨ F = 6) (hmu : im = 0 ↔ ¬ un = 0) (him : narrow .boolean (.int im) = .int im) (rf re r8 rg : Int32) (rl : Int64) :
    fX4_execute (nI st) tb ts te rf re r8 rg (nI 0) (nI 1) F (nI d) (nI s1) (nI s2) (nI hh) im = (if fX11_isIll vt = 0 then (if fX11_works (nI st) (nI d) (nI s1) (nI s2) F (nI hh) ms ml un = 0 then 1 else 0) else 1) ∧ Sy (fX4_execute__xV (nI L) (nI st) (nI md) sat c tb ts te tm tt tk xS x rf re r8 rg rl (nI 0) (nI 1) (nI 1) (fX10_ones (nI 1)) F (nI d) (nI s1) (nI s2) (nI hh) im) (if fX11_isIll vt = 0 then fX11_works__zV c (nI L) vt (nI st) (nI md) sat (nI d) (nI s1) (nI s2) F (nI hh) ms ml un zX z z else z) ∧ fX4_execute__r_saturated (nI L) (nI st) (nI md) sat c tb ts te tm tk xS x rf re r8 rg rl (nI 0) (nI 1) (nI 1) (fX10_ones (nI 1)) F (nI d) (nI s1) (nI s2) (nI hh) im = (if fX11_isIll vt = 0 then fX11_works__m_vxsat c (nI L) vt (nI st) (nI md) sat (nI d) (nI s1) (nI s2) F (nI hh) ms ml un zX z z else sat) ∧ SX (fX4_execute__xS (nI L) (nI st) tb ts xS x (nI 0) (nI 1) (fX10_ones (nI 1)) F (nI d) (nI s1) (nI s2) (nI hh) im) (if fX11_isIll vt = 0 then fX11_works__zX (nI L) (nI st) (nI d) (nI s1) (nI s2) F (nI hh) ms un zX z else zX) ∧ okX4_execute (nI L) (nI st) (nI md) sat c tb ts te tm tk xS x rf re r8 rg rl (nI 0) (nI 1) (nI 1) (fX10_ones (nI 1)) F (nI d) (nI s1) (nI s2) (nI hh) im ∧ (fX11_isIll vt = 0 → okX11_works c (nI L) vt (nI st) (nI md) sat (nI d) (nI s1) (nI s2) F (nI hh) ms ml un zX z z) := by
  by_cases hi : fX11_isIll vt = 0
  · obtain ⟨S, E, hp, e1, e2, e3, e4, hLM, hL128, e5, e6, hSe, hSB, e7, hvm, h2e, hE, hreg, hmo, hill⟩ := ty_all2 hT hMS hL hi
    subst e1 e2 e3 e4 e5 e6 e7
    simp only [if_pos hi]
    have hHR : HR S E L st d s1 s2 vt z := ⟨hp, hSB, hSe, h2e, hd, h1, h2, hLM, hL128, hst, h0.1, hreg, hmo, hvm⟩
    have okw := ok_works hHR c (nI md) sat F (nI hh) un zX
    by_cases hF5 : okF F
    · have hHY : HY S E L st d s1 s2 md F im un tb x z xS zX := ⟨hp, hSB, hSe, h2e, hd, h1, h2, hLM, hL128, hst, hmd, hF5, hmu, hill, him, h0, hX, hreg, hE⟩
      have W : WK S E L st d s1 s2 md F (nI hh) im un tb x z xS zX vt sat c rf re r8 rg rl := by
        rcases hF5 with e | e | e | e | e
        · subst e; exact wF0 hHY hvm sat c rf re r8 rg rl hh hh64
        · subst e; exact wF2 hHY hvm sat c rf re r8 rg rl hh hh64
        · subst e; exact wF3 hHY hvm sat c rf re r8 rg rl hh hh64
        · subst e; exact wF4 hHY hvm sat c rf re r8 rg rl hh hh64
        · subst e; exact wF6 hHY hvm sat c rf re r8 rg rl hh hh64
      obtain ⟨⟨a1, a2, a3, a4⟩, a5⟩ := W
      exact ⟨a1, a2, a3, a4, a5, fun _ => okw⟩
    · have hF15 : F = 1 ∨ F = 5 := by
        rcases hF with e | e | e | e | e | e | e
        · exact absurd (Or.inl e) hF5
        · exact Or.inl e
        · exact absurd (Or.inr (Or.inl e)) hF5
        · exact absurd (Or.inr (Or.inr (Or.inl e))) hF5
        · exact absurd (Or.inr (Or.inr (Or.inr (Or.inl e)))) hF5
        · exact Or.inr e
        · exact absurd (Or.inr (Or.inr (Or.inr (Or.inr e)))) hF5
      have hk : fX1_kindOf F (nI s1) (nI s2) (nI hh) im = 0 := by
        refine kd_none ?_
        have e : fX1_formBit F = 0 := by rcases hF15 with e | e <;> rw [e] <;> decide
        rw [e]
        have : ∀ a : Int32, a &&& 0 = 0 := by
          intro a
          exact Int32.toBitVec_inj.mp (BitVec.and_zero)
        exact this _
      have n0 : ¬ F = 0 ∧ ¬ F = 3 ∧ ¬ F = 4 ∧ ¬ F = 2 ∧ ¬ F = 6 := by rcases hF15 with e | e <;> rw [e] <;> decide
      obtain ⟨n0, n3, n4, n2, n6⟩ := n0
      unfold fX4_execute fX4_execute__xV fX4_execute__r_saturated fX4_execute__xS fX11_works fX11_works__zV fX11_works__m_vxsat fX11_works__zX
      simp only [if_pos hk, if_neg n0, if_neg n3, if_neg n4, if_neg n2, if_neg n6, if_true]
      exact ⟨trivial, h0, trivial, hX, ⟨ok_kind _ _ _ _ _ him, fun w => absurd hk w, fun w => absurd hk w, fun w => absurd hk w, fun w => absurd hk w, fun w => absurd hk w, fun w => absurd hk w, fun w => absurd hk w, fun w => absurd hk w⟩, fun _ => okw⟩
  · have hi9 : ¬ fX9_isIll tb = 0 := by
      intro w
      obtain ⟨e, h⟩ := hT
      rcases h with ⟨h, _⟩ | ⟨v, hv, _, h, _⟩
      · rw [e, h] at w; exact absurd w (by decide)
      · rw [h] at hi; exact hi (isIll_v v hv).2
    unfold fX4_execute fX4_execute__xV fX4_execute__r_saturated fX4_execute__xS
    simp only [if_neg hi, if_neg hi9, ite_self]
    exact ⟨trivial, h0, trivial, hX, ⟨ok_kind _ _ _ _ _ him, fun _ w => absurd w hi9, fun _ w => absurd w hi9, fun _ w => absurd w hi9, fun _ w => absurd w hi9, fun _ w => absurd w hi9, fun _ w => absurd w hi9, fun _ w => absurd w hi9, fun _ w => absurd w hi9⟩, fun w => absurd w hi⟩
theorem sets_ans (u : Int32) : fX11_sets u = 0 ∨ fX11_sets u = 1 ∨ fX11_sets u = 2 := by
  unfold fX11_sets
  repeat' split
  all_goals first | exact Or.inl rfl | exact Or.inr (Or.inl rfl)
theorem step_eq {vt tb ts te tm tt tk : Int32} (hT : TI vt tb ts te tm tt tk) {L st md : Nat} (hL : VLok vt L) (hst : st < 128) (hmd : md < 4) {x z zO w m xS zX zS : Nat → Int32} {sp : Int32} (h0 : Sy x z) (hM : SyM w m) (hX : SX xS zX) (hP : SyP sp zS) (hO : ∀ k, 512 ≤ k → zO k = z k) (dn il tp sat tr : Int32) (c : Int64) (u rf re r8 rg df de dg xf xe : Int32) (rl dl xl : Int64) :
    fX10_step (nI L) (nI st) c tb ts te tk xS x sp w rf re r8 rg (nI 0) (nI 1) df de dl xf xe xl (nI 0) (nI 1) (nI 1) (fX10_ones (nI 1)) u = fX11_step c (nI L) vt (nI st) zX z zO m zS u ∧
    Rel (fX10_step__q_doneCount dn (nI L) (nI st) c tb ts te tk xS x sp w rf re r8 rg (nI 0) (nI 1) df de dl xf xe xl (nI 0) (nI 1) (nI 1) (fX10_ones (nI 1)) u) (fX10_step__q_illegalCount il (nI L) (nI st) c tb ts te tk xS x sp w rf re r8 rg (nI 0) (nI 1) df de dl xf xe xl (nI 0) (nI 1) (nI 1) (fX10_ones (nI 1)) u) (fX10_step__q_trapCount tp (nI L) (nI st) c tb ts te tk xS x sp w rf re r8 rg (nI 0) (nI 1) df de dl xf xe xl (nI 0) (nI 1) (nI 1) (fX10_ones (nI 1)) u) (fX10_step__r_length (nI L) (nI st) c tb ts te tm tk xS x sp w df de dl xf xe xl (nI 0) (nI 1) (nI 1) (fX10_ones (nI 1)) u) (fX10_step__r_start (nI L) (nI st) c tb ts te tk xS x sp w rf re r8 rg (nI 0) (nI 1) df de dl xf xe xl (nI 0) (nI 1) (nI 1) (fX10_ones (nI 1)) u) (nI md) (fX10_step__r_saturated (nI L) (nI st) (nI md) sat c tb ts te tm tk xS x rf re r8 rg rl (nI 0) (nI 1) (nI 1) (fX10_ones (nI 1)) u) c (fX10_step__t_bits tb tm xS u) (fX10_step__t_sew ts tm xS u) (fX10_step__t_eighths te tm xS u) (fX10_step__t_most tm xS u) (fX10_step__t_tailOpen tm tt xS u) (fX10_step__t_maskedOpen tm tk xS u) (fX10_step__xS (nI L) (nI st) c tb ts tm xS x (nI 0) (nI 1) (fX10_ones (nI 1)) u) (fX10_step__xV (nI L) (nI st) (nI md) sat c tb ts te tm tt tk xS x sp w rf re r8 rg rl (nI 0) (nI 1) (nI 1) (fX10_ones (nI 1)) df de dg dl xf xe xl (nI 0) (nI 1) (nI 1) (fX10_ones (nI 1)) u) sp (fX10_step__xW (nI L) (nI st) c tb ts te tk xS x sp w df de dl xf xe xl (nI 0) (nI 1) (nI 1) (fX10_ones (nI 1)) u) (fX10_step__o_trapAddress (nI L) (nI st) c tb ts te tk xS x sp w tr df de dl xf xe xl (nI 0) (nI 1) (nI 1) (fX10_ones (nI 1)) u) (fX11_step__m_done c (nI L) vt (nI st) dn zX z zO m zS u) (fX11_step__m_illegal c (nI L) vt (nI st) il zX z zO m zS u) (fX11_step__m_traps c (nI L) vt (nI st) tp zX z zO m zS u) (fX11_step__m_vl c (nI L) vt (nI st) zX z zO m zS u) (fX11_step__m_vstart c (nI L) vt (nI st) zX z zO m zS u) (nI md) (fX11_step__m_vxsat c (nI L) vt (nI st) (nI md) sat zX z zO u) c (fX11_step__m_vtype vt zX u) (fX11_step__zX c (nI L) vt (nI st) zX z zO u) (fX11_step__zV c (nI L) vt (nI st) (nI md) sat zX z zO m zS u) (fX11_step__zM c (nI L) vt (nI st) zX z zO m zS u) zS (fX11_step__m_trapAddress c (nI L) vt (nI st) tr zX z zO m zS u) ∧
    okX10_step (nI L) (nI st) (nI md) sat c tb ts te tm tk xS x sp w rf re r8 rg rl (nI 0) (nI 1) (nI 1) (fX10_ones (nI 1)) df de dg dl xf xe xl (nI 0) (nI 1) (nI 1) (fX10_ones (nI 1)) u ∧ okX11_step c (nI L) vt (nI st) (nI md) sat zX z zO m zS u := by
  have hd := fld_lt u 7 5
  have h1 := fld_lt u 15 5
  have h2 := fld_lt u 20 5
  have hhh := fld_lt u 26 6
  have hf := fld_lt u 12 3
  have rd : shr u 7 &&& 31 = nI (fld u 7 5) := fld_s (u := u) (k := 7) (n := 5) (by decide) (by decide)
  have rs1 : shr u 15 &&& 31 = nI (fld u 15 5) := fld_s (u := u) (k := 15) (n := 5) (by decide) (by decide)
  have rs2 : shr u 20 &&& 31 = nI (fld u 20 5) := fld_s (u := u) (k := 20) (n := 5) (by decide) (by decide)
  have rf3 : shr u 12 &&& 7 = nI (fld u 12 3) := fld_s (u := u) (k := 12) (n := 3) (by decide) (by decide)
  have rf6 : sru u 26 = nI (fld u 26 6) := c_high u
  have cm : fX3_take__i_masked u = 0 ∨ fX3_take__i_masked u = 1 := by
    rw [c_masked]
    by_cases e : fld u 25 1 = 0
    · rw [if_pos e]; exact Or.inr rfl
    · rw [if_neg e]; exact Or.inl rfl
  have hmu : fX3_take__i_masked u = 0 ↔ ¬ pX11_step_85_S2 u = 0 := by
    have r25 : shr u 25 &&& 1 = nI (fld u 25 1) := fld_s (u := u) (k := 25) (n := 1) (by decide) (by decide)
    have h25 := fld_lt u 25 1
    rw [c_masked]
    unfold pX11_step_85_S2
    rw [r25]
    by_cases e : fld u 25 1 = 0
    · rw [if_pos e, e, if_neg (by decide)]; decide
    · have e1 : fld u 25 1 = 1 := by omega
      rw [if_neg e, e1, if_pos (by decide)]; decide
  have him := boolN cm
  obtain ⟨ho, hoK⟩ := old_eq hO
  have hMS := hT.MS
  have h512 : (512 : Int32) ≤ nI 512 := by decide
  have hTr : ¬ tX11_step_147 (nI 512) z := by unfold tX11_step_147; rw [if_pos h512]; exact id
  have okmv : ∀ u1, okX11_moves c (nI L) vt (nI st) u (nI (fld u 7 5)) (nI (fld u 15 5)) (nI (fld u 20 5)) (nI (fld u 12 3)) (pX11_step_119_S2 vt) (pX11_step_142_S2 vt) (pX11_step_85_S2 u) zX z z m zS u1 := fun u1 => ok_moves hT hMS hL hst c u _ u1 _ hd h1 h2 zX z z m zS
  have PQ := port_eq hT hMS hL hst h0 hM hX hP c u (nI (fld u 12 3)) (fX3_take__i_code u) (fX3_take__i_masked u) (pX11_step_85_S2 u)
  obtain ⟨Cn, hCn, eC⟩ := lN_of c
  have SE := sets_eq u hT hCn hL hX hd h1 h2
  rw [← eC] at SE
  have key : (MID (pX10_step_99_L2 (nI L) (nI st) c tb ts te tk xS x sp w rf re r8 rg (nI 0) (nI 1) df de dl xf xe xl (nI 0) (nI 1) (nI 1) (fX10_ones (nI 1)) u) (pX11_step_277_L2 c (nI L) vt (nI st) zX z zO m zS u) (pX10_step_99_r_length (nI L) (nI st) c tb ts te tm tk xS x sp w df de dl xf xe xl (nI 0) (nI 1) (nI 1) (fX10_ones (nI 1)) u) (pX11_step_277_m_vl c (nI L) vt (nI st) zX z zO m zS u) (pX10_step_99_r_start (nI L) (nI st) c tb ts te tk xS x sp w df de dl xf xe xl (nI 0) (nI 1) (nI 1) (fX10_ones (nI 1)) u) (pX11_step_277_m_vstart c (nI L) vt (nI st) zX z zO m zS u) (pX10_step_99_r_saturated (nI L) (nI st) (nI md) sat c tb ts te tm tk xS x rf re r8 rg rl (nI 0) (nI 1) (nI 1) (fX10_ones (nI 1)) u) (pX11_step_277_m_vxsat c (nI L) vt (nI st) (nI md) sat zX z zO u) (pX10_step_99_o_trapAddress (nI L) (nI st) c tb ts te tk xS x sp w tr df de dl xf xe xl (nI 0) (nI 1) (nI 1) (fX10_ones (nI 1)) u) (pX11_step_277_m_trapAddress c (nI L) vt (nI st) tr zX z zO m zS u) (pX11_step_277_m_vtype vt zX u) (pX10_step_99_t_bits tb tm xS u) (pX10_step_99_t_sew ts tm xS u) (pX10_step_99_t_eighths te tm xS u) (pX10_step_99_t_most tm xS u) (pX10_step_99_t_tailOpen tm tt xS u) (pX10_step_99_t_maskedOpen tm tk xS u) (pX10_step_99_xS (nI L) (nI st) c tb ts tm xS x (nI 0) (nI 1) (fX10_ones (nI 1)) u) (pX11_step_277_zX c (nI L) vt (nI st) zX z zO u) (pX10_step_99_xV (nI L) (nI st) (nI md) sat c tb ts te tm tt tk xS x sp w rf re r8 rg rl (nI 0) (nI 1) (nI 1) (fX10_ones (nI 1)) df de dg dl xf xe xl (nI 0) (nI 1) (nI 1) (fX10_ones (nI 1)) u) (pX11_step_277_zV c (nI L) vt (nI st) (nI md) sat zX z zO m zS u) (pX10_step_99_xW (nI L) (nI st) c tb ts te tk xS x sp w df de dl xf xe xl (nI 0) (nI 1) (nI 1) (fX10_ones (nI 1)) u) (pX11_step_277_zM c (nI L) vt (nI st) zX z zO m zS u)) ∧ okX10_step (nI L) (nI st) (nI md) sat c tb ts te tm tk xS x sp w rf re r8 rg rl (nI 0) (nI 1) (nI 1) (fX10_ones (nI 1)) df de dg dl xf xe xl (nI 0) (nI 1) (nI 1) (fX10_ones (nI 1)) u := by
    have kc : fX3_take__i_code u = u &&& 127 := rfl
    have kb : fX3_take__i_bits u = u := rfl
    by_cases q7 : u &&& 127 = 7
    · have q7' : fX3_take__i_code u = 7 := q7
      obtain ⟨⟨b1, b2, b3, b4, b5, b6, b7, b8⟩, b9⟩ := PQ 1 hd h1 h2 (by rw [q7']; decide) hmu him tr df de dg dl xf xe xl
      refine ⟨?_, ?_⟩
      · simp only [pX10_step_99_L2, pX10_step_99_r_length, pX10_step_99_r_start, pX10_step_99_r_saturated, pX10_step_99_o_trapAddress, pX10_step_99_t_bits, pX10_step_99_t_sew, pX10_step_99_t_eighths, pX10_step_99_t_most, pX10_step_99_t_tailOpen, pX10_step_99_t_maskedOpen, pX10_step_99_xS, pX10_step_99_xV, pX10_step_99_xW, pX11_step_277_L2, pX11_step_277_m_vl, pX11_step_277_m_vstart, pX11_step_277_m_vxsat, pX11_step_277_m_trapAddress, pX11_step_277_m_vtype, pX11_step_277_zX, pX11_step_277_zV, pX11_step_277_zM, if_pos q7, if_pos q7', eX10_step_45, eX11_step_264, c_rd, c_form, c_rs1, c_rs2, kb, rd, rs1, rs2, rf3, ho]
        obtain ⟨l, s, l1, l2, l3, l4⟩ := b7
        obtain ⟨M, m1, m2, m3⟩ := hL
        exact ⟨b1, b8, b2, b3, rfl, b4, hT, ⟨l, l1, M, m1, m2, by omega⟩, ⟨s, l3, l4⟩, hX, b5, b6⟩
      · refine ⟨fun _ => ?_, fun q => absurd q7' q, fun q => absurd q7' q, fun q => absurd q7' q⟩
        rw [c_rd, c_form, c_rs1, c_rs2]; exact b9
    · have q7' : ¬ fX3_take__i_code u = 7 := q7
      by_cases q39 : u &&& 127 = 39
      · have q39' : fX3_take__i_code u = 39 := q39
        obtain ⟨⟨b1, b2, b3, b4, b5, b6, b7, b8⟩, b9⟩ := PQ 0 hd h1 h2 (by rw [q39']; decide) hmu him tr df de dg dl xf xe xl
        refine ⟨?_, ?_⟩
        · simp only [pX10_step_99_L2, pX10_step_99_r_length, pX10_step_99_r_start, pX10_step_99_r_saturated, pX10_step_99_o_trapAddress, pX10_step_99_t_bits, pX10_step_99_t_sew, pX10_step_99_t_eighths, pX10_step_99_t_most, pX10_step_99_t_tailOpen, pX10_step_99_t_maskedOpen, pX10_step_99_xS, pX10_step_99_xV, pX10_step_99_xW, pX11_step_277_L2, pX11_step_277_m_vl, pX11_step_277_m_vstart, pX11_step_277_m_vxsat, pX11_step_277_m_trapAddress, pX11_step_277_m_vtype, pX11_step_277_zX, pX11_step_277_zV, pX11_step_277_zM, if_neg q7, if_neg q7', if_pos q39, if_pos q39', eX10_step_45, eX11_step_273, c_rd, c_form, c_rs1, c_rs2, kb, rd, rs1, rs2, rf3, ho]
          obtain ⟨l, s, l1, l2, l3, l4⟩ := b7
          obtain ⟨M, m1, m2, m3⟩ := hL
          exact ⟨b1, b8, b2, b3, rfl, b4, hT, ⟨l, l1, M, m1, m2, by omega⟩, ⟨s, l3, l4⟩, hX, b5, b6⟩
        · refine ⟨fun q => absurd q q7', fun _ _ => ?_, fun _ q => absurd q39' q, fun _ q => absurd q39' q⟩
          rw [c_rd, c_form, c_rs1, c_rs2]; exact b9
      · have q39' : ¬ fX3_take__i_code u = 39 := q39
        by_cases q87 : u &&& 127 = 87
        · have q87' : fX3_take__i_code u = 87 := q87
          by_cases qf : nI (fld u 12 3) = 7
          · have qf' : fX3_take__i_form u = 7 := by rw [c_form]; exact qf
            have qr : shr u 12 &&& 7 = 7 := rf3.trans qf
            obtain ⟨s1, s2, s3, s4, ⟨L2, s5, s6, s7⟩, s8⟩ := SE
            refine ⟨?_, ?_⟩
            · simp only [pX10_step_99_L2, pX10_step_99_r_length, pX10_step_99_r_start, pX10_step_99_r_saturated, pX10_step_99_o_trapAddress, pX10_step_99_t_bits, pX10_step_99_t_sew, pX10_step_99_t_eighths, pX10_step_99_t_most, pX10_step_99_t_tailOpen, pX10_step_99_t_maskedOpen, pX10_step_99_xS, pX10_step_99_xV, pX10_step_99_xW, pX11_step_277_L2, pX11_step_277_m_vl, pX11_step_277_m_vstart, pX11_step_277_m_vxsat, pX11_step_277_m_trapAddress, pX11_step_277_m_vtype, pX11_step_277_zX, pX11_step_277_zV, pX11_step_277_zM, eX10_step_98, pX10_step_98_S1, pX10_step_98_r_length, pX10_step_98_r_saturated, pX10_step_98_t_bits, pX10_step_98_t_sew, pX10_step_98_t_eighths, pX10_step_98_t_most, pX10_step_98_t_tailOpen, pX10_step_98_t_maskedOpen, pX10_step_98_xS, pX10_step_98_xV, pX11_step_255_S1, pX11_step_255_m_vl, pX11_step_255_m_vtype, pX11_step_255_m_vxsat, pX11_step_255_zX, pX11_step_255_zV, if_neg q7, if_neg q7', if_neg q39, if_neg q39', if_pos q87, if_pos q87', if_pos qf', if_pos qr, if_pos qf, c_rd, c_rs1, c_rs2, kb, rd, rs1, rs2]
              refine ⟨s1, ?_, by rw [s6, s7], rfl, rfl, rfl, s4, ⟨L2, s7, s5⟩, ⟨st, rfl, hst⟩, s8, h0, hM⟩
              exact sets_ans u
            · refine ⟨fun q => absurd q q7', fun _ q => absurd q q39', fun _ _ _ _ => ?_, fun _ _ _ q => absurd qf' q⟩
              rw [c_rd, c_rs1, c_rs2]; exact s2
          · have qf' : ¬ fX3_take__i_form u = 7 := by rw [c_form]; exact qf
            have qr : ¬ shr u 12 &&& 7 = 7 := by rw [rf3]; exact qf
            have hF : nI (fld u 12 3) = 0 ∨ nI (fld u 12 3) = 1 ∨ nI (fld u 12 3) = 2 ∨ nI (fld u 12 3) = 3 ∨ nI (fld u 12 3) = 4 ∨ nI (fld u 12 3) = 5 ∨ nI (fld u 12 3) = 6 := by
              have : ∀ k, k < 2 ^ 3 → ¬ nI k = 7 → nI k = 0 ∨ nI k = 1 ∨ nI k = 2 ∨ nI k = 3 ∨ nI k = 4 ∨ nI k = 5 ∨ nI k = 6 := by decide +kernel
              exact this _ hf qf
            obtain ⟨a1, a2, a3, a4, a5, _⟩ := lanes_eq hT hMS hL hst hmd h0 hX sat c hd h1 h2 hhh hF hmu him rf re r8 rg rl
            refine ⟨?_, ?_⟩
            · simp only [pX10_step_99_L2, pX10_step_99_r_length, pX10_step_99_r_start, pX10_step_99_r_saturated, pX10_step_99_o_trapAddress, pX10_step_99_t_bits, pX10_step_99_t_sew, pX10_step_99_t_eighths, pX10_step_99_t_most, pX10_step_99_t_tailOpen, pX10_step_99_t_maskedOpen, pX10_step_99_xS, pX10_step_99_xV, pX10_step_99_xW, pX11_step_277_L2, pX11_step_277_m_vl, pX11_step_277_m_vstart, pX11_step_277_m_vxsat, pX11_step_277_m_trapAddress, pX11_step_277_m_vtype, pX11_step_277_zX, pX11_step_277_zV, pX11_step_277_zM, eX10_step_98, pX10_step_98_S1, pX10_step_98_r_length, pX10_step_98_r_saturated, pX10_step_98_t_bits, pX10_step_98_t_sew, pX10_step_98_t_eighths, pX10_step_98_t_most, pX10_step_98_t_tailOpen, pX10_step_98_t_maskedOpen, pX10_step_98_xS, pX10_step_98_xV, pX11_step_255_S1, pX11_step_255_m_vl, pX11_step_255_m_vtype, pX11_step_255_m_vxsat, pX11_step_255_zX, pX11_step_255_zV, if_neg q7, if_neg q7', if_neg q39, if_neg q39', if_pos q87, if_pos q87', if_neg qf', if_neg qr, if_neg qf, c_rd, c_form, c_rs1, c_rs2, c_high, kb, rd, rs1, rs2, rf3, rf6, ho]
              refine ⟨a1, ?_, rfl, rfl, a3, rfl, hT, ⟨L, rfl, hL⟩, ⟨st, rfl, hst⟩, a4, a2, hM⟩
              by_cases w1 : fX11_isIll vt = 0
              · rw [if_pos w1]
                split
                · exact Or.inr (Or.inl rfl)
                · exact Or.inl rfl
              · rw [if_neg w1]; exact Or.inr (Or.inl rfl)
            · refine ⟨fun q => absurd q q7', fun _ q => absurd q q39', fun _ _ _ q => absurd q qf', fun _ _ _ _ => ?_⟩
              rw [c_rd, c_form, c_rs1, c_rs2, c_high]; exact a5
        · have q87' : ¬ fX3_take__i_code u = 87 := q87
          refine ⟨?_, fun q => absurd q q7', fun _ q => absurd q q39', fun _ _ q => absurd q q87', fun _ _ q => absurd q q87'⟩
          simp only [pX10_step_99_L2, pX10_step_99_r_length, pX10_step_99_r_start, pX10_step_99_r_saturated, pX10_step_99_o_trapAddress, pX10_step_99_t_bits, pX10_step_99_t_sew, pX10_step_99_t_eighths, pX10_step_99_t_most, pX10_step_99_t_tailOpen, pX10_step_99_t_maskedOpen, pX10_step_99_xS, pX10_step_99_xV, pX10_step_99_xW, pX11_step_277_L2, pX11_step_277_m_vl, pX11_step_277_m_vstart, pX11_step_277_m_vxsat, pX11_step_277_m_trapAddress, pX11_step_277_m_vtype, pX11_step_277_zX, pX11_step_277_zV, pX11_step_277_zM, if_neg q7, if_neg q7', if_neg q39, if_neg q39', if_neg q87, if_neg q87']
          exact ⟨rfl, Or.inr (Or.inl rfl), rfl, rfl, rfl, rfl, hT, ⟨L, rfl, hL⟩, ⟨st, rfl, hst⟩, hX, h0, hM⟩
  obtain ⟨mid, okc⟩ := key
  refine ⟨mid.1, ?_, okc, ?_⟩
  · have r := mid.rel dn il tp hmd c hP
    exact r
  · unfold okX11_step
    rw [ho, rd, rs1, rs2, rf3, rf6]
    refine ⟨hoK, hTr, fun _ _ => okmv 1, fun _ _ _ => okmv 0, fun _ _ _ _ _ => SE.2.2.1, fun _ _ _ _ qf hi => ?_, fun q => absurd h512 q⟩
    have hF : nI (fld u 12 3) = 0 ∨ nI (fld u 12 3) = 1 ∨ nI (fld u 12 3) = 2 ∨ nI (fld u 12 3) = 3 ∨ nI (fld u 12 3) = 4 ∨ nI (fld u 12 3) = 5 ∨ nI (fld u 12 3) = 6 := by
      have : ∀ k, k < 2 ^ 3 → ¬ nI k = 7 → nI k = 0 ∨ nI k = 1 ∨ nI k = 2 ∨ nI k = 3 ∨ nI k = 4 ∨ nI k = 5 ∨ nI k = 6 := by decide +kernel
      exact this _ hf qf
    exact (lanes_eq hT hMS hL hst hmd h0 hX sat c hd h1 h2 hhh hF hmu him rf re r8 rg rl).2.2.2.2.2 hi
