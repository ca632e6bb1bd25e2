/-! ===== at the law's entry: what the Statement gives of the start, in the words of the walk ===== -/
theorem en_kx : ∀ w ∈ kXw, w ∈ lw_tbl := by_plc _ [(1, 15), (4, 115), (4, 124), (4, 126), (4, 129), (4, 131), (4, 116), (4, 117), (1, 25), (1, 26), (4, 118), (4, 123), (4, 127), (4, 147), (4, 105), (4, 148), (4, 107), (4, 149), (4, 109), (4, 119), (4, 121), (4, 111), (4, 143), (4, 144), (4, 146), (4, 111), (4, 134), (4, 135), (4, 136), (4, 137), (4, 97), (4, 137), (4, 138), (4, 139), (4, 140), (4, 99), (4, 140), (4, 141), (4, 142), (4, 143), (4, 101), (4, 133), (4, 94), (4, 95), (4, 102), (4, 103), (4, 104), (4, 106), (4, 108), (4, 110), (4, 114), (4, 113), (4, 112)] (by decide +kernel)
def en_ws : List Cond := [.methodLinkNest RX0 19 yX10_ones RX10, .methodLinkNest RX0 59 yX10_signed RX10, .methodLinkNest RX2 32 yX10_ones RX10, .methodLinkNest RX4 133 yX10_signed RX10, .methodLinkNest RX4 141 yX10_ones RX10, .methodLinkNest RX5 44 yX10_ones RX10, .methodLinkNest RX10 25 yX3_init RX10, .laysStatic "StripMachine$Decoder" "KINDS" "[I", .laysStatic Bundle.tN "UNASSIGNED_STACK" Bundle.steD, .laysStatic Bundle.tN "SUPPRESSED_SENTINEL" Bundle.listD, .stringRef RX10 90 "no such x register", .stringRef RX10 103 "no such word of the v registers", .stringRef RX10 109 "no such word of the memory", .stringRef RX10 114 "no such page", .initialized Bundle.tN, .initialized "StripMachine$Decoder"]
theorem en_in : ∀ w ∈ en_ws, w ∈ lw_tbl := by_plc _ [(3, 132), (3, 154), (2, 166), (3, 134), (3, 138), (3, 43), (1, 127), (3, 91), (4, 120), (4, 122), (4, 132), (4, 175), (4, 190), (4, 205), (1, 15), (1, 12)] rfl
theorem en_w {s : State} {b : Nat} (hts : ∀ w ∈ lw_tbl, w.before #[Value.ref b] s = true) (k : Nat) {w : Cond} (h : en_ws[k]? = some w) : w.before #[Value.ref b] s = true := hts w (en_in w (List.mem_of_getElem? h))
def en_f : List Cond := flatC (Jvm.Cond.and given_1 narrow_1)
theorem en_fw {s : State} {b : Nat} (hgv : (Jvm.Cond.and given_1 narrow_1).before #[Value.ref b] s = true) (k : Nat) {w : Cond} (h : en_f[k]? = some w) : w.before #[Value.ref b] s = true := flat_of_before _ hgv w (List.mem_of_getElem? (i := k) h)
def en_K0 : Term := .static "StripMachine$Decoder" "KINDS" "[I"
theorem en_el : ∀ j, j < 128 → en_f[7 + j]? = some (Cond.eq (.elem en_K0 (.int (Int32.ofNat j))) (.int (kKinds j))) := by decide +kernel
theorem en_f1 : en_f[5]? = some (Cond.arrayOf en_K0 .int) := by decide +kernel
theorem en_f2 : en_f[6]? = some (Cond.eq (.length en_K0) (.int (Int32.ofNat 128))) := by decide +kernel
theorem en_f3 : en_f[135]? = some (Cond.isRef (.static Bundle.tN "UNASSIGNED_STACK" Bundle.steD)) := by decide +kernel
theorem en_f4 : en_f[136]? = some (Cond.isRef (.static Bundle.tN "SUPPRESSED_SENTINEL" Bundle.listD)) := by decide +kernel
theorem en_s0 : en_f[148]? = some (Cond.exactly (.string RX10 90) "java/lang/String") := by decide +kernel
theorem en_s1 : en_f[170]? = some (Cond.exactly (.string RX10 103) "java/lang/String") := by decide +kernel
theorem en_s2 : en_f[206]? = some (Cond.exactly (.string RX10 109) "java/lang/String") := by decide +kernel
theorem en_s3 : en_f[238]? = some (Cond.exactly (.string RX10 114) "java/lang/String") := by decide +kernel
theorem en_kd {s : State} {b : Nat} (hts : ∀ w ∈ lw_tbl, w.before #[Value.ref b] s = true) (hgv : (Jvm.Cond.and given_1 narrow_1).before #[Value.ref b] s = true) : kKD (fun q => s.heap.size ≤ q) s s.heap := by
  have hA : ∀ a : Nat, a < s.heap.size → ¬ (fun q : Nat => s.heap.size ≤ q) a := fun a h => Nat.not_le.mpr h
  obtain ⟨t, ht, hT⟩ := va_Tof (tm := en_K0) (ty := .int) (N := 128) (f := fun j => .int (kKinds j)) (A := fun q : Nat => s.heap.size ≤ q) (by decide) (en_fw hgv _ en_f1) (va_eqt (en_fw hgv _ en_f2)) (fun j hj => va_eqt (en_fw hgv _ (en_el j hj))) hA
  exact ⟨t, va_Zref (en_w hts 7 rfl) (en_w hts 15 rfl) ht hA, hT⟩
theorem en_str {s : State} {b : Nat} (hgv : (Jvm.Cond.and given_1 narrow_1).before #[Value.ref b] s = true) {k : Nat} {t : Term} (h : en_f[k]? = some (Cond.exactly t "java/lang/String")) : ∃ a, t.eval #[Value.ref b] s none [] s = some (.ref a) := by
  obtain ⟨a, _, _, _, h1, -⟩ := Cond.exactly_spec (en_fw hgv k h)
  exact ⟨a, h1⟩
theorem en_ex {s : State} {b : Nat} (hts : ∀ w ∈ lw_tbl, w.before #[Value.ref b] s = true) (hgv : (Jvm.Cond.and given_1 narrow_1).before #[Value.ref b] s = true) : kEx (fun q => s.heap.size ≤ q) s s.heap := by
  have hA : ∀ a : Nat, a < s.heap.size → ¬ (fun q : Nat => s.heap.size ≤ q) a := fun a h => Nat.not_le.mpr h
  obtain ⟨a0, e0⟩ := en_str hgv en_s0
  obtain ⟨a1, e1⟩ := en_str hgv en_s1
  obtain ⟨a2, e2⟩ := en_str hgv en_s2
  obtain ⟨a3, e3⟩ := en_str hgv en_s3
  exact ⟨vx_Zqof (en_w hts 8 rfl) (en_w hts 14 rfl) (en_fw hgv _ en_f3) hA, vx_Zqof (en_w hts 9 rfl) (en_w hts 14 rfl) (en_fw hgv _ en_f4) hA, ⟨a0, vk_R.of (en_w hts 10 rfl) e0⟩, ⟨a1, vk_R.of (en_w hts 11 rfl) e1⟩, ⟨a2, vk_R.of (en_w hts 12 rfl) e2⟩, ⟨a3, vk_R.of (en_w hts 13 rfl) e3⟩, fun w hw => kx_word hw (State.WarmedH.refl s) (hts w (en_kx w hw))⟩
theorem en_nest {s : State} {b : Nat} (hts : ∀ w ∈ lw_tbl, w.before #[Value.ref b] s = true) : kNest s := ⟨va_Nw.of rfl (en_w hts 0 rfl), va_Nw.of rfl (en_w hts 1 rfl), va_Nw.of rfl (en_w hts 2 rfl), va_Nw.of rfl (en_w hts 3 rfl), va_Nw.of rfl (en_w hts 4 rfl), va_Nw.of rfl (en_w hts 5 rfl), va_Nw.of rfl (en_w hts 6 rfl)⟩
theorem en_arr {s : State} {args : Array Value} {ty : FieldType} (h : (Cond.arrayClass ty).before args s = true) : ∃ c : ClassId, ArrOfT s c ty ∧ s.vm.findClass ("[" ++ ty.toString) = some c := by
  obtain ⟨c, kA, comp, h1, h2, h3⟩ := Cond.arrayClass_spec h
  exact ⟨c, fun n z => ⟨fun k h => (by cases h), kA, h2, comp, h3⟩, h1⟩
theorem en_K {s : State} {args : Array Value} (hts : ∀ w ∈ wsL_law0, w.before args s = true) : ∃ (D : va_G) (kI kZ kJ : ClassId), va_K D vwCl [(kI, .int), (kZ, .boolean), (kJ, .long)] s := by
  obtain ⟨c0, i0, h0⟩ := u_known (C := RX0) (T := TX0) (N := 5) (n := 5) hts i_wsX00 (hts _ q4_2)
  obtain ⟨c1, i1, h1⟩ := u_known (C := RX2) (T := TX2) (N := 6) (n := 6) hts i_wsX20 (hts _ q4_6)
  obtain ⟨c2, i2, h2⟩ := u_known (C := RX3) (T := TX3) (N := 8) (n := 8) hts i_wsX30 (hts _ q1_23)
  obtain ⟨c3, i3, h3⟩ := u_known (C := RX4) (T := TX4) (N := 16) (n := 16) hts i_wsX40 (hts _ q2_7)
  obtain ⟨c4, i4, h4⟩ := u_known (C := RX5) (T := TX5) (N := 1) (n := 1) hts i_wsX50 (hts _ q2_3)
  obtain ⟨c5, i5, h5⟩ := u_known (C := RX6) (T := TX6) (N := 2) (n := 2) hts i_wsX60 (hts _ q1_19)
  obtain ⟨c6, i6, h6⟩ := u_known (C := RX7) (T := TX7) (N := 14) (n := 14) hts i_wsX70 (hts _ q2_11)
  obtain ⟨c7, i7, h7⟩ := u_known (C := RX8) (T := TX8) (N := 8) (n := 8) hts i_wsX80 (hts _ q1_15)
  obtain ⟨c8, i8, h8⟩ := u_known (C := RX9) (T := TX9) (N := 6) (n := 6) hts i_wsX90 (hts _ q2_22)
  obtain ⟨c9, i9, h9⟩ := u_known (C := RX10) (T := TX10) (N := 9) (n := 9) hts i_wsX100 (hts _ q1_1)
  obtain ⟨c10, i10, h10⟩ := u_known (C := RX11) (T := TX11) (N := 25) (n := 25) hts i_wsX110 (hts _ q1_4)
  obtain ⟨kI, a1, b1⟩ := en_arr (hts _ q2_18)
  obtain ⟨kZ, a2, b2⟩ := en_arr (hts _ q5_21)
  obtain ⟨kJ, a3, b3⟩ := en_arr (hts _ q1_6)
  refine ⟨(fun k => [c0, c1, c2, c3, c4, c5, c6, c7, c8, c9, c10].getD k c0, fun k => [i0, i1, i2, i3, i4, i5, i6, i7, i8, i9, i10].getD k i0), kI, kZ, kJ, ?_, ?_⟩
  · intro k q hq
    match k, hq with
    | 0, hq => cases hq; exact h0
    | 1, hq => cases hq; exact h1
    | 2, hq => cases hq; exact h2
    | 3, hq => cases hq; exact h3
    | 4, hq => cases hq; exact h4
    | 5, hq => cases hq; exact h5
    | 6, hq => cases hq; exact h6
    | 7, hq => cases hq; exact h7
    | 8, hq => cases hq; exact h8
    | 9, hq => cases hq; exact h9
    | 10, hq => cases hq; exact h10
    | k + 11, hq => simp [vwCl] at hq
  · intro k q hq
    match k, hq with
    | 0, hq => cases hq; exact ⟨a1, b1⟩
    | 1, hq => cases hq; exact ⟨a2, b2⟩
    | 2, hq => cases hq; exact ⟨a3, b3⟩
    | k + 3, hq => simp at hq
theorem en_lc {p : Program} {l : Launch} {s : State} {m : MethodId} {c : Code} {b L : Nat} {xs : Nat → Int32} (h9 : l.stackTraces = false) (hx : p.tables.exec = Jvm.exec) (hb : c.code = code) (hml : c.maxLocals = 7) (hown : s.vm.findClass RL = some m.cls) (hts : ∀ w ∈ lw_tbl, w.before #[Value.ref b] s = true) (hX : va_X b L xs s s.heap) (hbl : b < s.heap.size) (hgv : (Jvm.Cond.and given_1 narrow_1).before #[Value.ref b] s = true) : ∃ (D : va_G) (kI kZ kJ : ClassId), kLc p l room_1 s m #[Value.ref b] c D (fun q => s.heap.size ≤ q) kI kZ kJ b L xs := by
  have hw : ∀ w ∈ wsL_law0, w.before #[Value.ref b] s = true := fun w h => hts w (wsL_law_in0 w h)
  obtain ⟨D, kI, kZ, kJ, hK⟩ := en_K hw
  exact ⟨D, kI, kZ, kJ, ⟨⟨hx, hb, hml, hown, hw⟩, ⟨hK, en_nest hts, en_kd hts hgv⟩, fun _ h => h, rfl, rfl⟩, en_ex hts hgv, h9, hX, hbl, Nat.not_le.mpr hbl, rfl, rfl⟩
