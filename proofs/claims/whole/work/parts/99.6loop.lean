/-! ===== the law's loop ===== -/
theorem k_slen {p : Program} {l : Launch} {e : Env} {R : Room} {s : State} {m : MethodId} {args : Array Value} {below : List Frame} {meth : Method} {c : Code} {D : va_G} {A : Nat → Prop} {Q : State → Prop} {kI kZ kJ : ClassId} {cells slots : Nat} {b L : Nat} {xs : Nat → Int32} {ws : va_W} {lv : List (Nat × Value)} {st : List Value} {pc pc' : Nat} (C : kLc p l R s m args c D A kI kZ kJ b L xs) (d : decode cL_law pc = .ok (.arraylength, 1)) (hp : pc + 1 = pc') (g : kG p l e R s m args below meth c D A 7 Q cells slots ws lv (.int (nI L) :: st) pc') : kG p l e R s m args below meth c D A 7 Q cells slots ws lv (.ref b :: st) pc := by
  subst hp
  obtain ⟨X, -, -, hX, hbl, hbA, -, -⟩ := C
  intro H locs ls hP hD hS hl
  exact va_slen X.1.1 X.1.2.1 hX hbl hbA hS d (g H locs ls hP hD hS hl)
theorem k_sld {p : Program} {l : Launch} {e : Env} {R : Room} {s : State} {m : MethodId} {args : Array Value} {below : List Frame} {meth : Method} {c : Code} {D : va_G} {A : Nat → Prop} {Q : State → Prop} {kI kZ kJ : ClassId} {cells slots : Nat} {b L : Nat} {xs : Nat → Int32} {ws : va_W} {lv : List (Nat × Value)} {st : List Value} {i pc pc' : Nat} (C : kLc p l R s m args c D A kI kZ kJ b L xs) (hi : i < L) (hL : L ≤ 1536) (d : decode cL_law pc = .ok (.iaload, 1)) (hp : pc + 1 = pc') (g : kG p l e R s m args below meth c D A 7 Q cells slots ws lv (.int (xs i) :: st) pc') : kG p l e R s m args below meth c D A 7 Q cells slots ws lv (.int (nI i) :: .ref b :: st) pc := by
  subst hp
  obtain ⟨X, -, -, hX, hbl, hbA, -, -⟩ := C
  intro H locs ls hP hD hS hl
  refine va_sld X.1.1 X.1.2.1 hX hbl hbA hS (vp_in_nI hi (by omega)) d ?_
  rw [nI_clamp (by omega)]
  exact g H locs ls hP hD hS hl
theorem k_tIn {p : Program} {l : Launch} {e : Env} {R : Room} {s : State} {m : MethodId} {args : Array Value} {below : List Frame} {meth : Method} {c : Code} {D : va_G} {A : Nat → Prop} {Q : State → Prop} {kI kZ kJ : ClassId} {cells slots : Nat} {b L : Nat} {xs : Nat → Int32} {ws : va_W} {lv : List (Nat × Value)} {st : List Value} {pc tgt : Nat} (C : kLc p l R s m args c D A kI kZ kJ b L xs) {dflt lo hi : Int} {offs : Array Int} {len : Nat} {x : Int32} {off : Int} (d : decode cL_law pc = .ok (.tableswitch dflt lo hi offs, len)) (h1 : ¬ x.toInt < lo) (h2 : ¬ hi < x.toInt) (ho : offs[(x.toInt - lo).toNat]? = some off) (ht : (pc : Int) + off = (tgt : Int)) (g : kG p l e R s m args below meth c D A 7 Q cells slots ws lv st tgt) : kG p l e R s m args below meth c D A 7 Q cells slots ws lv (.int x :: st) pc := by
  intro H locs ls hP hD hS hl
  exact lv_tableIn C.1.1.1 C.1.1.2.1 d h1 h2 ho ht (g H locs ls hP hD hS hl)
theorem k_tOut {p : Program} {l : Launch} {e : Env} {R : Room} {s : State} {m : MethodId} {args : Array Value} {below : List Frame} {meth : Method} {c : Code} {D : va_G} {A : Nat → Prop} {Q : State → Prop} {kI kZ kJ : ClassId} {cells slots : Nat} {b L : Nat} {xs : Nat → Int32} {ws : va_W} {lv : List (Nat × Value)} {st : List Value} {pc tgt : Nat} (C : kLc p l R s m args c D A kI kZ kJ b L xs) {dflt lo hi : Int} {offs : Array Int} {len : Nat} {x : Int32} (d : decode cL_law pc = .ok (.tableswitch dflt lo hi offs, len)) (h : x.toInt < lo ∨ hi < x.toInt) (ht : (pc : Int) + dflt = (tgt : Int)) (g : kG p l e R s m args below meth c D A 7 Q cells slots ws lv st tgt) : kG p l e R s m args below meth c D A 7 Q cells slots ws lv (.int x :: st) pc := by
  intro H locs ls hP hD hS hl
  exact lv_tableOut C.1.1.1 C.1.1.2.1 d h ht (g H locs ls hP hD hS hl)
theorem and_15 (v : Int32) : ∃ k, k < 16 ∧ v &&& 15 = nI k := by
  refine ⟨fld v 0 4, fld_lt v 0 4, ?_⟩
  have := fld_u (u := v) (k := 0) (n := 4) (by decide)
  rw [show sru v (nI 0) = v by refine b_ext (fun i hi => ?_); rw [b_sruF 0 (by decide), Nat.zero_add]] at this
  exact this
theorem past_end {L i : Nat} (hL : L ≤ 1536) (hi : i ≤ 2000) (h : ¬ nI L - 3 < nI i) : i + 3 ≤ L := by
  rcases Nat.lt_or_ge L 3 with hq | hq
  · exfalso
    apply h
    rw [Int32.lt_iff_toInt_lt, nI_toInt (by omega)]
    have h3 : (nI L - 3).toInt < 0 := by
      rcases (show L = 0 ∨ L = 1 ∨ L = 2 by omega) with rfl | rfl | rfl <;> decide
    omega
  · obtain ⟨k, rfl⟩ : ∃ k, L = k + 3 := ⟨L - 3, by omega⟩
    have e : nI (k + 3) - 3 = nI k := by
      rw [← nI_add k 3]
      exact Int32.add_sub_cancel (nI k) 3
    rw [e] at h
    rcases Nat.lt_or_ge k i with hk | hk
    · exact absurd (nI_lt hk (by omega)) h
    · omega
theorem law_turn {p : Program} {l : Launch} {e : Env} {R : Room} {s : State} {m : MethodId} {args : Array Value} {below : List Frame} {meth : Method} {c : Code} {D : va_G} {A : Nat → Prop} {Q : State → Prop} {kI kZ kJ : ClassId} {cells slots : Nat} {b L : Nat} {xs : Nat → Int32} {b_q b_m b_out i : Nat} (C : kLc p l R s m args c D A kI kZ kJ b L xs) (hL : L ≤ 1536) (hi : i + 2 < L) (hc : cells + 1 ≤ 1057) (hs : slots + 6 ≤ 10883) (hrest : ∀ w, kLawG false kI kZ kJ b_q b_m b_out w → kG p l e R s m args below meth c D A 7 Q (cells + 1) (slots + 6) w [(0, .ref b), (1, .ref b_q), (2, .ref b_m), (3, .ref b_out), (4, .int (nI i))] [] 631) : ∀ w, kLawG true kI kZ kJ b_q b_m b_out w → kG p l e R s m args below meth c D A 7 Q cells slots w [(0, .ref b), (1, .ref b_q), (2, .ref b_m), (3, .ref b_out), (4, .int (nI i))] [] 32 := by
  intro w h
  have X := C.1
  refine k_aload_n X dL_law_32 rfl 0 rfl rfl ?_
  refine k_iload X dL_law_33 4 rfl rfl ?_
  refine k_sld C (by omega) hL dL_law_35 rfl ?_
  refine k_bipush (v := 15) X dL_law_36 (by decide) rfl ?_
  refine k_iand X dL_law_38 rfl ?_
  obtain ⟨k, hk, e⟩ := and_15 (xs i)
  rw [e]
  rcases (show k = 0 ∨ k = 1 ∨ k = 2 ∨ k = 3 ∨ k = 4 ∨ k = 5 ∨ k = 6 ∨ k = 7 ∨ k = 8 ∨ k = 9 ∨ k = 10 ∨ k = 11 ∨ 12 ≤ k by omega) with rfl | rfl | rfl | rfl | rfl | rfl | rfl | rfl | rfl | rfl | rfl | rfl | hk2
  · exact k_tIn (tgt := 100) (off := 61) C dL_law_39 (by decide) (by decide) (by decide) (by decide) (turn_step C hL hi hc hs hrest w h)
  · exact k_tIn (tgt := 125) (off := 86) C dL_law_39 (by decide) (by decide) (by decide) (by decide) (turn_choose C hL hi hc hs hrest w h)
  · exact k_tIn (tgt := 180) (off := 141) C dL_law_39 (by decide) (by decide) (by decide) (by decide) (turn_x C hL hi hc hs hrest w h)
  · exact k_tIn (tgt := 236) (off := 197) C dL_law_39 (by decide) (by decide) (by decide) (by decide) (turn_setX C hL hi hc hs hrest w h)
  · exact k_tIn (tgt := 284) (off := 245) C dL_law_39 (by decide) (by decide) (by decide) (by decide) (turn_v C hL hi hc hs hrest w h)
  · exact k_tIn (tgt := 340) (off := 301) C dL_law_39 (by decide) (by decide) (by decide) (by decide) (turn_setV C hL hi hc hs hrest w h)
  · exact k_tIn (tgt := 388) (off := 349) C dL_law_39 (by decide) (by decide) (by decide) (by decide) (turn_word C hL hi hc hs hrest w h)
  · exact k_tIn (tgt := 444) (off := 405) C dL_law_39 (by decide) (by decide) (by decide) (by decide) (turn_setWord C hL hi hc hs hrest w h)
  · exact k_tIn (tgt := 492) (off := 453) C dL_law_39 (by decide) (by decide) (by decide) (by decide) (turn_shut C hL hi hc hs hrest w h)
  · exact k_tIn (tgt := 556) (off := 517) C dL_law_39 (by decide) (by decide) (by decide) (by decide) (turn_state C hL hi hc hs hrest w h)
  · exact k_tIn (tgt := 581) (off := 542) C dL_law_39 (by decide) (by decide) (by decide) (by decide) (turn_setState C hL hi hc hs hrest w h)
  · exact k_tIn (tgt := 618) (off := 579) C dL_law_39 (by decide) (by decide) (by decide) (by decide) (turn_sum C hL hi hc hs hrest w h)
  · refine k_tOut (tgt := 631) C dL_law_39 (Or.inr ?_) (by decide) (turn_none C hL hi hc hs hrest w h)
    rw [nI_toInt (by omega)]
    omega
theorem law_loop {p : Program} {l : Launch} {e : Env} {R : Room} {s : State} {m : MethodId} {args : Array Value} {below : List Frame} {meth : Method} {c : Code} {D : va_G} {A : Nat → Prop} {Q : State → Prop} {kI kZ kJ : ClassId} {b L : Nat} {xs : Nat → Int32} {b_q b_m b_out : Nat} (C : kLc p l R s m args c D A kI kZ kJ b L xs) (hL : L ≤ 1536) (hend : ∀ w lv, kG p l e R s m args below meth c D A 7 Q 1057 10883 w lv [] 637) : ∀ (n t : Nat), L ≤ 3 * t + n → 3 * t ≤ L + 2 → ∀ w, kLawG false kI kZ kJ b_q b_m b_out w → kG p l e R s m args below meth c D A 7 Q (26 + t) (2649 + 6 * t) w [(0, .ref b), (1, .ref b_q), (2, .ref b_m), (3, .ref b_out), (4, .int (nI (3 * t)))] [] 23 := by
  intro n
  induction n with
  | zero =>
    intro t h1 h2 w h
    have X := C.1
    refine k_iload X dL_law_23 4 rfl rfl ?_
    refine k_aload_n X dL_law_25 rfl 0 rfl rfl ?_
    refine k_slen C dL_law_26 rfl ?_
    refine k_iconst (v := 3) X dL_law_27 (by decide) rfl ?_
    refine k_isub X dL_law_28 rfl ?_
    refine k_icmp_gt (tgt := 637) X dL_law_29 (by decide) rfl (fun _ => ?_) (fun q => ?_)
    · exact k_wid (by omega) (by omega) (hend _ _)
    · exact absurd (past_end hL (by omega) q) (by omega)
  | succ n ih =>
    intro t h1 h2
    refine kLawG.norm (fun w h => ?_)
    have X := C.1
    refine k_iload X dL_law_23 4 rfl rfl ?_
    refine k_aload_n X dL_law_25 rfl 0 rfl rfl ?_
    refine k_slen C dL_law_26 rfl ?_
    refine k_iconst (v := 3) X dL_law_27 (by decide) rfl ?_
    refine k_isub X dL_law_28 rfl ?_
    refine k_icmp_gt (tgt := 637) X dL_law_29 (by decide) rfl (fun _ => ?_) (fun q => ?_)
    · exact k_wid (by omega) (by omega) (hend _ _)
    · have h3 := past_end hL (by omega) q
      refine law_turn C hL (by omega) (by omega) (by omega) (fun w h => ?_) w h
      refine k_iinc (lv' := [(4, .int (nI (3 * t) + 3)), (0, .ref b), (1, .ref b_q), (2, .ref b_m), (3, .ref b_out)]) X dL_law_631 4 rfl kc_i_3 rfl rfl rfl ?_
      refine k_goto (tgt := 23) X dL_law_634 (by decide) ?_
      refine k_sub [1, 2, 3, 4, 0] (lv' := [(0, .ref b), (1, .ref b_q), (2, .ref b_m), (3, .ref b_out), (4, .int (nI (3 * t) + 3))]) rfl ?_
      rw [show nI (3 * t) + 3 = nI (3 * (t + 1)) by rw [Nat.mul_succ]; exact nI_add (3 * t) 3]
      exact k_wid (by omega) (by omega) (ih (t + 1) (by omega) (by omega) w h)
