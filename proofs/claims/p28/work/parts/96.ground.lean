/-! The start as the machine has it. -/
theorem ws_sr : ws_sub ((List.range 41).map fun i => Cond.stringRef (am_txt i).1 (am_txt i).2.1 (am_txt i).2.2) lw_tbl = true := by decide +kernel
section WB
variable {s : State} {b L : Nat} {xs : Nat → Int32}
theorem ws_start (hts : ∀ w ∈ lw_tbl, w.before #[Value.ref b] s = true) (hw : ∀ w ∈ ws_nl, w.before #[Value.ref b] s = true) (hX : va_X b L xs s s.heap) (hL : L ≤ 260) : ∃ (w : am_w) (a5 a6 rV o9 t9 : Nat), ws_K s w (am_Fr s.heap.size) L xs a5 a6 rV o9 t9 ∧ KS w s ∧ KH w s s.heap ∧ w.2 400 = b := by
  have hA : ∀ a : Nat, a < s.heap.size → ¬ am_Fr s.heap.size a := fun a h q => Nat.not_lt.mpr q h
  have h0 : ∀ i : Nat, ∃ q : Nat × Nat, i < am_STR.length → (ws_tm i).eval #[Value.ref b] s none [] s = some (.ref q.1) ∧ va_O "java/lang/String" q.1 (am_Fr s.heap.size) s s.heap ∧ va_OF "java/lang/String" "coder" "B" (.int 0) q.1 (am_Fr s.heap.size) s s.heap ∧ va_OF "java/lang/String" "value" "[B" (.ref q.2) q.1 (am_Fr s.heap.size) s s.heap ∧ va_T .byte q.2 (am_len i) (fun j => .int (Int32.ofInt (am_byt i j))) (am_Fr s.heap.size) s s.heap ∧ ∃ cell : Cell, s.heap[q.2]? = some cell ∧ cell.slots.size = am_len i := by
    intro i
    by_cases hi : i < am_STR.length
    · obtain ⟨a, v, h⟩ := ws_str hw hA i hi
      exact ⟨(a, v), fun _ => h⟩
    · exact ⟨(0, 0), fun h => absurd h hi⟩
  obtain ⟨ad, had⟩ := Classical.axiomOfChoice h0
  -- the plain score
  have p2 := hw _ (ws_f 1 (w := .arrayOf (.static "CornerClaims" "PLAIN_SCORE" "[I") .int) rfl)
  have p3 := va_eqt (hw _ (ws_f 2 (w := .eq (.length (.static "CornerClaims" "PLAIN_SCORE" "[I")) (.int 3)) rfl))
  have p4 := va_eqt (hw _ (ws_f 3 (w := .eq (.elem (.static "CornerClaims" "PLAIN_SCORE" "[I") (.int 0)) (.int (-1))) rfl))
  have p5 := va_eqt (hw _ (ws_f 4 (w := .eq (.elem (.static "CornerClaims" "PLAIN_SCORE" "[I") (.int 1)) (.int (-2))) rfl))
  have p6 := va_eqt (hw _ (ws_f 5 (w := .eq (.elem (.static "CornerClaims" "PLAIN_SCORE" "[I") (.int 2)) (.int (-6))) rfl))
  have pn := hw _ (ws_f 22 (w := .not (.eq (.arg 0) (.static "CornerClaims" "PLAIN_SCORE" "[I"))) rfl)
  obtain ⟨pl, cell, e1, e2, e3, e4⟩ := ws_ln (N := 3) (by decide) p3
  obtain ⟨pl', e5, cell', f1, f2, f3, f4, f5, f6, f7⟩ := va_Tof (N := 3) (f := fun j => if j = 0 then .int (-1) else if j = 1 then .int (-2) else .int (-6)) (A := am_Fr s.heap.size) (by decide) p2 p3 (fun j hj => by
    rcases (show j = 0 ∨ j = 1 ∨ j = 2 by omega) with rfl | rfl | rfl
    · exact p4
    · exact p5
    · exact p6) hA
  cases e1.symm.trans e5
  cases e2.symm.trans f1
  have pb : pl ≠ b := fun q => va_neR pn (show (Term.arg 0).eval #[Value.ref b] s none [] s = some (.ref b) from rfl) e1 q.symm
  -- the names
  have v1 := hw _ (ws_f 10 (w := .arrayOf (.static "CornerClaimsLaw" "VARIABLES" "[Ljava/lang/String;") (.object "java/lang/String")) rfl)
  have v2 := va_eqt (hw _ (ws_f 11 (w := .eq (.length (.static "CornerClaimsLaw" "VARIABLES" "[Ljava/lang/String;")) (.int 5)) rfl))
  have v3 : ∀ j : Nat, j < 5 → (Term.elem (.static "CornerClaimsLaw" "VARIABLES" "[Ljava/lang/String;") (.int (Int32.ofNat j))).eval #[Value.ref b] s none [] s = some (.ref (ad (36 + j)).1) := fun j hj => by
    rcases (show j = 0 ∨ j = 1 ∨ j = 2 ∨ j = 3 ∨ j = 4 by omega) with rfl | rfl | rfl | rfl | rfl
    · exact va_eqv (hw _ (ws_f 12 rfl)) (had 36 (by decide)).1
    · exact va_eqv (hw _ (ws_f 13 rfl)) (had 37 (by decide)).1
    · exact va_eqv (hw _ (ws_f 14 rfl)) (had 38 (by decide)).1
    · exact va_eqv (hw _ (ws_f 15 rfl)) (had 39 (by decide)).1
    · exact va_eqv (hw _ (ws_f 16 rfl)) (had 40 (by decide)).1
  obtain ⟨rV, cr, r1, r2, r3, r4⟩ := ws_ln (N := 5) (by decide) v2
  obtain ⟨rV', r5, cr', r6, r7, -, -, -, r8, -⟩ := va_Tof (N := 5) (f := fun j => .ref (ad (36 + j)).1) (A := am_Fr s.heap.size) (by decide) v1 v2 v3 hA
  cases r1.symm.trans r5
  cases r2.symm.trans r6
  obtain ⟨c6, k6, a6, l6, g61, g62, g63, g64, g65, g66, S6⟩ := ws_stat (hts _ (ws_t 1495 (w := .laysStatic "CornerClaimsLaw" "VARIABLES" "[Ljava/lang/String;") (by decide +kernel))) (hts _ (ws_t 38 (w := .initialized "CornerClaimsLaw") (by decide +kernel))) r1
  -- the digits
  obtain ⟨o9, co, o1, o2, o3, o4, o5, o6⟩ := ws_dig (n := "DigitOnes") (f := fun j => 48 + j % 10) (fun w h => hw _ (ws_sub_m ws_do w (List.mem_append_left _ h)))
  obtain ⟨t9, ct, t1, t2, t3, t4, t5, t6⟩ := ws_dig (n := "DigitTens") (f := fun j => 48 + j / 10) (fun w h => hw _ (ws_sub_m ws_do w (List.mem_append_right _ h)))
  obtain ⟨c5, k5, a5, l5, g51, g52, g53, g54, g55, g56, S5⟩ := ws_stat (hts _ (ws_t 1418 (w := .laysStatic "java/lang/Integer" "DigitOnes" "[B") (by decide +kernel))) (hts _ (ws_t 70 (w := .initialized "java/lang/Integer") (by decide +kernel))) o1
  obtain ⟨c7, k7, a7, l7, g71, g72, g73, g74, g75, g76, S7⟩ := ws_stat (hts _ (ws_t 1420 (w := .laysStatic "java/lang/Integer" "DigitTens" "[B") (by decide +kernel))) (hts _ (ws_t 70 (w := .initialized "java/lang/Integer") (by decide +kernel))) t1
  cases g51.symm.trans g71
  cases g52.symm.trans g72
  cases g53.symm.trans g73
  -- what the formatter is
  have hq := va_Zqof (A := am_Fr s.heap.size) (hts _ (ws_t 770 (w := .laysStatic "jdk/internal/util/Preconditions" "SIOOBE_FORMATTER" "Ljava/util/function/BiFunction;") (by decide +kernel))) (hts _ (ws_t 61 (w := .initialized "jdk/internal/util/Preconditions") (by decide +kernel))) (hw _ (ws_f 9 (w := .isRef (.static "jdk/internal/util/Preconditions" "SIOOBE_FORMATTER" "Ljava/util/function/BiFunction;")) rfl)) hA
  obtain ⟨fk, fm, hf⟩ : ∃ fk fm : Nat, va_Z "jdk/internal/util/Preconditions" "SIOOBE_FORMATTER" "Ljava/util/function/BiFunction;" (va_rf (if fk = 0 then none else some fm)) (am_Fr s.heap.size) s s.heap := by
    rcases hq with q | ⟨t, q⟩
    · exact ⟨0, 0, q⟩
    · exact ⟨1, t, q⟩
  let g : Nat → Nat := fun q => if q < 41 then (ad q).1 else if q = 100 then pl else if q = 300 then fm else if q = 301 then fk else if q = 400 then b else (ad (q - 200)).2
  have g1 : ∀ i, i < 41 → g i = (ad i).1 := fun i hi => if_pos hi
  have g2 : g 100 = pl := rfl
  have g3 : g 300 = fm := rfl
  have g4 : g 301 = fk := rfl
  have g6 : g 400 = b := rfl
  have g5 : ∀ i, i < 41 → g (200 + i) = (ad i).2 := fun i hi => by
    show (if 200 + i < 41 then _ else if 200 + i = 100 then _ else if 200 + i = 300 then _ else if 200 + i = 301 then _ else if 200 + i = 400 then _ else (ad (200 + i - 200)).2) = _
    rw [if_neg (by omega), if_neg (by omega), if_neg (by omega), if_neg (by omega), if_neg (by omega), show 200 + i - 200 = i by omega]
  have hn : am_STR.length = 41 := rfl
  clear_value g
  have stg : ∀ i, i < 41 → va_O "java/lang/String" (g i) (am_Fr s.heap.size) s s.heap ∧ va_OF "java/lang/String" "coder" "B" (.int 0) (g i) (am_Fr s.heap.size) s s.heap ∧ va_OF "java/lang/String" "value" "[B" (.ref (g (200 + i))) (g i) (am_Fr s.heap.size) s s.heap ∧ va_T .byte (g (200 + i)) (am_len i) (fun j => .int (Int32.ofInt (am_byt i j))) (am_Fr s.heap.size) s s.heap ∧ ∃ cell : Cell, s.heap[g (200 + i)]? = some cell ∧ cell.slots.size = am_len i := fun i hi => by
    rw [g1 i hi, g5 i hi]
    exact (had i (by rw [hn]; exact hi)).2
  refine ⟨(s.heap.size, g), a5, a6, rV, o9, t9, ⟨⟨rfl, hL, by show g 100 ≠ g 400; rw [g2, g6]; exact pb, by show va_X (g 400) L xs s s.heap; rw [g6]; exact hX⟩, ⟨cell, by show s.heap[g 100]? = _; rw [g2]; exact e2, f2, e3, e4, f6 0 (by decide), f6 1 (by decide), f6 2 (by decide)⟩, stg, ⟨S5, S7, l5, g54, Or.inr (Or.inr (Or.inr (Or.inr (Or.inl ⟨rfl, g55, by rw [g56]; exact g51⟩))))⟩, ⟨S6, l6, g64, Or.inr (Or.inr (Or.inr (Or.inr (Or.inr ⟨rfl, g65, by rw [g66]; exact g61⟩))))⟩, ⟨cr, r2, r7, r3, r4, fun j hj => by show _ = some (Value.ref (g (36 + j))); rw [g1 _ (by omega)]; exact r8 j hj⟩, ⟨co, o2, o3, o4, o5, o6⟩, ⟨ct, t2, t3, t4, t5, t6⟩⟩, ⟨fun x hx => va_Nw.of (am_nw_on (List.mem_filter.mp hx).2) (hts x (List.mem_filter.mp hx).1), fun i hi => ?_, fun q hq => ?_, va_AO.of (hts _ (ws_t 291 (w := .arrayOver (.object "CornerClaims$Board")) (by decide +kernel))), va_AO.of (hts _ (ws_t 86 (w := .arrayOver (.object "CornerClaims$Shape")) (by decide +kernel))), hts _ (ws_t 468 (w := .arrayOver (.array .int)) (by decide +kernel)), va_AO.of (hts _ (ws_t 470 (w := .arrayOver (.object "CornerClaimsLaw$Shape")) (by decide +kernel))), va_AO.of (hts _ (ws_t 1588 (w := .arrayOver (.object "CornerClaimsLaw$Field")) (by decide +kernel)))⟩, ⟨Nat.le_refl _, vx_Zqof (hts _ (ws_t 667 (w := .laysStatic Bundle.tN "UNASSIGNED_STACK" Bundle.steD) (by decide +kernel))) (hts _ (ws_t 49 (w := .initialized Bundle.tN) (by decide +kernel))) (hw _ (ws_f 6 (w := .isRef (.static Bundle.tN "UNASSIGNED_STACK" Bundle.steD)) rfl)) hA, vx_Zqof (hts _ (ws_t 669 (w := .laysStatic Bundle.tN "SUPPRESSED_SENTINEL" Bundle.listD) (by decide +kernel))) (hts _ (ws_t 49 (w := .initialized Bundle.tN) (by decide +kernel))) (hw _ (ws_f 7 (w := .isRef (.static Bundle.tN "SUPPRESSED_SENTINEL" Bundle.listD)) rfl)) hA, ?_, ⟨va_Zof (hts _ (ws_t 754 (w := .laysStatic "java/lang/String" "COMPACT_STRINGS" "Z") (by decide +kernel))) (hts _ (ws_t 59 (w := .initialized "java/lang/String") (by decide +kernel))) (va_eqi (hw _ (ws_f 8 (w := .eq (.static "java/lang/String" "COMPACT_STRINGS" "Z") (.int 1)) rfl))) hA, ?_⟩, fun i hi => ?_⟩, g6⟩
  · have hi9 : i < 41 := by rw [← hn]; exact hi
    show vk_R _ _ _ (g i) s
    rw [g1 i hi9]
    exact vk_R.of (hts _ (ws_sub_m ws_sr _ (List.mem_map.mpr ⟨i, List.mem_range.mpr hi9, rfl⟩))) (had i hi).1
  · have nc : ∀ {C T : String} (k : Nat), ws_few[k]? = some (.not (.castable C T)) → va_Nc C T s := fun k h => va_Nc.of (hw _ (ws_f k h))
    unfold am_NC at hq
    rcases List.mem_cons.mp hq with rfl | hq
    · exact nc 18 rfl
    rcases List.mem_cons.mp hq with rfl | hq
    · exact nc 19 rfl
    rcases List.mem_cons.mp hq with rfl | hq
    · exact nc 20 rfl
    rcases List.mem_cons.mp hq with rfl | hq
    · exact nc 21 rfl
    rcases List.mem_cons.mp hq with rfl | hq
    · exact nc 17 rfl
    · cases hq
  · show va_Z _ _ _ (.ref (g 100)) _ _ _
    rw [g2]
    exact va_Zref (hts _ (ws_t 122 (w := .laysStatic "CornerClaims" "PLAIN_SCORE" "[I") (by decide +kernel))) (hts _ (ws_t 39 (w := .initialized "CornerClaims") (by decide +kernel))) e1 hA
  · show va_Z _ _ _ (va_rf (if g 301 = 0 then none else some (g 300))) _ _ _
    rw [g3, g4]
    exact hf
  · have := stg i (by rw [← hn]; exact hi)
    exact ⟨this.1, this.2.1, this.2.2.1, this.2.2.2.1⟩
theorem ws_inS (hts : ∀ w ∈ lw_tbl, w.before #[Value.ref b] s = true) : (Cond.instantiable "java/lang/String" 4).before #[Value.ref b] s = true := hts _ (ws_t 1434 (w := .instantiable "java/lang/String" 4) (by decide +kernel))
end WB
