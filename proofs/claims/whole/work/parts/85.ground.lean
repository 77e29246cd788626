-- the start as the machine has it
theorem ws_sr : ws_sub ((List.range 29).map fun i => Cond.stringRef (am_txt i).1 (am_txt i).2.1 (am_txt i).2.2) lw_tbl = true := by decide +kernel
section WB
variable {s : State} {b : Nat}
theorem ws_start (hts : ∀ w ∈ lw_tbl, w.before #[Value.ref b] s = true) (hw : ∀ w ∈ ws_nl, w.before #[Value.ref b] s = true) : ∃ w : am_w, w.1 = s.heap.size ∧ KS w s ∧ KH w s s.heap ∧ w.2 100 < s.heap.size ∧ w.2 100 ≠ b ∧ ∃ cell : Cell, s.heap[w.2 100]? = some cell ∧ s.isArrayOf cell .int ∧ cell.vm ≠ .unknown ∧ cell.slots.size = 3 ∧ cell.slots[0]? = some (.int (-1)) ∧ cell.slots[1]? = some (.int (-2)) ∧ cell.slots[2]? = some (.int (-6)) := by
  have hA : ∀ a : Nat, a < s.heap.size → ¬ am_Fr s.heap.size a := fun a h q => Nat.not_lt.mpr q h
  have h0 : ∀ i : Nat, ∃ q : Nat × Nat, i < am_STR.length → (ws_tm i).eval #[Value.ref b] s none [] s = some (.ref q.1) ∧ va_O "java/lang/String" q.1 (am_Fr s.heap.size) s s.heap ∧ va_OF "java/lang/String" "coder" "B" (.int 0) q.1 (am_Fr s.heap.size) s s.heap ∧ va_OF "java/lang/String" "value" "[B" (.ref q.2) q.1 (am_Fr s.heap.size) s s.heap ∧ va_T .byte q.2 (am_len i) (fun j => .int (Int32.ofInt (am_byt i j))) (am_Fr s.heap.size) s s.heap := by
    intro i
    by_cases hi : i < am_STR.length
    · obtain ⟨a, v, h⟩ := ws_str hw hA i hi
      exact ⟨(a, v), fun _ => h⟩
    · exact ⟨(0, 0), fun h => absurd h hi⟩
  obtain ⟨ad, had⟩ := Classical.axiomOfChoice h0
  -- the plain score
  have p2 := hw _ (ws_f 1 (w := .arrayOf (.static "CornerClaims" "PLAIN_SCORE" "[I") .int) rfl)
  have p3 := va_eqt (hw _ (ws_f 2 (w := .eq (.length (.static "CornerClaims" "PLAIN_SCORE" "[I")) (.int 3)) rfl))
  have p4 := va_eqt (hw _ (ws_f 3 (w := .eq (.elem (.static "CornerClaims" "PLAIN_SCORE" "[I") (.int 0)) (.int (-1))) rfl))
  have p5 := va_eqt (hw _ (ws_f 4 (w := .eq (.elem (.static "CornerClaims" "PLAIN_SCORE" "[I") (.int 1)) (.int (-2))) rfl))
  have p6 := va_eqt (hw _ (ws_f 5 (w := .eq (.elem (.static "CornerClaims" "PLAIN_SCORE" "[I") (.int 2)) (.int (-6))) rfl))
  have pn := hw _ (ws_f 15 (w := .not (.eq (.arg 0) (.static "CornerClaims" "PLAIN_SCORE" "[I"))) rfl)
  obtain ⟨pl, cell, e1, e2, e3, e4⟩ := ws_ln (N := 3) (by decide) p3
  obtain ⟨pl', e5, cell', f1, f2, f3, f4, f5, f6, f7⟩ := va_Tof (N := 3) (f := fun j => if j = 0 then .int (-1) else if j = 1 then .int (-2) else .int (-6)) (A := am_Fr s.heap.size) (by decide) p2 p3 (fun j hj => by
    rcases (show j = 0 ∨ j = 1 ∨ j = 2 by omega) with rfl | rfl | rfl
    · exact p4
    · exact p5
    · exact p6) hA
  cases e1.symm.trans e5
  cases e2.symm.trans f1
  have pb : pl ≠ b := fun q => va_neR pn (show (Term.arg 0).eval #[Value.ref b] s none [] s = some (.ref b) from rfl) e1 q.symm
  have plt : pl < s.heap.size := (Array.getElem?_eq_some_iff.mp e2).1
  -- what the formatter is
  have hq := va_Zqof (A := am_Fr s.heap.size) (hts _ (ws_t 662 (w := .laysStatic "jdk/internal/util/Preconditions" "SIOOBE_FORMATTER" "Ljava/util/function/BiFunction;") (by decide +kernel))) (hts _ (ws_t 105 (w := .initialized "jdk/internal/util/Preconditions") (by decide +kernel))) (hw _ (ws_f 9 (w := .isRef (.static "jdk/internal/util/Preconditions" "SIOOBE_FORMATTER" "Ljava/util/function/BiFunction;")) rfl)) hA
  obtain ⟨fk, fm, hf⟩ : ∃ fk fm : Nat, va_Z "jdk/internal/util/Preconditions" "SIOOBE_FORMATTER" "Ljava/util/function/BiFunction;" (va_rf (if fk = 0 then none else some fm)) (am_Fr s.heap.size) s s.heap := by
    rcases hq with q | ⟨t, q⟩
    · exact ⟨0, 0, q⟩
    · exact ⟨1, t, q⟩
  let g : Nat → Nat := fun q => if q < 29 then (ad q).1 else if q = 100 then pl else if q = 300 then fm else if q = 301 then fk else (ad (q - 200)).2
  have g1 : ∀ i, i < 29 → g i = (ad i).1 := fun i hi => if_pos hi
  have g2 : g 100 = pl := rfl
  have g3 : g 300 = fm := rfl
  have g4 : g 301 = fk := rfl
  have g5 : ∀ i, i < 29 → g (200 + i) = (ad i).2 := fun i hi => by
    show (if 200 + i < 29 then _ else if 200 + i = 100 then _ else if 200 + i = 300 then _ else if 200 + i = 301 then _ else (ad (200 + i - 200)).2) = _
    rw [if_neg (by omega), if_neg (by omega), if_neg (by omega), if_neg (by omega), show 200 + i - 200 = i by omega]
  have hn : am_STR.length = 29 := rfl
  clear_value g
  refine ⟨(s.heap.size, g), rfl, ⟨fun x hx => va_Nw.of (am_nw_on (List.mem_filter.mp hx).2) (hts x (List.mem_filter.mp hx).1), fun i hi => ?_, fun q hq => ?_, va_AO.of (hts _ (ws_t 333 (w := .arrayOver (.object "CornerClaims$Board")) (by decide +kernel))), va_AO.of (hts _ (ws_t 128 (w := .arrayOver (.object "CornerClaims$Shape")) (by decide +kernel))), hts _ (ws_t 1183 (w := .arrayOver (.array .int)) (by decide +kernel))⟩, ⟨Nat.le_refl _, vx_Zqof (hts _ (ws_t 557 (w := .laysStatic Bundle.tN "UNASSIGNED_STACK" Bundle.steD) (by decide +kernel))) (hts _ (ws_t 98 (w := .initialized Bundle.tN) (by decide +kernel))) (hw _ (ws_f 6 (w := .isRef (.static Bundle.tN "UNASSIGNED_STACK" Bundle.steD)) rfl)) hA, vx_Zqof (hts _ (ws_t 559 (w := .laysStatic Bundle.tN "SUPPRESSED_SENTINEL" Bundle.listD) (by decide +kernel))) (hts _ (ws_t 98 (w := .initialized Bundle.tN) (by decide +kernel))) (hw _ (ws_f 7 (w := .isRef (.static Bundle.tN "SUPPRESSED_SENTINEL" Bundle.listD)) rfl)) hA, ?_, ⟨va_Zof (hts _ (ws_t 646 (w := .laysStatic "java/lang/String" "COMPACT_STRINGS" "Z") (by decide +kernel))) (hts _ (ws_t 103 (w := .initialized "java/lang/String") (by decide +kernel))) (va_eqi (hw _ (ws_f 8 (w := .eq (.static "java/lang/String" "COMPACT_STRINGS" "Z") (.int 1)) rfl))) hA, ?_⟩, fun i hi => ?_⟩, by show g 100 < _; rw [g2]; exact plt, by show g 100 ≠ _; rw [g2]; exact pb, cell, by show s.heap[g 100]? = _; rw [g2]; exact e2, f2, e3, e4, f6 0 (by decide), f6 1 (by decide), f6 2 (by decide)⟩
  · show vk_R _ _ _ (g i) s
    rw [g1 i (by rw [← hn]; exact hi)]
    exact vk_R.of (hts _ (ws_sub_m ws_sr _ (List.mem_map.mpr ⟨i, List.mem_range.mpr hi, rfl⟩))) (had i hi).1
  · have nc : ∀ {C T : String} (k : Nat), ws_few[k]? = some (.not (.castable C T)) → va_Nc C T s := fun k h => va_Nc.of (hw _ (ws_f k h))
    unfold am_NC at hq
    rcases List.mem_cons.mp hq with rfl | hq
    · exact nc 11 rfl
    rcases List.mem_cons.mp hq with rfl | hq
    · exact nc 12 rfl
    rcases List.mem_cons.mp hq with rfl | hq
    · exact nc 13 rfl
    rcases List.mem_cons.mp hq with rfl | hq
    · exact nc 14 rfl
    rcases List.mem_cons.mp hq with rfl | hq
    · exact nc 10 rfl
    · cases hq
  · show va_Z _ _ _ (.ref (g 100)) _ _ _
    rw [g2]
    exact va_Zref (hts _ (ws_t 164 (w := .laysStatic "CornerClaims" "PLAIN_SCORE" "[I") (by decide +kernel))) (hts _ (ws_t 89 (w := .initialized "CornerClaims") (by decide +kernel))) e1 hA
  · show va_Z _ _ _ (va_rf (if g 301 = 0 then none else some (g 300))) _ _ _
    rw [g3, g4]
    exact hf
  · have hi9 : i < 29 := by rw [← hn]; exact hi
    obtain ⟨k1, k2, k3, k4, k5⟩ := had i hi
    show va_O _ (g i) _ _ _ ∧ va_OF _ _ _ _ (g i) _ _ _ ∧ va_OF _ _ _ (.ref (g (200 + i))) (g i) _ _ _ ∧ va_T _ (g (200 + i)) _ _ _ _ _
    rw [g1 i hi9, g5 i hi9]
    exact ⟨k2, k3, k4, k5⟩
end WB
