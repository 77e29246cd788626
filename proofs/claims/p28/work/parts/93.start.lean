/-! The law: where it starts. -/
def ws_sub : List Cond → List Cond → Bool
  | xs, [] => xs.isEmpty
  | [], _ :: _ => true
  | x :: xs, y :: ys => bif decide (x = y) then ws_sub xs ys else ws_sub (x :: xs) ys
theorem ws_sub_m : ∀ {ys xs : List Cond}, ws_sub xs ys = true → ∀ w ∈ xs, w ∈ ys
  | [], [], _, w, hw => absurd hw List.not_mem_nil
  | [], x :: xs, h, w, hw => by cases h
  | y :: ys, [], _, w, hw => absurd hw List.not_mem_nil
  | y :: ys, x :: xs, h, w, hw => by
    unfold ws_sub at h
    by_cases e : x = y
    · rw [decide_eq_true e] at h
      rcases List.mem_cons.mp hw with q | q
      · rw [q, e]; exact List.mem_cons_self
      · exact List.mem_cons_of_mem _ (ws_sub_m h w q)
    · rw [decide_eq_false e] at h
      exact List.mem_cons_of_mem _ (ws_sub_m h w hw)
def ws_tm (i : Nat) : Term := .string (am_txt i).1 (am_txt i).2.1
/-- what the start says of a text -/
def ws_st (i : Nat) : List Cond := Cond.exactly (ws_tm i) "java/lang/String" :: Cond.eq (.field (ws_tm i) "java/lang/String" "coder" "B") (.int 0) :: Cond.arrayOf (.field (ws_tm i) "java/lang/String" "value" "[B") .byte :: Cond.eq (.length (.field (ws_tm i) "java/lang/String" "value" "[B")) (.int (Int32.ofNat (am_len i))) :: (List.range (am_len i)).map fun j => Cond.eq (.elem (.field (ws_tm i) "java/lang/String" "value" "[B") (.int (Int32.ofNat j))) (.int (Int32.ofInt (am_byt i j)))
def ws_nl : List Cond := flatC (Jvm.Cond.and given_1 narrow_1)
theorem ws_all : ws_sub ((List.range 41).flatMap ws_st) ws_nl = true := by decide +kernel
theorem ws_in {i : Nat} (hi : i < am_STR.length) {w : Cond} (hw : w ∈ ws_st i) : w ∈ ws_nl := ws_sub_m ws_all w (List.mem_flatMap.mpr ⟨i, List.mem_range.mpr hi, hw⟩)
theorem ws_len31 : ∀ i, i < 41 → am_len i < 2 ^ 31 := by decide +kernel
def ws_few : List Cond := [.isRef (.static "CornerClaims" "PLAIN_SCORE" "[I"), .arrayOf (.static "CornerClaims" "PLAIN_SCORE" "[I") .int, .eq (.length (.static "CornerClaims" "PLAIN_SCORE" "[I")) (.int 3), .eq (.elem (.static "CornerClaims" "PLAIN_SCORE" "[I") (.int 0)) (.int (-1)), .eq (.elem (.static "CornerClaims" "PLAIN_SCORE" "[I") (.int 1)) (.int (-2)), .eq (.elem (.static "CornerClaims" "PLAIN_SCORE" "[I") (.int 2)) (.int (-6)), .isRef (.static Bundle.tN "UNASSIGNED_STACK" Bundle.steD), .isRef (.static Bundle.tN "SUPPRESSED_SENTINEL" Bundle.listD), .eq (.static "java/lang/String" "COMPACT_STRINGS" "Z") (.int 1), .isRef (.static "jdk/internal/util/Preconditions" "SIOOBE_FORMATTER" "Ljava/util/function/BiFunction;"), .arrayOf (.static "CornerClaimsLaw" "VARIABLES" "[Ljava/lang/String;") (.object "java/lang/String"), .eq (.length (.static "CornerClaimsLaw" "VARIABLES" "[Ljava/lang/String;")) (.int 5), .eq (.elem (.static "CornerClaimsLaw" "VARIABLES" "[Ljava/lang/String;") (.int 0)) (.string "CornerClaimsLaw" 297), .eq (.elem (.static "CornerClaimsLaw" "VARIABLES" "[Ljava/lang/String;") (.int 1)) (.string "CornerClaimsLaw" 298), .eq (.elem (.static "CornerClaimsLaw" "VARIABLES" "[Ljava/lang/String;") (.int 2)) (.string "CornerClaimsLaw" 299), .eq (.elem (.static "CornerClaimsLaw" "VARIABLES" "[Ljava/lang/String;") (.int 3)) (.string "CornerClaimsLaw" 300), .eq (.elem (.static "CornerClaimsLaw" "VARIABLES" "[Ljava/lang/String;") (.int 4)) (.string "CornerClaimsLaw" 301), .not (.castable "java/lang/IllegalStateException" "java/lang/IllegalArgumentException"), .not (.castable "java/lang/IllegalArgumentException" "java/util/NoSuchElementException"), .not (.castable "java/lang/IllegalArgumentException" "java/lang/IndexOutOfBoundsException"), .not (.castable "java/util/NoSuchElementException" "java/lang/IndexOutOfBoundsException"), .not (.castable "java/lang/IllegalStateException" "java/lang/IndexOutOfBoundsException"), .not (.eq (.arg 0) (.static "CornerClaims" "PLAIN_SCORE" "[I"))]
theorem ws_fe : ws_sub ws_few ws_nl = true := by decide +kernel
theorem ws_f (k : Nat) {w : Cond} (h : ws_few[k]? = some w) : w ∈ ws_nl := ws_sub_m ws_fe w (List.mem_of_getElem? h)
def ws_dt (n : String) : Term := .static "java/lang/Integer" n "[B"
/-- what the start says of a table of digits -/
def ws_dl (n : String) (f : Nat → Nat) : List Cond := .arrayOf (ws_dt n) .byte :: .eq (.length (ws_dt n)) (.int (Int32.ofNat 100)) :: (List.range 100).map fun j => Cond.eq (.elem (ws_dt n) (.int (Int32.ofNat j))) (.int (Int32.ofInt ((f j : Nat) : Int)))
theorem ws_do : ws_sub (ws_dl "DigitOnes" (fun j => 48 + j % 10) ++ ws_dl "DigitTens" (fun j => 48 + j / 10)) ws_nl = true := by decide +kernel
theorem ws_t (k : Nat) {w : Cond} (h : lw_tbl[k]? = some w) : w ∈ lw_tbl := List.mem_of_getElem? h
/-- an array's length, as it is -/
theorem ws_ln {args : Array Value} {s : State} {tm : Term} {N : Nat} (hN : N < 2 ^ 31) (h : (Term.length tm).eval args s none [] s = some (.int (Int32.ofNat N))) : ∃ (t : Nat) (cell : Cell), tm.eval args s none [] s = some (.ref t) ∧ s.heap[t]? = some cell ∧ cell.vm ≠ .unknown ∧ cell.slots.size = N := by
  obtain ⟨t, cell, ht, harr, e⟩ := Term.length_spec h
  have hsz : cell.slots.size < 2 ^ 31 := by
    simp only [Term.eval, ht, harr, Option.bind_eq_bind, Option.bind_some] at h
    by_cases hlt : cell.slots.size < 2147483648
    · exact hlt
    · simp [hlt] at h
  obtain ⟨hc, hk, -, -⟩ := State.arrayAt?_spec harr
  refine ⟨t, cell, ht, hc, hk, ?_⟩
  injection e with e
  have e3 := congrArg Int32.toInt e
  rw [show cell.slots.size.toInt32 = Int32.ofNat cell.slots.size from rfl, Int32.toInt_ofNat_small hsz, Int32.toInt_ofNat_small hN] at e3
  omega
section WS
variable {s : State} {b : Nat}
theorem ws_str (hw : ∀ w ∈ ws_nl, w.before #[Value.ref b] s = true) {A : Nat → Prop} (hA : ∀ a : Nat, a < s.heap.size → ¬ A a) (i : Nat) (hi : i < am_STR.length) : ∃ a v : Nat, (ws_tm i).eval #[Value.ref b] s none [] s = some (.ref a) ∧ va_O "java/lang/String" a A s s.heap ∧ va_OF "java/lang/String" "coder" "B" (.int 0) a A s s.heap ∧ va_OF "java/lang/String" "value" "[B" (.ref v) a A s s.heap ∧ va_T .byte v (am_len i) (fun j => .int (Int32.ofInt (am_byt i j))) A s s.heap ∧ ∃ cell : Cell, s.heap[v]? = some cell ∧ cell.slots.size = am_len i := by
  have w0 := hw _ (ws_in hi (w := Cond.exactly (ws_tm i) "java/lang/String") List.mem_cons_self)
  have w1 := hw _ (ws_in hi (w := Cond.eq (.field (ws_tm i) "java/lang/String" "coder" "B") (.int 0)) (List.mem_cons_of_mem _ List.mem_cons_self))
  have w2 := hw _ (ws_in hi (w := Cond.arrayOf (.field (ws_tm i) "java/lang/String" "value" "[B") .byte) (List.mem_cons_of_mem _ (List.mem_cons_of_mem _ List.mem_cons_self)))
  have w3 := hw _ (ws_in hi (w := Cond.eq (.length (.field (ws_tm i) "java/lang/String" "value" "[B")) (.int (Int32.ofNat (am_len i)))) (List.mem_cons_of_mem _ (List.mem_cons_of_mem _ (List.mem_cons_of_mem _ List.mem_cons_self))))
  have w4 : ∀ j : Nat, j < am_len i → (Cond.eq (.elem (.field (ws_tm i) "java/lang/String" "value" "[B") (.int (Int32.ofNat j))) (.int (Int32.ofInt (am_byt i j)))).before #[Value.ref b] s = true := fun j hj => hw _ (ws_in hi (List.mem_cons_of_mem _ (List.mem_cons_of_mem _ (List.mem_cons_of_mem _ (List.mem_cons_of_mem _ (List.mem_map.mpr ⟨j, List.mem_range.mpr hj, rfl⟩))))))
  obtain ⟨a, c, cA, kA, q1, q2, q3, q4, q5, q6, -⟩ := Cond.exactly_spec (args := #[Value.ref b]) (first := s) (o := none) (s := s) (idx := []) (t := ws_tm i) (cls := "java/lang/String") w0
  obtain ⟨t, ht, hT⟩ := va_Tof (f := fun j => .int (Int32.ofInt (am_byt i j))) (A := A) (ws_len31 i hi) w2 (va_eqt w3) (fun j hj => va_eqt (w4 j hj)) hA
  obtain ⟨t2, cell, ht2, k1, -, k2⟩ := ws_ln (ws_len31 i hi) (va_eqt w3)
  cases ht.symm.trans ht2
  exact ⟨a, t, q1, ⟨cA, q3, q5, by rw [q6]; exact q2, hA a (Array.getElem?_eq_some_iff.mp q3).1⟩, vk_OFof q1 (va_eqt w1) hA, vk_OFof q1 ht hA, hT, cell, k1, k2⟩
end WS
