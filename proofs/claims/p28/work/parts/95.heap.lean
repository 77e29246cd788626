/-! The start: the heap as the law's walk takes it. -/
theorem gm_cd_pl {h : AH} {a : Nat} {f : Int → Int} {g : Int → Option Nat} (hc : h.1 a = some (110, 3, f, g)) (f0 : f 0 = -1) (f1 : f 1 = -2) (f2 : f 2 = -6) : CD h a gm_pln := by
  refine ⟨110, f, g, Or.inr rfl, hc, by decide, fun k o ho => ?_⟩
  match k, ho with
  | 0, ho => cases ho; exact f0
  | 1, ho => cases ho; exact f1
  | 2, ho => cases ho; exact f2
  | k + 3, ho => simp [gm_pln] at ho
/-- the numbers of a row of bytes say which bytes -/
theorem ws_b1 {x y : Int} (hx : 0 ≤ x ∧ x < 128) (hy : 0 ≤ y ∧ y < 128) (e : Value.int (Int32.ofInt x) = .int (Int32.ofInt y)) : x = y := by
  have e1 : (Int32.ofInt x).toInt = x := am_toInt ⟨by omega, by omega⟩
  have e2 : (Int32.ofInt y).toInt = y := am_toInt ⟨by omega, by omega⟩
  rw [← e1, ← e2, Value.int.inj e]
theorem ws_vn : ∀ k : Nat, k < 5 → gm_lit (36 + k) = gm_vn k := by decide +kernel
section WHP
variable {s : State} {w : am_w} {L : Nat} {xs : Nat → Int32} {a5 a6 rV o9 t9 : Nat} {args : Array Value} {A : Nat → Prop}
/-- what is known of the start -/
def ws_K (s : State) (w : am_w) (A : Nat → Prop) (L : Nat) (xs : Nat → Int32) (a5 a6 rV o9 t9 : Nat) : Prop :=
  (w.1 = s.heap.size ∧ L ≤ 260 ∧ w.2 100 ≠ w.2 400 ∧ va_X (w.2 400) L xs s s.heap) ∧
  (∃ cell : Cell, s.heap[w.2 100]? = some cell ∧ s.isArrayOf cell .int ∧ cell.vm ≠ .unknown ∧ cell.slots.size = 3 ∧ cell.slots[0]? = some (.int (-1)) ∧ cell.slots[1]? = some (.int (-2)) ∧ cell.slots[2]? = some (.int (-6))) ∧
  (∀ i, i < 41 → va_O "java/lang/String" (w.2 i) A s s.heap ∧ va_OF "java/lang/String" "coder" "B" (.int 0) (w.2 i) A s s.heap ∧ va_OF "java/lang/String" "value" "[B" (.ref (w.2 (200 + i))) (w.2 i) A s s.heap ∧ va_T .byte (w.2 (200 + i)) (am_len i) (fun j => .int (Int32.ofInt (am_byt i j))) A s s.heap ∧ ∃ cell : Cell, s.heap[w.2 (200 + i)]? = some cell ∧ cell.slots.size = am_len i) ∧
  (am_Sa "java/lang/Integer" "DigitOnes" "[B" (.ref o9) s s.heap a5 ∧ am_Sa "java/lang/Integer" "DigitTens" "[B" (.ref t9) s s.heap a5 ∧ ws_ty s a5 5) ∧
  (am_Sa "CornerClaimsLaw" "VARIABLES" "[Ljava/lang/String;" (.ref rV) s s.heap a6 ∧ ws_ty s a6 6) ∧
  (∃ cell : Cell, s.heap[rV]? = some cell ∧ s.isArrayOf cell (.object "java/lang/String") ∧ cell.vm ≠ .unknown ∧ cell.slots.size = 5 ∧ ∀ j : Nat, j < 5 → cell.slots[j]? = some (.ref (w.2 (36 + j)))) ∧
  (∃ cell : Cell, s.heap[o9]? = some cell ∧ s.isArrayOf cell .byte ∧ cell.vm ≠ .unknown ∧ cell.slots.size = 100 ∧ ∀ j : Nat, j < 100 → cell.slots[j]? = some (.int (Int32.ofInt ((48 + j % 10 : Nat) : Int)))) ∧
  ∃ cell : Cell, s.heap[t9]? = some cell ∧ s.isArrayOf cell .byte ∧ cell.vm ≠ .unknown ∧ cell.slots.size = 100 ∧ ∀ j : Nat, j < 100 → cell.slots[j]? = some (.int (Int32.ofInt ((48 + j / 10 : Nat) : Int)))
theorem ws_lt {x k : Nat} (h : ws_ty s x k) : x < s.heap.size := by
  obtain ⟨c, h, -⟩ := h
  exact (Array.getElem?_eq_some_iff.mp h).1
theorem ws_ne (hS : (Cond.instantiable "java/lang/String" 4).before args s = true) {x y k k' : Nat} (a : ws_ty s x k) (b : ws_ty s y k') (n : k ≠ k') : x ≠ y := fun e => by
  subst e
  exact n (ws_tyd hS a b)
/-- of what kind all that is -/
def ws_T (s : State) (w : am_w) (a5 a6 rV o9 t9 : Nat) : Prop := (ws_ty s (w.2 400) 1 ∧ ws_ty s (w.2 100) 1 ∧ ws_ty s a5 5 ∧ ws_ty s a6 6 ∧ ws_ty s rV 3 ∧ ws_ty s o9 2 ∧ ws_ty s t9 2) ∧ ∀ i, i < 41 → ws_ty s (w.2 i) 4 ∧ ws_ty s (w.2 (200 + i)) 2
theorem ws_K.t (K : ws_K s w A L xs a5 a6 rV o9 t9) : ws_T s w a5 a6 rV o9 t9 := by
  obtain ⟨⟨-, -, -, scr, x1, x2, -⟩, ⟨cp, p1, p2, -⟩, st, ⟨-, -, h5⟩, ⟨-, h6⟩, ⟨cr, r1, r2, -⟩, ⟨co, o1, o2, -⟩, ct, q1, q2, -⟩ := K
  refine ⟨⟨⟨scr, x1, Or.inl ⟨rfl, x2⟩⟩, ⟨cp, p1, Or.inl ⟨rfl, p2⟩⟩, h5, h6, ⟨cr, r1, Or.inr (Or.inr (Or.inl ⟨rfl, r2⟩))⟩, ⟨co, o1, Or.inr (Or.inl ⟨rfl, o2⟩)⟩, ⟨ct, q1, Or.inr (Or.inl ⟨rfl, q2⟩)⟩⟩, fun i hi => ?_⟩
  obtain ⟨⟨cell, g1, g2, g3, -⟩, -, -, ⟨cb, g4, g5, -⟩, -⟩ := st i hi
  exact ⟨⟨cell, g1, Or.inr (Or.inr (Or.inr (Or.inl ⟨rfl, g2, g3⟩)))⟩, ⟨cb, g4, Or.inr (Or.inl ⟨rfl, g5⟩)⟩⟩
theorem ws_s1 (K : ws_K s w A L xs a5 a6 rV o9 t9) {i : Nat} (hi : i < 41) : ws_hs w.2 (w.2 i) = some (112, 0, am_Z, am_G [some (w.2 (200 + i))]) := by
  have ex : ∃ j, j < 41 ∧ w.2 j = w.2 i := ⟨i, hi, rfl⟩
  have sp : ws_i1 w.2 (w.2 i) < 41 ∧ w.2 (ws_i1 w.2 (w.2 i)) = w.2 i := Classical.epsilon_spec ex
  have a := (K.2.2.1 _ sp.1).2.2.1
  rw [sp.2] at a
  have e := ws_ofu a (K.2.2.1 i hi).2.2.1
  unfold ws_hs
  rw [gm_ite_t ex, Value.ref.inj e]
theorem ws_s2 (hS : (Cond.instantiable "java/lang/String" 4).before args s = true) (K : ws_K s w A L xs a5 a6 rV o9 t9) {i : Nat} (hi : i < 41) : ws_hs w.2 (w.2 (200 + i)) = some (111, (am_len i : Int), fun j => am_byt i j.toNat, am_N) := by
  have T := K.t
  have n1 : ¬ ∃ j, j < 41 ∧ w.2 j = w.2 (200 + i) := fun ⟨j, hj, e⟩ => ws_ne hS (T.2 j hj).1 (T.2 i hi).2 (by decide) e
  have ex : ∃ j, j < 41 ∧ w.2 (200 + j) = w.2 (200 + i) := ⟨i, hi, rfl⟩
  have sp : ws_i2 w.2 (w.2 (200 + i)) < 41 ∧ w.2 (200 + ws_i2 w.2 (w.2 (200 + i))) = w.2 (200 + i) := Classical.epsilon_spec ex
  unfold ws_hs
  rw [gm_ite_f n1, gm_ite_t ex]
  generalize ws_i2 w.2 (w.2 (200 + i)) = j at sp
  obtain ⟨hj, e⟩ := sp
  obtain ⟨-, -, -, ⟨c1, k1, -, -, -, -, k2, -⟩, ⟨c2, k3, k4⟩⟩ := K.2.2.1 j hj
  obtain ⟨-, -, -, ⟨c3, m1, -, -, -, -, m2, -⟩, ⟨c4, m3, m4⟩⟩ := K.2.2.1 i hi
  rw [e] at k1 k3
  cases k1.symm.trans k3
  cases m1.symm.trans m3
  cases k1.symm.trans m1
  have el : am_len j = am_len i := k4.symm.trans m4
  have eb : (fun z : Int => am_byt j z.toNat) = fun z : Int => am_byt i z.toNat := by
    funext z
    by_cases c : z.toNat < am_len i
    · exact ws_b1 ((gm_lit_r j hj).2 _ (by omega)) ((gm_lit_r i hi).2 _ c) (Option.some.inj ((k2 _ (by omega)).symm.trans (m2 _ c)))
    · have c1 : (am_txt i).2.2.toList.length ≤ z.toNat := Nat.le_of_not_lt c
      have c2 : (am_txt j).2.2.toList.length ≤ z.toNat := by
        show am_len j ≤ _
        omega
      unfold am_byt
      rw [List.getD_eq_getElem?_getD, List.getD_eq_getElem?_getD, List.getElem?_eq_none c2, List.getElem?_eq_none c1]
  rw [el, eb]
theorem ws_vals (hS : (Cond.instantiable "java/lang/String" 4).before args s = true) (K : ws_K s w A L xs a5 a6 rV o9 t9) : (ws_h w.2 a5 a6 rV o9 t9 L xs (w.2 400) = some (110, (L : Int), fun j => (xs j.toNat).toInt, am_N) ∧ ws_h w.2 a5 a6 rV o9 t9 L xs (w.2 100) = some (110, 3, ws_P, am_N) ∧ ws_h w.2 a5 a6 rV o9 t9 L xs a5 = some (120, 0, am_Z, am_G [some o9, some t9]) ∧ ws_h w.2 a5 a6 rV o9 t9 L xs a6 = some (122, 0, am_Z, am_G [some rV]) ∧ ws_h w.2 a5 a6 rV o9 t9 L xs rV = some (113, 5, am_Z, ws_V w.2) ∧ ws_h w.2 a5 a6 rV o9 t9 L xs o9 = some (111, 100, fun j => 48 + j % 10, am_N) ∧ ws_h w.2 a5 a6 rV o9 t9 L xs t9 = some (111, 100, fun j => 48 + j / 10, am_N)) ∧ ∀ i, i < 41 → ws_h w.2 a5 a6 rV o9 t9 L xs (w.2 i) = some (112, 0, am_Z, am_G [some (w.2 (200 + i))]) ∧ ws_h w.2 a5 a6 rV o9 t9 L xs (w.2 (200 + i)) = some (111, (am_len i : Int), fun j => am_byt i j.toNat, am_N) := by
  obtain ⟨⟨tb, tp, t5, t6, tr, to, tt⟩, ts⟩ := K.t
  have pne := K.1.2.2.1
  have n : ∀ {x y k k' : Nat}, ws_ty s x k → ws_ty s y k' → k ≠ k' → x ≠ y := fun a b c => ws_ne hS a b c
  obtain ⟨co, o1, -, -, o4, o5⟩ := K.2.2.2.2.2.2.1
  obtain ⟨ct, q1, -, -, q4, q5⟩ := K.2.2.2.2.2.2.2
  have ot : t9 ≠ o9 := fun e => by
    rw [e] at q1
    cases o1.symm.trans q1
    exact absurd (Value.int.inj (Option.some.inj ((o5 1 (by decide)).symm.trans (q5 1 (by decide))))) (by decide)
  have so : ∀ i, i < 41 → w.2 (200 + i) ≠ o9 ∧ w.2 (200 + i) ≠ t9 := fun i hi => by
    obtain ⟨cell, k1, k2⟩ := (K.2.2.1 i hi).2.2.2.2
    have := (gm_lit_r i hi).1
    refine ⟨fun e => ?_, fun e => ?_⟩
    · rw [e] at k1
      cases k1.symm.trans o1
      omega
    · rw [e] at k1
      cases k1.symm.trans q1
      omega
  refine ⟨⟨if_pos rfl, (if_neg pne).trans (if_pos rfl), ?_, ?_, ?_, ?_, ?_⟩, fun i hi => ⟨?_, ?_⟩⟩
  · unfold ws_h
    rw [if_neg (n t5 tb (by decide)), if_neg (n t5 tp (by decide)), if_pos rfl]
  · unfold ws_h
    rw [if_neg (n t6 tb (by decide)), if_neg (n t6 tp (by decide)), if_neg (n t6 t5 (by decide)), if_pos rfl]
  · unfold ws_h
    rw [if_neg (n tr tb (by decide)), if_neg (n tr tp (by decide)), if_neg (n tr t5 (by decide)), if_neg (n tr t6 (by decide)), if_pos rfl]
  · unfold ws_h
    rw [if_neg (n to tb (by decide)), if_neg (n to tp (by decide)), if_neg (n to t5 (by decide)), if_neg (n to t6 (by decide)), if_neg (n to tr (by decide)), if_pos rfl]
  · unfold ws_h
    rw [if_neg (n tt tb (by decide)), if_neg (n tt tp (by decide)), if_neg (n tt t5 (by decide)), if_neg (n tt t6 (by decide)), if_neg (n tt tr (by decide)), if_neg ot, if_pos rfl]
  · have k := (ts i hi).1
    unfold ws_h
    rw [if_neg (n k tb (by decide)), if_neg (n k tp (by decide)), if_neg (n k t5 (by decide)), if_neg (n k t6 (by decide)), if_neg (n k tr (by decide)), if_neg (n k to (by decide)), if_neg (n k tt (by decide))]
    exact ws_s1 K hi
  · have k := (ts i hi).2
    unfold ws_h
    rw [if_neg (n k tb (by decide)), if_neg (n k tp (by decide)), if_neg (n k t5 (by decide)), if_neg (n k t6 (by decide)), if_neg (n k tr (by decide)), if_neg (so i hi).1, if_neg (so i hi).2]
    exact ws_s2 hS K hi
theorem ws_rep (hS : (Cond.instantiable "java/lang/String" 4).before args s = true) (K : ws_K s w A L xs a5 a6 rV o9 t9) : Rep w.1 s (ws_h w.2 a5 a6 rV o9 t9 L xs, s.heap.size, 0) s.heap := by
  obtain ⟨⟨vb, vp, v5, v6, vr9, vo, vt⟩, vs⟩ := ws_vals hS K
  obtain ⟨⟨w1, hL, -, scr, x1, x2, x3, x4, x5⟩, ⟨cp, p1, p2, p3, p4, p5, p6, p7⟩, st, ⟨h5a, h5b, c5, h5c, -⟩, ⟨h6a, c6, h6c, -⟩, ⟨cr, r1, r2, r3, r4, r5⟩, ⟨co, o1, o2, o3, o4, o5⟩, ct, q1, q2, q3, q4, q5⟩ := id K
  refine ⟨rfl, fun a x ha => ?_⟩
  have ha : ws_h w.2 a5 a6 rV o9 t9 L xs a = some x := ha
  by_cases e1 : a = w.2 400
  · subst e1
    cases vb.symm.trans ha
    refine ⟨scr, x1, x2, x3, by rw [x4]; rfl, by show (0 : Int) ≤ L; omega, by show (L : Int) < 2147483648; omega, fun j hj => ?_⟩
    rw [x5 j hj]
    show some (Value.int (xs j)) = some (Value.int (Int32.ofInt ((xs ((j : Int)).toNat).toInt)))
    rw [Int32.ofInt_toInt, Int.toNat_natCast]
  by_cases e2 : a = w.2 100
  · subst e2
    cases vp.symm.trans ha
    refine ⟨cp, p1, p2, p3, p4, by decide, by decide, fun j hj => ?_⟩
    rcases (show j = 0 ∨ j = 1 ∨ j = 2 by have hj : j < 3 := hj; omega) with rfl | rfl | rfl
    · exact p5
    · exact p6
    · exact p7
  by_cases e3 : a = a5
  · subst e3
    cases v5.symm.trans ha
    exact ⟨⟨c5, h5c⟩, fun z => absurd z (show ¬ (120 : Nat) = 112 by decide), fun z => absurd z (show ¬ (120 : Nat) = 113 by decide), fun _ => ⟨h5a, h5b⟩, fun z => absurd z (show ¬ (120 : Nat) = 122 by decide)⟩
  by_cases e4 : a = a6
  · subst e4
    cases v6.symm.trans ha
    exact ⟨⟨c6, h6c⟩, fun z => absurd z (show ¬ (122 : Nat) = 112 by decide), fun z => absurd z (show ¬ (122 : Nat) = 113 by decide), fun z => absurd z (show ¬ (122 : Nat) = 120 by decide), fun _ => h6a⟩
  by_cases e5 : a = rV
  · subst e5
    cases vr9.symm.trans ha
    refine ⟨⟨cr, r1⟩, fun z => absurd z (show ¬ (113 : Nat) = 112 by decide), fun _ => ⟨show (0 : Int) ≤ 5 by decide, show (5 : Int) < 2147483648 by decide, cr, r1, r2, r3, r4, fun j hj => ?_⟩, fun z => absurd z (show ¬ (113 : Nat) = 120 by decide), fun z => absurd z (show ¬ (113 : Nat) = 122 by decide)⟩
    rw [r5 j hj]
    show _ = some (Value.ref (w.2 (36 + ((j : Int)).toNat)))
    rw [Int.toNat_natCast]
  by_cases e6 : a = o9
  · subst e6
    cases vo.symm.trans ha
    refine ⟨co, o1, o2, o3, o4, by decide, by decide, fun j hj => ?_⟩
    rw [o5 j hj]
    show _ = some (Value.int (Int32.ofInt (48 + (j : Int) % 10)))
    rw [show ((48 + j % 10 : Nat) : Int) = 48 + (j : Int) % 10 by omega]
  by_cases e7 : a = t9
  · subst e7
    cases vt.symm.trans ha
    refine ⟨ct, q1, q2, q3, q4, by decide, by decide, fun j hj => ?_⟩
    rw [q5 j hj]
    show _ = some (Value.int (Int32.ofInt (48 + (j : Int) / 10)))
    rw [show ((48 + j / 10 : Nat) : Int) = 48 + (j : Int) / 10 by omega]
  by_cases e8 : ∃ i, i < 41 ∧ w.2 i = a
  · obtain ⟨i, hi, rfl⟩ := e8
    cases (vs i hi).1.symm.trans ha
    obtain ⟨⟨cell, g1, g2, g3, -⟩, g4, g5, -⟩ := st i hi
    exact ⟨⟨cell, g1⟩, fun _ => ⟨⟨cell, g1, g2, g3⟩, ws_oa g4, ws_oa g5⟩, fun z => absurd z (show ¬ (112 : Nat) = 113 by decide), fun z => absurd z (show ¬ (112 : Nat) = 120 by decide), fun z => absurd z (show ¬ (112 : Nat) = 122 by decide)⟩
  by_cases e9 : ∃ i, i < 41 ∧ w.2 (200 + i) = a
  · obtain ⟨i, hi, rfl⟩ := e9
    cases (vs i hi).2.symm.trans ha
    obtain ⟨-, -, -, ⟨cb, k1, k2, k3, -, -, k4, -⟩, cb', k5, k6⟩ := st i hi
    cases k1.symm.trans k5
    have ln := (gm_lit_r i hi).1
    refine ⟨cb, k1, k2, k3, k6, by show (0 : Int) ≤ am_len i; omega, by show (am_len i : Int) < 2147483648; omega, fun j hj => ?_⟩
    rw [k4 j (by have hj : j < ((am_len i : Int)).toNat := hj; omega)]
    show _ = some (Value.int (Int32.ofInt (am_byt i ((j : Int)).toNat)))
    rw [Int.toNat_natCast]
  · unfold ws_h ws_hs at ha
    rw [if_neg e1, if_neg e2, if_neg e3, if_neg e4, if_neg e5, if_neg e6, if_neg e7, gm_ite_f e8, gm_ite_f e9] at ha
    cases ha
theorem ws_w0 (hS : (Cond.instantiable "java/lang/String" 4).before args s = true) (K : ws_K s w A L xs a5 a6 rV o9 t9) : W0 w (ws_h w.2 a5 a6 rV o9 t9 L xs, s.heap.size, 0) := by
  obtain ⟨⟨vb, vp, v5, v6, vr9, vo, vt⟩, vs⟩ := ws_vals hS K
  obtain ⟨⟨tb, tp, t5, t6, tr, to, tt⟩, ts⟩ := K.t
  have hL := K.1.2.1
  have sc : SCR w (ws_h w.2 a5 a6 rV o9 t9 L xs, s.heap.size + 1, 0) s.heap.size := ⟨ws_lt tb, (L : Int), fun j => (xs j.toNat).toInt, am_N, vb, ⟨by omega, by omega⟩, fun k => ⟨Int32.le_toInt _, Int32.toInt_lt _⟩⟩
  have lit : LIT w (ws_h w.2 a5 a6 rV o9 t9 L xs, s.heap.size + 1, 0) s.heap.size := fun i hi => ⟨⟨ws_lt (ts i hi).1, ws_lt (ts i hi).2⟩, ⟨0, am_Z, (vs i hi).1⟩, ⟨am_N, (vs i hi).2⟩⟩
  have tx : TXX w (ws_h w.2 a5 a6 rV o9 t9 L xs, s.heap.size + 1, 0) s.heap.size := by
    refine ⟨⟨Nat.le_succ _, lit, ⟨a6, rV, 0, am_Z, am_Z, ws_V w.2, ⟨ws_lt t6, ws_lt tr⟩, v6, vr9, fun k k0 k1 => ?_⟩, ⟨Nat.lt_succ_self _, a5, o9, t9, 0, am_Z, _, _, am_N, am_N, ⟨ws_lt t5, ws_lt to, ws_lt tt⟩, v5, vo, vt, fun j _ _ => rfl, fun j _ _ => rfl⟩⟩, sc⟩
    have hk : 36 + k.toNat < 41 := by omega
    refine ⟨w.2 (36 + k.toNat), w.2 (200 + (36 + k.toNat)), rfl, ⟨ws_lt (ts _ hk).1, ws_lt (ts _ hk).2⟩, ?_⟩
    have := lit.st (i := 36 + k.toNat) (Nat.le_succ _) hk
    rw [ws_vn k.toNat (by omega), show ((k.toNat : Nat) : Int) = k by omega] at this
    exact this
  exact ⟨⟨gm_cd_pl vp rfl rfl rfl, ws_lt tp⟩, s.heap.size, Nat.le_refl _, sc, fun h1 t F => tx.mv (Nat.succ_le_of_lt t) F⟩
end WHP
