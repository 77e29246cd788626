/-! The law: its cases that read. -/
section PC2
variable {D : Int → Int} {p x y k pl : Int} {A B : Int ⊕ Nat → Prop} {r r' : Int ⊕ Nat} {P P' : Int → Prop}
theorem gA_p.m (h : ∀ r, A r → B r) (q : gA_p D p A r) : gA_p D p B r := q.imp id fun q => ⟨q.1, h r q.2⟩
theorem gA_xy.m (h : ∀ r, A r → B r) (q : gA_xy D x y A r) : gA_xy D x y B r := q.imp id fun q => ⟨q.1, h r q.2⟩
theorem gA_c.m (h : ∀ r, A r → B r) (q : gA_c D p A r) : gA_c D p B r := q.imp id fun q => ⟨q.1, h r q.2⟩
theorem gA_pl.m (h : ∀ r, A r → B r) (q : gA_pl pl A r) : gA_pl pl B r := q.imp id fun q => ⟨q.1, h r q.2⟩
theorem gA_pc2 (h : (0 ≤ p ∧ p < D 3) → pC D p = 1 → ∀ z z', P z → P' z' → z = z') (a : gA_p D p (gA_c D p (gA_z P)) r) (b : gA_p D p (gA_c D p (gA_z P')) r') : r = r' := by
  rcases a with ⟨a1, a2⟩ | ⟨a1, ⟨a2, a3⟩ | ⟨a2, z, a3, a4⟩⟩ <;> rcases b with ⟨b1, b2⟩ | ⟨b1, ⟨b2, b3⟩ | ⟨b2, z', b3, b4⟩⟩
  · exact a2.trans b2.symm
  · exact absurd b1 a1
  · exact absurd b1 a1
  · exact absurd a1 b1
  · exact a3.trans b3.symm
  · omega
  · exact absurd a1 b1
  · omega
  · rw [a4, b4, h a1 a2 z z' a3 b3]
theorem gA_pl2 (h : ∀ z z', P z → P' z' → z = z') (a : gA_pl pl (gA_z P) r) (b : gA_pl pl (gA_z P') r') : r = r' := by
  rcases a with ⟨a1, a2⟩ | ⟨a1, z, a2, a3⟩ <;> rcases b with ⟨b1, b2⟩ | ⟨b1, z', b2, b3⟩
  · exact a2.trans b2.symm
  · exact absurd b1 a1
  · exact absurd a1 b1
  · rw [a3, b3, h z z' a2 b2]
end PC2
theorem JC.gv {w : am_w} {h : AH} {o n out : Nat} {D cm : Int → Int} {sc : Nat} {L : GL} {tx : Int → Int} {bl le : Int} {Hs : List GE} {f : Int → Int} (k : JC w h o n out D cm sc L tx bl le Hs f) : GV D := k.2.2.2.2.2.2.1
theorem j_count {nm : String} {T : List (Nat × Nat × Nat × Nat)} {w : am_w} {h : AH} {o n out b : Nat} {len i : Int} {g : Int → Int} {Q : RV → AH → Prop} (J : JI w h o n out) (S : SKR h b o len g i) (kk : ∀ h1, JI w h1 o n out → JG o h h1 → AQ w (mL nm T) 24 1582 [(0, vr b), (1, vr o), (2, vr n), (3, vr out), (4, vi i)] [] h1 Q) : AQ w (mL nm T) 24 298 [(0, vr b), (1, vr o), (2, vr n), (3, vr out), (4, vi i)] [] h Q := by
  obtain ⟨D, cm, sc, L, tx, bl, le, Hs, f, th, ud, bf, rw, J, M, B, C, H⟩ := J
  obtain ⟨⟨G, s0⟩, bo, i0, i1, l1, hg⟩ := id S
  refine q_blk (lv2 := [(0, vr b), (1, vr o), (2, vr n), (3, vr out), (4, vi i)]) (st2 := [vi (i + 1), vr b, vr o]) kL_law_298 rfl ?_
  refine q_ia eL_law_304 s0 (Or.inr rfl) (by omega) (by omega) rfl ?_
  refine q_blk (lv2 := [(0, vr b), (1, vr o), (2, vr n), (3, vr out), (4, vi i)]) (st2 := [vr out, vi (g (i + 1)), vr o]) kL_law_305 rfl ?_
  refine AQ.callWi (av := [vr o, vi (g (i + 1)), vr out]) (st := []) (c_L_count (J.an (c_X8_count J.1 (hg _))) J.1.ob (fun z h1 q => q.2.1.2.1) (fun k h1 q => by have q := q.1; simp only [gA_p, gA_k, gA_xy, gA_c, gA_z, gA_pl, gA_pol, gA_cnt, gA_sto, gm_F, gA_f, Sum.inr.injEq, reduceCtorEq, and_false, or_false, false_or, exists_const, exists_false] at q; omega)) lk_L_count (by decide) rfl rfl (Nat.le_of_ble_eq_true rfl) eL_law_306 (fun z1 h1 p1 => ?_)
  obtain ⟨r, f1, hA, J1, M1, g1, t1⟩ := J.rd M p1
  obtain ⟨G1, s1⟩ := (S.go g1).1
  refine q_blk (lv2 := [(0, vr b), (1, vr o), (2, vr n), (3, vr out), (4, vi i), (5, vi z1)]) (st2 := [vi (i + 1), vr b, vr n]) kL_law_309 rfl ?_
  refine q_ia eL_law_317 s1 (Or.inr rfl) (by omega) (by omega) rfl ?_
  refine AQ.callVi (av := [vi (g (i + 1))]) (st := []) (c_X9_count M1 J1.vd J1.ms (hg _)) lk_RL_106 (by decide) rfl rfl M1.ob ⟨_, rfl, rfl⟩ (Nat.le_of_ble_eq_true rfl) eL_law_318 (fun z2 h2 p2 => ?_)
  obtain ⟨th2, r2, hA2, an, M2, fr⟩ := p2
  obtain rfl : r = r2 := UN.cnt _ _ hA hA2
  have J2 := J1.m fr
  refine q_blk (lv2 := [(0, vr b), (1, vr o), (2, vr n), (3, vr out), (4, vi i), (5, vi z1), (6, vi z2)]) (st2 := [vr n]) kL_law_321 rfl ?_
  refine q_Vi (av := []) (st := []) (c_X9_thrown M2) lk_RL_96 (by decide) rfl rfl M2.ob ⟨_, rfl, rfl⟩ (Nat.le_of_ble_eq_true rfl) eL_law_324 (fun z3 e3 => ?_)
  subst e3
  exact jt kL_law_327 eL_law_329 kL_law_334 eL_law_336 kL_law_339 eL_law_341 kL_law_342 eL_law_344 eL_law_345 eL_law_346 eL_law_351 (by decide) J2.2.1 (gm_cmp (fun _ => rfl) (fun k => by (repeat (first | split | decide))) t1 an) (kk h2 ⟨D, cm, sc, L, tx, bl, le, Hs, f1, _, ud, bf, rw, J2, M2, B, C, H⟩ (g1.fr fr (by have := J.2.2.1; omega)))

theorem j_stone {nm : String} {T : List (Nat × Nat × Nat × Nat)} {w : am_w} {h : AH} {o n out b : Nat} {len i : Int} {g : Int → Int} {Q : RV → AH → Prop} (J : JI w h o n out) (S : SKR h b o len g i) (kk : ∀ h1, JI w h1 o n out → JG o h h1 → AQ w (mL nm T) 24 1582 [(0, vr b), (1, vr o), (2, vr n), (3, vr out), (4, vi i)] [] h1 Q) : AQ w (mL nm T) 24 354 [(0, vr b), (1, vr o), (2, vr n), (3, vr out), (4, vi i)] [] h Q := by
  obtain ⟨D, cm, sc, L, tx, bl, le, Hs, f, th, ud, bf, rw, J, M, B, C, H⟩ := J
  obtain ⟨⟨G, s0⟩, bo, i0, i1, l1, hg⟩ := id S
  refine q_blk (lv2 := [(0, vr b), (1, vr o), (2, vr n), (3, vr out), (4, vi i)]) (st2 := [vi (i + 1), vr b, vr o]) kL_law_354 rfl ?_
  refine q_ia eL_law_360 s0 (Or.inr rfl) (by omega) (by omega) rfl ?_
  refine q_blk (lv2 := [(0, vr b), (1, vr o), (2, vr n), (3, vr out), (4, vi i)]) (st2 := [vi (i + 2), vr b, vi (g (i + 1)), vr o]) kL_law_361 rfl ?_
  refine q_ia eL_law_366 s0 (Or.inr rfl) (by omega) (by omega) rfl ?_
  refine q_blk (lv2 := [(0, vr b), (1, vr o), (2, vr n), (3, vr out), (4, vi i)]) (st2 := [vr out, vi (g (i + 2)), vi (g (i + 1)), vr o]) kL_law_367 rfl ?_
  refine AQ.callWi (av := [vr o, vi (g (i + 1)), vi (g (i + 2)), vr out]) (st := []) (c_L_stone (J.an (c_X8_stone J.1 (hg _) (hg _))) J.1.ob (fun z h1 q => q.2.1.2.1) (fun k h1 q => by have q := q.1; simp only [gA_p, gA_k, gA_xy, gA_c, gA_z, gA_pl, gA_pol, gA_cnt, gA_sto, gm_F, gA_f, Sum.inr.injEq, reduceCtorEq, and_false, or_false, false_or, exists_const, exists_false] at q; omega)) lk_L_stone (by decide) rfl rfl (Nat.le_of_ble_eq_true rfl) eL_law_368 (fun z1 h1 p1 => ?_)
  obtain ⟨r, f1, hA, J1, M1, g1, t1⟩ := J.rd M p1
  obtain ⟨G1, s1⟩ := (S.go g1).1
  refine q_blk (lv2 := [(0, vr b), (1, vr o), (2, vr n), (3, vr out), (4, vi i), (5, vi z1)]) (st2 := [vi (i + 1), vr b, vr n]) kL_law_371 rfl ?_
  refine q_ia eL_law_379 s1 (Or.inr rfl) (by omega) (by omega) rfl ?_
  refine q_blk (lv2 := [(0, vr b), (1, vr o), (2, vr n), (3, vr out), (4, vi i), (5, vi z1)]) (st2 := [vi (i + 2), vr b, vi (g (i + 1)), vr n]) kL_law_380 rfl ?_
  refine q_ia eL_law_385 s1 (Or.inr rfl) (by omega) (by omega) rfl ?_
  refine AQ.callVi (av := [vi (g (i + 1)), vi (g (i + 2))]) (st := []) (c_X9_stone M1 J1.vd J1.ms (hg _) (hg _)) lk_RL_110 (by decide) rfl rfl M1.ob ⟨_, rfl, rfl⟩ (Nat.le_of_ble_eq_true rfl) eL_law_386 (fun z2 h2 p2 => ?_)
  obtain ⟨th2, r2, hA2, an, M2, fr⟩ := p2
  obtain rfl : r = r2 := UN.sto _ _ hA hA2
  have J2 := J1.m fr
  refine q_blk (lv2 := [(0, vr b), (1, vr o), (2, vr n), (3, vr out), (4, vi i), (5, vi z1), (6, vi z2)]) (st2 := [vr n]) kL_law_389 rfl ?_
  refine q_Vi (av := []) (st := []) (c_X9_thrown M2) lk_RL_96 (by decide) rfl rfl M2.ob ⟨_, rfl, rfl⟩ (Nat.le_of_ble_eq_true rfl) eL_law_392 (fun z3 e3 => ?_)
  subst e3
  exact jt kL_law_395 eL_law_397 kL_law_402 eL_law_404 kL_law_407 eL_law_409 kL_law_410 eL_law_412 eL_law_413 eL_law_414 eL_law_419 (by decide) J2.2.1 (gm_cmp (fun _ => rfl) (fun k => by (repeat (first | split | decide))) t1 an) (kk h2 ⟨D, cm, sc, L, tx, bl, le, Hs, f1, _, ud, bf, rw, J2, M2, B, C, H⟩ (g1.fr fr (by have := J.2.2.1; omega)))

theorem j_polygon {nm : String} {T : List (Nat × Nat × Nat × Nat)} {w : am_w} {h : AH} {o n out b : Nat} {len i : Int} {g : Int → Int} {Q : RV → AH → Prop} (J : JI w h o n out) (S : SKR h b o len g i) (kk : ∀ h1, JI w h1 o n out → JG o h h1 → AQ w (mL nm T) 24 1582 [(0, vr b), (1, vr o), (2, vr n), (3, vr out), (4, vi i)] [] h1 Q) : AQ w (mL nm T) 24 422 [(0, vr b), (1, vr o), (2, vr n), (3, vr out), (4, vi i)] [] h Q := by
  obtain ⟨D, cm, sc, L, tx, bl, le, Hs, f, th, ud, bf, rw, J, M, B, C, H⟩ := J
  obtain ⟨⟨G, s0⟩, bo, i0, i1, l1, hg⟩ := id S
  refine q_blk (lv2 := [(0, vr b), (1, vr o), (2, vr n), (3, vr out), (4, vi i)]) (st2 := [vi (i + 1), vr b, vr o]) kL_law_422 rfl ?_
  refine q_ia eL_law_428 s0 (Or.inr rfl) (by omega) (by omega) rfl ?_
  refine q_blk (lv2 := [(0, vr b), (1, vr o), (2, vr n), (3, vr out), (4, vi i)]) (st2 := [vi (i + 2), vr b, vi (g (i + 1)), vr o]) kL_law_429 rfl ?_
  refine q_ia eL_law_434 s0 (Or.inr rfl) (by omega) (by omega) rfl ?_
  refine q_blk (lv2 := [(0, vr b), (1, vr o), (2, vr n), (3, vr out), (4, vi i)]) (st2 := [vr out, vi (g (i + 2)), vi (g (i + 1)), vr o]) kL_law_435 rfl ?_
  refine AQ.callWi (av := [vr o, vi (g (i + 1)), vi (g (i + 2)), vr out]) (st := []) (c_L_polygon (J.an (c_X8_polygon J.1 (hg _) (hg _))) J.1.ob (fun z h1 q => q.2.1.2.1) (fun k h1 q => by have q := q.1; simp only [gA_p, gA_k, gA_xy, gA_c, gA_z, gA_pl, gA_pol, gA_cnt, gA_sto, gm_F, gA_f, Sum.inr.injEq, reduceCtorEq, and_false, or_false, false_or, exists_const, exists_false] at q; omega)) lk_L_polygon (by decide) rfl rfl (Nat.le_of_ble_eq_true rfl) eL_law_436 (fun z1 h1 p1 => ?_)
  obtain ⟨r, f1, hA, J1, M1, g1, t1⟩ := J.rd M p1
  obtain ⟨G1, s1⟩ := (S.go g1).1
  refine q_blk (lv2 := [(0, vr b), (1, vr o), (2, vr n), (3, vr out), (4, vi i), (5, vi z1)]) (st2 := [vi (i + 1), vr b, vr n]) kL_law_439 rfl ?_
  refine q_ia eL_law_447 s1 (Or.inr rfl) (by omega) (by omega) rfl ?_
  refine q_blk (lv2 := [(0, vr b), (1, vr o), (2, vr n), (3, vr out), (4, vi i), (5, vi z1)]) (st2 := [vi (i + 2), vr b, vi (g (i + 1)), vr n]) kL_law_448 rfl ?_
  refine q_ia eL_law_453 s1 (Or.inr rfl) (by omega) (by omega) rfl ?_
  refine AQ.callVi (av := [vi (g (i + 1)), vi (g (i + 2))]) (st := []) (c_X9_polygon M1 J1.vd (hg _) (hg _)) lk_RL_113 (by decide) rfl rfl M1.ob ⟨_, rfl, rfl⟩ (Nat.le_of_ble_eq_true rfl) eL_law_454 (fun z2 h2 p2 => ?_)
  obtain ⟨th2, r2, hA2, an, M2, fr⟩ := p2
  obtain rfl : r = r2 := UN.p (fun _ => UN.pol) _ _ hA hA2
  have J2 := J1.m fr
  refine q_blk (lv2 := [(0, vr b), (1, vr o), (2, vr n), (3, vr out), (4, vi i), (5, vi z1), (6, vi z2)]) (st2 := [vr n]) kL_law_457 rfl ?_
  refine q_Vi (av := []) (st := []) (c_X9_thrown M2) lk_RL_96 (by decide) rfl rfl M2.ob ⟨_, rfl, rfl⟩ (Nat.le_of_ble_eq_true rfl) eL_law_460 (fun z3 e3 => ?_)
  subst e3
  exact jt kL_law_463 eL_law_465 kL_law_470 eL_law_472 kL_law_475 eL_law_477 kL_law_478 eL_law_480 eL_law_481 eL_law_482 eL_law_487 (by decide) J2.2.1 (gm_cmp (fun _ => rfl) (fun k => by (repeat (first | split | decide))) t1 an) (kk h2 ⟨D, cm, sc, L, tx, bl, le, Hs, f1, _, ud, bf, rw, J2, M2, B, C, H⟩ (g1.fr fr (by have := J.2.2.1; omega)))

theorem j_cornerAt {nm : String} {T : List (Nat × Nat × Nat × Nat)} {w : am_w} {h : AH} {o n out b : Nat} {len i : Int} {g : Int → Int} {Q : RV → AH → Prop} (J : JI w h o n out) (S : SKR h b o len g i) (kk : ∀ h1, JI w h1 o n out → JG o h h1 → AQ w (mL nm T) 24 1582 [(0, vr b), (1, vr o), (2, vr n), (3, vr out), (4, vi i)] [] h1 Q) : AQ w (mL nm T) 24 490 [(0, vr b), (1, vr o), (2, vr n), (3, vr out), (4, vi i)] [] h Q := by
  obtain ⟨D, cm, sc, L, tx, bl, le, Hs, f, th, ud, bf, rw, J, M, B, C, H⟩ := J
  obtain ⟨⟨G, s0⟩, bo, i0, i1, l1, hg⟩ := id S
  refine q_blk (lv2 := [(0, vr b), (1, vr o), (2, vr n), (3, vr out), (4, vi i)]) (st2 := [vi (i + 1), vr b, vr o]) kL_law_490 rfl ?_
  refine q_ia eL_law_496 s0 (Or.inr rfl) (by omega) (by omega) rfl ?_
  refine q_blk (lv2 := [(0, vr b), (1, vr o), (2, vr n), (3, vr out), (4, vi i)]) (st2 := [vi (i + 2), vr b, vi (g (i + 1)), vr o]) kL_law_497 rfl ?_
  refine q_ia eL_law_502 s0 (Or.inr rfl) (by omega) (by omega) rfl ?_
  refine q_blk (lv2 := [(0, vr b), (1, vr o), (2, vr n), (3, vr out), (4, vi i)]) (st2 := [vr out, vi (g (i + 2)), vi (g (i + 1)), vr o]) kL_law_503 rfl ?_
  refine AQ.callWi (av := [vr o, vi (g (i + 1)), vi (g (i + 2)), vr out]) (st := []) (c_L_cornerAt (J.an (c_X8_cornerAt J.1 (hg _) (hg _))) J.1.ob (fun z h1 q => q.2.1.2.1) (fun k h1 q => by have q := q.1; simp only [gA_p, gA_k, gA_xy, gA_c, gA_z, gA_pl, gA_pol, gA_cnt, gA_sto, gm_F, gA_f, Sum.inr.injEq, reduceCtorEq, and_false, or_false, false_or, exists_const, exists_false] at q; omega)) lk_L_cornerAt (by decide) rfl rfl (Nat.le_of_ble_eq_true rfl) eL_law_504 (fun z1 h1 p1 => ?_)
  obtain ⟨r, f1, hA, J1, M1, g1, t1⟩ := J.rd M p1
  obtain ⟨G1, s1⟩ := (S.go g1).1
  refine q_blk (lv2 := [(0, vr b), (1, vr o), (2, vr n), (3, vr out), (4, vi i), (5, vi z1)]) (st2 := [vi (i + 1), vr b, vr n]) kL_law_507 rfl ?_
  refine q_ia eL_law_515 s1 (Or.inr rfl) (by omega) (by omega) rfl ?_
  refine q_blk (lv2 := [(0, vr b), (1, vr o), (2, vr n), (3, vr out), (4, vi i), (5, vi z1)]) (st2 := [vi (i + 2), vr b, vi (g (i + 1)), vr n]) kL_law_516 rfl ?_
  refine q_ia eL_law_521 s1 (Or.inr rfl) (by omega) (by omega) rfl ?_
  refine AQ.callVi (av := [vi (g (i + 1)), vi (g (i + 2))]) (st := []) (c_X9_cornerAt M1 J1.vd (hg _) (hg _)) lk_RL_116 (by decide) rfl rfl M1.ob ⟨_, rfl, rfl⟩ (Nat.le_of_ble_eq_true rfl) eL_law_522 (fun z2 h2 p2 => ?_)
  obtain ⟨th2, r2, hA2, an, M2, fr⟩ := p2
  obtain rfl : r = r2 := UN.p (fun _ => UN.k UN.l) _ _ hA hA2
  have J2 := J1.m fr
  refine q_blk (lv2 := [(0, vr b), (1, vr o), (2, vr n), (3, vr out), (4, vi i), (5, vi z1), (6, vi z2)]) (st2 := [vr n]) kL_law_525 rfl ?_
  refine q_Vi (av := []) (st := []) (c_X9_thrown M2) lk_RL_96 (by decide) rfl rfl M2.ob ⟨_, rfl, rfl⟩ (Nat.le_of_ble_eq_true rfl) eL_law_528 (fun z3 e3 => ?_)
  subst e3
  exact jt kL_law_531 eL_law_533 kL_law_538 eL_law_540 kL_law_543 eL_law_545 kL_law_546 eL_law_548 eL_law_549 eL_law_550 eL_law_555 (by decide) J2.2.1 (gm_cmp (fun _ => rfl) (fun k => by (repeat (first | split | decide))) t1 an) (kk h2 ⟨D, cm, sc, L, tx, bl, le, Hs, f1, _, ud, bf, rw, J2, M2, B, C, H⟩ (g1.fr fr (by have := J.2.2.1; omega)))

theorem j_reason {nm : String} {T : List (Nat × Nat × Nat × Nat)} {w : am_w} {h : AH} {o n out b : Nat} {len i : Int} {g : Int → Int} {Q : RV → AH → Prop} (J : JI w h o n out) (S : SKR h b o len g i) (kk : ∀ h1, JI w h1 o n out → JG o h h1 → AQ w (mL nm T) 24 1582 [(0, vr b), (1, vr o), (2, vr n), (3, vr out), (4, vi i)] [] h1 Q) : AQ w (mL nm T) 24 558 [(0, vr b), (1, vr o), (2, vr n), (3, vr out), (4, vi i)] [] h Q := by
  obtain ⟨D, cm, sc, L, tx, bl, le, Hs, f, th, ud, bf, rw, J, M, B, C, H⟩ := J
  obtain ⟨⟨G, s0⟩, bo, i0, i1, l1, hg⟩ := id S
  refine q_blk (lv2 := [(0, vr b), (1, vr o), (2, vr n), (3, vr out), (4, vi i)]) (st2 := [vi (i + 1), vr b, vr o]) kL_law_558 rfl ?_
  refine q_ia eL_law_564 s0 (Or.inr rfl) (by omega) (by omega) rfl ?_
  refine q_blk (lv2 := [(0, vr b), (1, vr o), (2, vr n), (3, vr out), (4, vi i)]) (st2 := [vi (i + 2), vr b, vi (g (i + 1)), vr o]) kL_law_565 rfl ?_
  refine q_ia eL_law_570 s0 (Or.inr rfl) (by omega) (by omega) rfl ?_
  refine q_blk (lv2 := [(0, vr b), (1, vr o), (2, vr n), (3, vr out), (4, vi i)]) (st2 := [vi (i + 3), vr b, vi (g (i + 2)), vi (g (i + 1)), vr o]) kL_law_571 rfl ?_
  refine q_ia eL_law_576 s0 (Or.inr rfl) (by omega) (by omega) rfl ?_
  refine q_blk (lv2 := [(0, vr b), (1, vr o), (2, vr n), (3, vr out), (4, vi i)]) (st2 := [vr out, vi (g (i + 3)), vi (g (i + 2)), vi (g (i + 1)), vr o]) kL_law_577 rfl ?_
  refine AQ.callWi (av := [vr o, vi (g (i + 1)), vi (g (i + 2)), vi (g (i + 3)), vr out]) (st := []) (c_L_reason (J.ay (c_X8_reason J.1 (hg _) (hg _) (hg _)) (fun k q => gA_p.m (fun r q => gA_xy.m (fun r q => q.elim) q) q)) J.1.ob (fun z h1 q => q.2.1.2.1) (fun k h1 q => by have q := q.1; simp only [gA_p, gA_k, gA_xy, gA_c, gA_z, gA_pl, gA_pol, gA_cnt, gA_sto, gm_F, gA_f, Sum.inr.injEq, reduceCtorEq, and_false, or_false, false_or, exists_const, exists_false] at q; omega)) lk_L_reason (by decide) rfl rfl (Nat.le_of_ble_eq_true rfl) eL_law_578 (fun z1 h1 p1 => ?_)
  obtain ⟨r, f1, hA, J1, M1, g1, t1⟩ := J.rd M p1
  obtain ⟨G1, s1⟩ := (S.go g1).1
  refine q_blk (lv2 := [(0, vr b), (1, vr o), (2, vr n), (3, vr out), (4, vi i), (5, vi z1)]) (st2 := [vi (i + 1), vr b, vr n]) kL_law_581 rfl ?_
  refine q_ia eL_law_589 s1 (Or.inr rfl) (by omega) (by omega) rfl ?_
  refine q_blk (lv2 := [(0, vr b), (1, vr o), (2, vr n), (3, vr out), (4, vi i), (5, vi z1)]) (st2 := [vi (i + 2), vr b, vi (g (i + 1)), vr n]) kL_law_590 rfl ?_
  refine q_ia eL_law_595 s1 (Or.inr rfl) (by omega) (by omega) rfl ?_
  refine q_blk (lv2 := [(0, vr b), (1, vr o), (2, vr n), (3, vr out), (4, vi i), (5, vi z1)]) (st2 := [vi (i + 3), vr b, vi (g (i + 2)), vi (g (i + 1)), vr n]) kL_law_596 rfl ?_
  refine q_ia eL_law_601 s1 (Or.inr rfl) (by omega) (by omega) rfl ?_
  refine AQ.callVi (av := [vi (g (i + 1)), vi (g (i + 2)), vi (g (i + 3))]) (st := []) (c_X9_reason M1 J1.vd (hg _) (hg _) (hg _)) lk_RL_120 (by decide) rfl rfl M1.ob ⟨_, rfl, rfl⟩ (Nat.le_of_ble_eq_true rfl) eL_law_602 (fun z2 h2 p2 => ?_)
  obtain ⟨th2, r2, hA2, an, M2, fr⟩ := p2
  obtain rfl : r = r2 := UN.p (fun _ => UN.xy (UN.z fun _ _ => gm_rC_one)) _ _ hA hA2
  have J2 := J1.m fr
  refine q_blk (lv2 := [(0, vr b), (1, vr o), (2, vr n), (3, vr out), (4, vi i), (5, vi z1), (6, vi z2)]) (st2 := [vr n]) kL_law_605 rfl ?_
  refine q_Vi (av := []) (st := []) (c_X9_thrown M2) lk_RL_96 (by decide) rfl rfl M2.ob ⟨_, rfl, rfl⟩ (Nat.le_of_ble_eq_true rfl) eL_law_608 (fun z3 e3 => ?_)
  subst e3
  exact jt kL_law_611 eL_law_613 kL_law_618 eL_law_620 kL_law_623 eL_law_625 kL_law_626 eL_law_628 eL_law_629 eL_law_630 eL_law_635 (by decide) J2.2.1 (gm_cmp (fun _ => rfl) (fun k => by (repeat (first | split | decide))) t1 an) (kk h2 ⟨D, cm, sc, L, tx, bl, le, Hs, f1, _, ud, bf, rw, J2, M2, B, C, H⟩ (g1.fr fr (by have := J.2.2.1; omega)))

theorem j_where {nm : String} {T : List (Nat × Nat × Nat × Nat)} {w : am_w} {h : AH} {o n out b : Nat} {len i : Int} {g : Int → Int} {Q : RV → AH → Prop} (J : JI w h o n out) (S : SKR h b o len g i) (kk : ∀ h1, JI w h1 o n out → JG o h h1 → AQ w (mL nm T) 24 1582 [(0, vr b), (1, vr o), (2, vr n), (3, vr out), (4, vi i)] [] h1 Q) : AQ w (mL nm T) 24 638 [(0, vr b), (1, vr o), (2, vr n), (3, vr out), (4, vi i)] [] h Q := by
  obtain ⟨D, cm, sc, L, tx, bl, le, Hs, f, th, ud, bf, rw, J, M, B, C, H⟩ := J
  obtain ⟨⟨G, s0⟩, bo, i0, i1, l1, hg⟩ := id S
  refine q_blk (lv2 := [(0, vr b), (1, vr o), (2, vr n), (3, vr out), (4, vi i)]) (st2 := [vi (i + 1), vr b, vr o]) kL_law_638 rfl ?_
  refine q_ia eL_law_644 s0 (Or.inr rfl) (by omega) (by omega) rfl ?_
  refine q_blk (lv2 := [(0, vr b), (1, vr o), (2, vr n), (3, vr out), (4, vi i)]) (st2 := [vi (i + 2), vr b, vi (g (i + 1)), vr o]) kL_law_645 rfl ?_
  refine q_ia eL_law_650 s0 (Or.inr rfl) (by omega) (by omega) rfl ?_
  refine q_blk (lv2 := [(0, vr b), (1, vr o), (2, vr n), (3, vr out), (4, vi i)]) (st2 := [vi (i + 3), vr b, vi (g (i + 2)), vi (g (i + 1)), vr o]) kL_law_651 rfl ?_
  refine q_ia eL_law_656 s0 (Or.inr rfl) (by omega) (by omega) rfl ?_
  refine q_blk (lv2 := [(0, vr b), (1, vr o), (2, vr n), (3, vr out), (4, vi i)]) (st2 := [vr out, vi (g (i + 3)), vi (g (i + 2)), vi (g (i + 1)), vr o]) kL_law_657 rfl ?_
  refine AQ.callWi (av := [vr o, vi (g (i + 1)), vi (g (i + 2)), vi (g (i + 3)), vr out]) (st := []) (c_L_where (J.an (c_X8_where J.1 (hg _) (hg _) (hg _))) J.1.ob (fun z h1 q => q.2.1.2.1) (fun k h1 q => by have q := q.1; simp only [gA_p, gA_k, gA_xy, gA_c, gA_z, gA_pl, gA_pol, gA_cnt, gA_sto, gm_F, gA_f, Sum.inr.injEq, reduceCtorEq, and_false, or_false, false_or, exists_const, exists_false] at q; omega)) lk_L_where (by decide) rfl rfl (Nat.le_of_ble_eq_true rfl) eL_law_658 (fun z1 h1 p1 => ?_)
  obtain ⟨r, f1, hA, J1, M1, g1, t1⟩ := J.rd M p1
  obtain ⟨G1, s1⟩ := (S.go g1).1
  refine q_blk (lv2 := [(0, vr b), (1, vr o), (2, vr n), (3, vr out), (4, vi i), (5, vi z1)]) (st2 := [vi (i + 1), vr b, vr n]) kL_law_661 rfl ?_
  refine q_ia eL_law_669 s1 (Or.inr rfl) (by omega) (by omega) rfl ?_
  refine q_blk (lv2 := [(0, vr b), (1, vr o), (2, vr n), (3, vr out), (4, vi i), (5, vi z1)]) (st2 := [vi (i + 2), vr b, vi (g (i + 1)), vr n]) kL_law_670 rfl ?_
  refine q_ia eL_law_675 s1 (Or.inr rfl) (by omega) (by omega) rfl ?_
  refine q_blk (lv2 := [(0, vr b), (1, vr o), (2, vr n), (3, vr out), (4, vi i), (5, vi z1)]) (st2 := [vi (i + 3), vr b, vi (g (i + 2)), vi (g (i + 1)), vr n]) kL_law_676 rfl ?_
  refine q_ia eL_law_681 s1 (Or.inr rfl) (by omega) (by omega) rfl ?_
  refine AQ.callVi (av := [vi (g (i + 1)), vi (g (i + 2)), vi (g (i + 3))]) (st := []) (c_X9_where M1 J1.vd (hg _) (hg _) (hg _)) lk_RL_123 (by decide) rfl rfl M1.ob ⟨_, rfl, rfl⟩ (Nat.le_of_ble_eq_true rfl) eL_law_682 (fun z2 h2 p2 => ?_)
  obtain ⟨th2, r2, hA2, an, M2, fr⟩ := p2
  obtain rfl : r = r2 := UN.p (fun _ => UN.xy (UN.c (UN.z fun _ _ => gm_si_one))) _ _ hA hA2
  have J2 := J1.m fr
  refine q_blk (lv2 := [(0, vr b), (1, vr o), (2, vr n), (3, vr out), (4, vi i), (5, vi z1), (6, vi z2)]) (st2 := [vr n]) kL_law_685 rfl ?_
  refine q_Vi (av := []) (st := []) (c_X9_thrown M2) lk_RL_96 (by decide) rfl rfl M2.ob ⟨_, rfl, rfl⟩ (Nat.le_of_ble_eq_true rfl) eL_law_688 (fun z3 e3 => ?_)
  subst e3
  exact jt kL_law_691 eL_law_693 kL_law_698 eL_law_700 kL_law_703 eL_law_705 kL_law_706 eL_law_708 eL_law_709 eL_law_710 eL_law_715 (by decide) J2.2.1 (gm_cmp (fun _ => rfl) (fun k => by (repeat (first | split | decide))) t1 an) (kk h2 ⟨D, cm, sc, L, tx, bl, le, Hs, f1, _, ud, bf, rw, J2, M2, B, C, H⟩ (g1.fr fr (by have := J.2.2.1; omega)))

theorem j_area {nm : String} {T : List (Nat × Nat × Nat × Nat)} {w : am_w} {h : AH} {o n out b : Nat} {len i : Int} {g : Int → Int} {Q : RV → AH → Prop} (J : JI w h o n out) (S : SKR h b o len g i) (kk : ∀ h1, JI w h1 o n out → JG o h h1 → AQ w (mL nm T) 24 1582 [(0, vr b), (1, vr o), (2, vr n), (3, vr out), (4, vi i)] [] h1 Q) : AQ w (mL nm T) 24 718 [(0, vr b), (1, vr o), (2, vr n), (3, vr out), (4, vi i)] [] h Q := by
  obtain ⟨D, cm, sc, L, tx, bl, le, Hs, f, th, ud, bf, rw, J, M, B, C, H⟩ := J
  obtain ⟨⟨G, s0⟩, bo, i0, i1, l1, hg⟩ := id S
  refine q_blk (lv2 := [(0, vr b), (1, vr o), (2, vr n), (3, vr out), (4, vi i)]) (st2 := [vi (i + 1), vr b, vr o]) kL_law_718 rfl ?_
  refine q_ia eL_law_724 s0 (Or.inr rfl) (by omega) (by omega) rfl ?_
  refine q_blk (lv2 := [(0, vr b), (1, vr o), (2, vr n), (3, vr out), (4, vi i)]) (st2 := [vr out, vi (g (i + 1)), vr o]) kL_law_725 rfl ?_
  refine AQ.callWi (av := [vr o, vi (g (i + 1)), vr out]) (st := []) (c_L_area (J.an (c_X8_area J.1 (hg _))) J.1.ob (fun z h1 q => q.2.1.2.1) (fun k h1 q => by have q := q.1; simp only [gA_p, gA_k, gA_xy, gA_c, gA_z, gA_pl, gA_pol, gA_cnt, gA_sto, gm_F, gA_f, Sum.inr.injEq, reduceCtorEq, and_false, or_false, false_or, exists_const, exists_false] at q; omega)) lk_L_area (by decide) rfl rfl (Nat.le_of_ble_eq_true rfl) eL_law_726 (fun z1 h1 p1 => ?_)
  obtain ⟨r, f1, hA, J1, M1, g1, t1⟩ := J.rd M p1
  obtain ⟨G1, s1⟩ := (S.go g1).1
  refine q_blk (lv2 := [(0, vr b), (1, vr o), (2, vr n), (3, vr out), (4, vi i), (5, vi z1)]) (st2 := [vi (i + 1), vr b, vr n]) kL_law_729 rfl ?_
  refine q_ia eL_law_737 s1 (Or.inr rfl) (by omega) (by omega) rfl ?_
  refine AQ.callVi (av := [vi (g (i + 1))]) (st := []) (c_X9_area M1 J1.vd (hg _)) lk_RL_126 (by decide) rfl rfl M1.ob ⟨_, rfl, rfl⟩ (Nat.le_of_ble_eq_true rfl) eL_law_738 (fun z2 h2 p2 => ?_)
  obtain ⟨th2, r2, hA2, an, M2, fr⟩ := p2
  obtain rfl : r = r2 := gA_pc2 (fun _ _ z z2 q q2 => q.trans q2.symm) hA hA2
  have J2 := J1.m fr
  refine q_blk (lv2 := [(0, vr b), (1, vr o), (2, vr n), (3, vr out), (4, vi i), (5, vi z1), (6, vi z2)]) (st2 := [vr n]) kL_law_741 rfl ?_
  refine q_Vi (av := []) (st := []) (c_X9_thrown M2) lk_RL_96 (by decide) rfl rfl M2.ob ⟨_, rfl, rfl⟩ (Nat.le_of_ble_eq_true rfl) eL_law_744 (fun z3 e3 => ?_)
  subst e3
  exact jt kL_law_747 eL_law_749 kL_law_754 eL_law_756 kL_law_759 eL_law_761 kL_law_762 eL_law_764 eL_law_765 eL_law_766 eL_law_771 (by decide) J2.2.1 (gm_cmp (fun _ => rfl) (fun k => by (repeat (first | split | decide))) t1 an) (kk h2 ⟨D, cm, sc, L, tx, bl, le, Hs, f1, _, ud, bf, rw, J2, M2, B, C, H⟩ (g1.fr fr (by have := J.2.2.1; omega)))

theorem j_border {nm : String} {T : List (Nat × Nat × Nat × Nat)} {w : am_w} {h : AH} {o n out b : Nat} {len i : Int} {g : Int → Int} {Q : RV → AH → Prop} (J : JI w h o n out) (S : SKR h b o len g i) (kk : ∀ h1, JI w h1 o n out → JG o h h1 → AQ w (mL nm T) 24 1582 [(0, vr b), (1, vr o), (2, vr n), (3, vr out), (4, vi i)] [] h1 Q) : AQ w (mL nm T) 24 774 [(0, vr b), (1, vr o), (2, vr n), (3, vr out), (4, vi i)] [] h Q := by
  obtain ⟨D, cm, sc, L, tx, bl, le, Hs, f, th, ud, bf, rw, J, M, B, C, H⟩ := J
  obtain ⟨⟨G, s0⟩, bo, i0, i1, l1, hg⟩ := id S
  refine q_blk (lv2 := [(0, vr b), (1, vr o), (2, vr n), (3, vr out), (4, vi i)]) (st2 := [vi (i + 1), vr b, vr o]) kL_law_774 rfl ?_
  refine q_ia eL_law_780 s0 (Or.inr rfl) (by omega) (by omega) rfl ?_
  refine q_blk (lv2 := [(0, vr b), (1, vr o), (2, vr n), (3, vr out), (4, vi i)]) (st2 := [vr out, vi (g (i + 1)), vr o]) kL_law_781 rfl ?_
  refine AQ.callWi (av := [vr o, vi (g (i + 1)), vr out]) (st := []) (c_L_border (J.an (c_X8_border J.1 (hg _))) J.1.ob (fun z h1 q => q.2.1.2.1) (fun k h1 q => by have q := q.1; simp only [gA_p, gA_k, gA_xy, gA_c, gA_z, gA_pl, gA_pol, gA_cnt, gA_sto, gm_F, gA_f, Sum.inr.injEq, reduceCtorEq, and_false, or_false, false_or, exists_const, exists_false] at q; omega)) lk_L_border (by decide) rfl rfl (Nat.le_of_ble_eq_true rfl) eL_law_782 (fun z1 h1 p1 => ?_)
  obtain ⟨r, f1, hA, J1, M1, g1, t1⟩ := J.rd M p1
  obtain ⟨G1, s1⟩ := (S.go g1).1
  refine q_blk (lv2 := [(0, vr b), (1, vr o), (2, vr n), (3, vr out), (4, vi i), (5, vi z1)]) (st2 := [vi (i + 1), vr b, vr n]) kL_law_785 rfl ?_
  refine q_ia eL_law_793 s1 (Or.inr rfl) (by omega) (by omega) rfl ?_
  refine AQ.callVi (av := [vi (g (i + 1))]) (st := []) (c_X9_border M1 J1.vd (hg _)) lk_RL_129 (by decide) rfl rfl M1.ob ⟨_, rfl, rfl⟩ (Nat.le_of_ble_eq_true rfl) eL_law_794 (fun z2 h2 p2 => ?_)
  obtain ⟨th2, r2, hA2, an, M2, fr⟩ := p2
  obtain rfl : r = r2 := gA_pc2 (fun pr pc z z2 q q2 => q.trans ((gm_pick_D J1.vd J1.ve J1.gv pr.1 pr.2 pc).1.trans q2.symm)) hA hA2
  have J2 := J1.m fr
  refine q_blk (lv2 := [(0, vr b), (1, vr o), (2, vr n), (3, vr out), (4, vi i), (5, vi z1), (6, vi z2)]) (st2 := [vr n]) kL_law_797 rfl ?_
  refine q_Vi (av := []) (st := []) (c_X9_thrown M2) lk_RL_96 (by decide) rfl rfl M2.ob ⟨_, rfl, rfl⟩ (Nat.le_of_ble_eq_true rfl) eL_law_800 (fun z3 e3 => ?_)
  subst e3
  exact jt kL_law_803 eL_law_805 kL_law_810 eL_law_812 kL_law_815 eL_law_817 kL_law_818 eL_law_820 eL_law_821 eL_law_822 eL_law_827 (by decide) J2.2.1 (gm_cmp (fun _ => rfl) (fun k => by (repeat (first | split | decide))) t1 an) (kk h2 ⟨D, cm, sc, L, tx, bl, le, Hs, f1, _, ud, bf, rw, J2, M2, B, C, H⟩ (g1.fr fr (by have := J.2.2.1; omega)))

theorem j_inner {nm : String} {T : List (Nat × Nat × Nat × Nat)} {w : am_w} {h : AH} {o n out b : Nat} {len i : Int} {g : Int → Int} {Q : RV → AH → Prop} (J : JI w h o n out) (S : SKR h b o len g i) (kk : ∀ h1, JI w h1 o n out → JG o h h1 → AQ w (mL nm T) 24 1582 [(0, vr b), (1, vr o), (2, vr n), (3, vr out), (4, vi i)] [] h1 Q) : AQ w (mL nm T) 24 830 [(0, vr b), (1, vr o), (2, vr n), (3, vr out), (4, vi i)] [] h Q := by
  obtain ⟨D, cm, sc, L, tx, bl, le, Hs, f, th, ud, bf, rw, J, M, B, C, H⟩ := J
  obtain ⟨⟨G, s0⟩, bo, i0, i1, l1, hg⟩ := id S
  refine q_blk (lv2 := [(0, vr b), (1, vr o), (2, vr n), (3, vr out), (4, vi i)]) (st2 := [vi (i + 1), vr b, vr o]) kL_law_830 rfl ?_
  refine q_ia eL_law_836 s0 (Or.inr rfl) (by omega) (by omega) rfl ?_
  refine q_blk (lv2 := [(0, vr b), (1, vr o), (2, vr n), (3, vr out), (4, vi i)]) (st2 := [vr out, vi (g (i + 1)), vr o]) kL_law_837 rfl ?_
  refine AQ.callWi (av := [vr o, vi (g (i + 1)), vr out]) (st := []) (c_L_inner (J.an (c_X8_inner J.1 (hg _))) J.1.ob (fun z h1 q => q.2.1.2.1) (fun k h1 q => by have q := q.1; simp only [gA_p, gA_k, gA_xy, gA_c, gA_z, gA_pl, gA_pol, gA_cnt, gA_sto, gm_F, gA_f, Sum.inr.injEq, reduceCtorEq, and_false, or_false, false_or, exists_const, exists_false] at q; omega)) lk_L_inner (by decide) rfl rfl (Nat.le_of_ble_eq_true rfl) eL_law_838 (fun z1 h1 p1 => ?_)
  obtain ⟨r, f1, hA, J1, M1, g1, t1⟩ := J.rd M p1
  obtain ⟨G1, s1⟩ := (S.go g1).1
  refine q_blk (lv2 := [(0, vr b), (1, vr o), (2, vr n), (3, vr out), (4, vi i), (5, vi z1)]) (st2 := [vi (i + 1), vr b, vr n]) kL_law_841 rfl ?_
  refine q_ia eL_law_849 s1 (Or.inr rfl) (by omega) (by omega) rfl ?_
  refine AQ.callVi (av := [vi (g (i + 1))]) (st := []) (c_X9_inner M1 J1.vd (hg _)) lk_RL_132 (by decide) rfl rfl M1.ob ⟨_, rfl, rfl⟩ (Nat.le_of_ble_eq_true rfl) eL_law_850 (fun z2 h2 p2 => ?_)
  obtain ⟨th2, r2, hA2, an, M2, fr⟩ := p2
  obtain rfl : r = r2 := gA_pc2 (fun pr pc z z2 q q2 => q.trans ((gm_pick_D J1.vd J1.ve J1.gv pr.1 pr.2 pc).2.trans q2.symm)) hA hA2
  have J2 := J1.m fr
  refine q_blk (lv2 := [(0, vr b), (1, vr o), (2, vr n), (3, vr out), (4, vi i), (5, vi z1), (6, vi z2)]) (st2 := [vr n]) kL_law_853 rfl ?_
  refine q_Vi (av := []) (st := []) (c_X9_thrown M2) lk_RL_96 (by decide) rfl rfl M2.ob ⟨_, rfl, rfl⟩ (Nat.le_of_ble_eq_true rfl) eL_law_856 (fun z3 e3 => ?_)
  subst e3
  exact jt kL_law_859 eL_law_861 kL_law_866 eL_law_868 kL_law_871 eL_law_873 kL_law_874 eL_law_876 eL_law_877 eL_law_878 eL_law_883 (by decide) J2.2.1 (gm_cmp (fun _ => rfl) (fun k => by (repeat (first | split | decide))) t1 an) (kk h2 ⟨D, cm, sc, L, tx, bl, le, Hs, f1, _, ud, bf, rw, J2, M2, B, C, H⟩ (g1.fr fr (by have := J.2.2.1; omega)))

theorem j_dents {nm : String} {T : List (Nat × Nat × Nat × Nat)} {w : am_w} {h : AH} {o n out b : Nat} {len i : Int} {g : Int → Int} {Q : RV → AH → Prop} (J : JI w h o n out) (S : SKR h b o len g i) (kk : ∀ h1, JI w h1 o n out → JG o h h1 → AQ w (mL nm T) 24 1582 [(0, vr b), (1, vr o), (2, vr n), (3, vr out), (4, vi i)] [] h1 Q) : AQ w (mL nm T) 24 886 [(0, vr b), (1, vr o), (2, vr n), (3, vr out), (4, vi i)] [] h Q := by
  obtain ⟨D, cm, sc, L, tx, bl, le, Hs, f, th, ud, bf, rw, J, M, B, C, H⟩ := J
  obtain ⟨⟨G, s0⟩, bo, i0, i1, l1, hg⟩ := id S
  refine q_blk (lv2 := [(0, vr b), (1, vr o), (2, vr n), (3, vr out), (4, vi i)]) (st2 := [vi (i + 1), vr b, vr o]) kL_law_886 rfl ?_
  refine q_ia eL_law_892 s0 (Or.inr rfl) (by omega) (by omega) rfl ?_
  refine q_blk (lv2 := [(0, vr b), (1, vr o), (2, vr n), (3, vr out), (4, vi i)]) (st2 := [vr out, vi (g (i + 1)), vr o]) kL_law_893 rfl ?_
  refine AQ.callWi (av := [vr o, vi (g (i + 1)), vr out]) (st := []) (c_L_dents (J.an (c_X8_dents J.1 (hg _))) J.1.ob (fun z h1 q => q.2.1.2.1) (fun k h1 q => by have q := q.1; simp only [gA_p, gA_k, gA_xy, gA_c, gA_z, gA_pl, gA_pol, gA_cnt, gA_sto, gm_F, gA_f, Sum.inr.injEq, reduceCtorEq, and_false, or_false, false_or, exists_const, exists_false] at q; omega)) lk_L_dents (by decide) rfl rfl (Nat.le_of_ble_eq_true rfl) eL_law_894 (fun z1 h1 p1 => ?_)
  obtain ⟨r, f1, hA, J1, M1, g1, t1⟩ := J.rd M p1
  obtain ⟨G1, s1⟩ := (S.go g1).1
  refine q_blk (lv2 := [(0, vr b), (1, vr o), (2, vr n), (3, vr out), (4, vi i), (5, vi z1)]) (st2 := [vi (i + 1), vr b, vr n]) kL_law_897 rfl ?_
  refine q_ia eL_law_905 s1 (Or.inr rfl) (by omega) (by omega) rfl ?_
  refine AQ.callVi (av := [vi (g (i + 1))]) (st := []) (c_X9_dents M1 J1.vd (hg _)) lk_RL_135 (by decide) rfl rfl M1.ob ⟨_, rfl, rfl⟩ (Nat.le_of_ble_eq_true rfl) eL_law_906 (fun z2 h2 p2 => ?_)
  obtain ⟨th2, r2, hA2, an, M2, fr⟩ := p2
  obtain rfl : r = r2 := gA_pc2 (fun _ _ z z2 q q2 => q.trans q2.symm) hA hA2
  have J2 := J1.m fr
  refine q_blk (lv2 := [(0, vr b), (1, vr o), (2, vr n), (3, vr out), (4, vi i), (5, vi z1), (6, vi z2)]) (st2 := [vr n]) kL_law_909 rfl ?_
  refine q_Vi (av := []) (st := []) (c_X9_thrown M2) lk_RL_96 (by decide) rfl rfl M2.ob ⟨_, rfl, rfl⟩ (Nat.le_of_ble_eq_true rfl) eL_law_912 (fun z3 e3 => ?_)
  subst e3
  exact jt kL_law_915 eL_law_917 kL_law_922 eL_law_924 kL_law_927 eL_law_929 kL_law_930 eL_law_932 eL_law_933 eL_law_934 eL_law_939 (by decide) J2.2.1 (gm_cmp (fun _ => rfl) (fun k => by (repeat (first | split | decide))) t1 an) (kk h2 ⟨D, cm, sc, L, tx, bl, le, Hs, f1, _, ud, bf, rw, J2, M2, B, C, H⟩ (g1.fr fr (by have := J.2.2.1; omega)))

theorem j_parent {nm : String} {T : List (Nat × Nat × Nat × Nat)} {w : am_w} {h : AH} {o n out b : Nat} {len i : Int} {g : Int → Int} {Q : RV → AH → Prop} (J : JI w h o n out) (S : SKR h b o len g i) (kk : ∀ h1, JI w h1 o n out → JG o h h1 → AQ w (mL nm T) 24 1582 [(0, vr b), (1, vr o), (2, vr n), (3, vr out), (4, vi i)] [] h1 Q) : AQ w (mL nm T) 24 942 [(0, vr b), (1, vr o), (2, vr n), (3, vr out), (4, vi i)] [] h Q := by
  obtain ⟨D, cm, sc, L, tx, bl, le, Hs, f, th, ud, bf, rw, J, M, B, C, H⟩ := J
  obtain ⟨⟨G, s0⟩, bo, i0, i1, l1, hg⟩ := id S
  refine q_blk (lv2 := [(0, vr b), (1, vr o), (2, vr n), (3, vr out), (4, vi i)]) (st2 := [vi (i + 1), vr b, vr o]) kL_law_942 rfl ?_
  refine q_ia eL_law_948 s0 (Or.inr rfl) (by omega) (by omega) rfl ?_
  refine q_blk (lv2 := [(0, vr b), (1, vr o), (2, vr n), (3, vr out), (4, vi i)]) (st2 := [vr out, vi (g (i + 1)), vr o]) kL_law_949 rfl ?_
  refine AQ.callWi (av := [vr o, vi (g (i + 1)), vr out]) (st := []) (c_L_parent (J.an (c_X8_parent J.1 (hg _))) J.1.ob (fun z h1 q => q.2.1.2.1) (fun k h1 q => by have q := q.1; simp only [gA_p, gA_k, gA_xy, gA_c, gA_z, gA_pl, gA_pol, gA_cnt, gA_sto, gm_F, gA_f, Sum.inr.injEq, reduceCtorEq, and_false, or_false, false_or, exists_const, exists_false] at q; omega)) lk_L_parent (by decide) rfl rfl (Nat.le_of_ble_eq_true rfl) eL_law_950 (fun z1 h1 p1 => ?_)
  obtain ⟨r, f1, hA, J1, M1, g1, t1⟩ := J.rd M p1
  obtain ⟨G1, s1⟩ := (S.go g1).1
  refine q_blk (lv2 := [(0, vr b), (1, vr o), (2, vr n), (3, vr out), (4, vi i), (5, vi z1)]) (st2 := [vi (i + 1), vr b, vr n]) kL_law_953 rfl ?_
  refine q_ia eL_law_961 s1 (Or.inr rfl) (by omega) (by omega) rfl ?_
  refine AQ.callVi (av := [vi (g (i + 1))]) (st := []) (c_X9_parent M1 J1.vd (hg _)) lk_RL_138 (by decide) rfl rfl M1.ob ⟨_, rfl, rfl⟩ (Nat.le_of_ble_eq_true rfl) eL_law_962 (fun z2 h2 p2 => ?_)
  obtain ⟨th2, r2, hA2, an, M2, fr⟩ := p2
  obtain rfl : r = r2 := gA_pc2 (fun pr pc z z2 q q2 => gm_sma_one q (gm_smb_own J1.vd pr.1 pr.2 q2)) hA hA2
  have J2 := J1.m fr
  refine q_blk (lv2 := [(0, vr b), (1, vr o), (2, vr n), (3, vr out), (4, vi i), (5, vi z1), (6, vi z2)]) (st2 := [vr n]) kL_law_965 rfl ?_
  refine q_Vi (av := []) (st := []) (c_X9_thrown M2) lk_RL_96 (by decide) rfl rfl M2.ob ⟨_, rfl, rfl⟩ (Nat.le_of_ble_eq_true rfl) eL_law_968 (fun z3 e3 => ?_)
  subst e3
  exact jt kL_law_971 eL_law_973 kL_law_978 eL_law_980 kL_law_983 eL_law_985 kL_law_986 eL_law_988 eL_law_989 eL_law_990 eL_law_995 (by decide) J2.2.1 (gm_cmp (fun _ => rfl) (fun k => by (repeat (first | split | decide))) t1 an) (kk h2 ⟨D, cm, sc, L, tx, bl, le, Hs, f1, _, ud, bf, rw, J2, M2, B, C, H⟩ (g1.fr fr (by have := J.2.2.1; omega)))

theorem j_score {nm : String} {T : List (Nat × Nat × Nat × Nat)} {w : am_w} {h : AH} {o n out b : Nat} {len i : Int} {g : Int → Int} {Q : RV → AH → Prop} (J : JI w h o n out) (S : SKR h b o len g i) (kk : ∀ h1, JI w h1 o n out → JG o h h1 → AQ w (mL nm T) 24 1582 [(0, vr b), (1, vr o), (2, vr n), (3, vr out), (4, vi i)] [] h1 Q) : AQ w (mL nm T) 24 998 [(0, vr b), (1, vr o), (2, vr n), (3, vr out), (4, vi i)] [] h Q := by
  obtain ⟨D, cm, sc, L, tx, bl, le, Hs, f, th, ud, bf, rw, J, M, B, C, H⟩ := J
  obtain ⟨⟨G, s0⟩, bo, i0, i1, l1, hg⟩ := id S
  refine q_blk (lv2 := [(0, vr b), (1, vr o), (2, vr n), (3, vr out), (4, vi i)]) (st2 := [vi (i + 1), vr b, vr o]) kL_law_998 rfl ?_
  refine q_ia eL_law_1004 s0 (Or.inr rfl) (by omega) (by omega) rfl ?_
  refine q_blk (lv2 := [(0, vr b), (1, vr o), (2, vr n), (3, vr out), (4, vi i)]) (st2 := [vr out, vi (g (i + 1)), vr o]) kL_law_1005 rfl ?_
  refine AQ.callWi (av := [vr o, vi (g (i + 1)), vr out]) (st := []) (c_L_score (J.ay (c_X8_score J.1 (hg _)) (fun k q => gA_p.m (fun r q => gA_c.m (fun r q => q.elim) q) q)) J.1.ob (fun z h1 q => q.2.1.2.1) (fun k h1 q => by have q := q.1; simp only [gA_p, gA_k, gA_xy, gA_c, gA_z, gA_pl, gA_pol, gA_cnt, gA_sto, gm_F, gA_f, Sum.inr.injEq, reduceCtorEq, and_false, or_false, false_or, exists_const, exists_false] at q; omega)) lk_L_score (by decide) rfl rfl (Nat.le_of_ble_eq_true rfl) eL_law_1006 (fun z1 h1 p1 => ?_)
  obtain ⟨r, f1, hA, J1, M1, g1, t1⟩ := J.rd M p1
  obtain ⟨G1, s1⟩ := (S.go g1).1
  refine q_blk (lv2 := [(0, vr b), (1, vr o), (2, vr n), (3, vr out), (4, vi i), (5, vi z1)]) (st2 := [vi (i + 1), vr b, vr n]) kL_law_1009 rfl ?_
  refine q_ia eL_law_1017 s1 (Or.inr rfl) (by omega) (by omega) rfl ?_
  refine AQ.callVi (av := [vi (g (i + 1))]) (st := []) (c_X9_score M1 J1.vd J1.ms C (hg _)) lk_RL_141 (by decide) rfl rfl M1.ob ⟨_, rfl, rfl⟩ (Nat.le_of_ble_eq_true rfl) eL_law_1018 (fun z2 h2 p2 => ?_)
  obtain ⟨th2, r2, hA2, an, M2, fr⟩ := p2
  obtain rfl : r = r2 := gA_pc2 (fun pr pc z z2 q q2 => q.trans ((gm_sc_eq J1.vd J1.ve J1.gv pr.1 pr.2 pc).trans q2.symm)) hA hA2
  have J2 := J1.m fr
  refine q_blk (lv2 := [(0, vr b), (1, vr o), (2, vr n), (3, vr out), (4, vi i), (5, vi z1), (6, vi z2)]) (st2 := [vr n]) kL_law_1021 rfl ?_
  refine q_Vi (av := []) (st := []) (c_X9_thrown M2) lk_RL_96 (by decide) rfl rfl M2.ob ⟨_, rfl, rfl⟩ (Nat.le_of_ble_eq_true rfl) eL_law_1024 (fun z3 e3 => ?_)
  subst e3
  exact jt kL_law_1027 eL_law_1029 kL_law_1034 eL_law_1036 kL_law_1039 eL_law_1041 kL_law_1042 eL_law_1044 eL_law_1045 eL_law_1046 eL_law_1051 (by decide) J2.2.1 (gm_cmp (fun _ => rfl) (fun k => by (repeat (first | split | decide))) t1 an) (kk h2 ⟨D, cm, sc, L, tx, bl, le, Hs, f1, _, ud, bf, rw, J2, M2, B, C, H⟩ (g1.fr fr (by have := J.2.2.1; omega)))

theorem j_points {nm : String} {T : List (Nat × Nat × Nat × Nat)} {w : am_w} {h : AH} {o n out b : Nat} {len i : Int} {g : Int → Int} {Q : RV → AH → Prop} (J : JI w h o n out) (S : SKR h b o len g i) (kk : ∀ h1, JI w h1 o n out → JG o h h1 → AQ w (mL nm T) 24 1582 [(0, vr b), (1, vr o), (2, vr n), (3, vr out), (4, vi i)] [] h1 Q) : AQ w (mL nm T) 24 1054 [(0, vr b), (1, vr o), (2, vr n), (3, vr out), (4, vi i)] [] h Q := by
  obtain ⟨D, cm, sc, L, tx, bl, le, Hs, f, th, ud, bf, rw, J, M, B, C, H⟩ := J
  obtain ⟨⟨G, s0⟩, bo, i0, i1, l1, hg⟩ := id S
  refine q_blk (lv2 := [(0, vr b), (1, vr o), (2, vr n), (3, vr out), (4, vi i)]) (st2 := [vi (i + 1), vr b, vr o]) kL_law_1054 rfl ?_
  refine q_ia eL_law_1060 s0 (Or.inr rfl) (by omega) (by omega) rfl ?_
  refine q_blk (lv2 := [(0, vr b), (1, vr o), (2, vr n), (3, vr out), (4, vi i)]) (st2 := [vr out, vi (g (i + 1)), vr o]) kL_law_1061 rfl ?_
  refine AQ.callWi (av := [vr o, vi (g (i + 1)), vr out]) (st := []) (c_L_points (J.ay (c_X8_points J.1 (hg _)) (fun k q => gA_pl.m (fun r q => q.elim) q)) J.1.ob (fun z h1 q => q.2.1.2.1) (fun k h1 q => by have q := q.1; simp only [gA_p, gA_k, gA_xy, gA_c, gA_z, gA_pl, gA_pol, gA_cnt, gA_sto, gm_F, gA_f, Sum.inr.injEq, reduceCtorEq, and_false, or_false, false_or, exists_const, exists_false] at q; omega)) lk_L_points (by decide) rfl rfl (Nat.le_of_ble_eq_true rfl) eL_law_1062 (fun z1 h1 p1 => ?_)
  obtain ⟨r, f1, hA, J1, M1, g1, t1⟩ := J.rd M p1
  obtain ⟨G1, s1⟩ := (S.go g1).1
  refine q_blk (lv2 := [(0, vr b), (1, vr o), (2, vr n), (3, vr out), (4, vi i), (5, vi z1)]) (st2 := [vi (i + 1), vr b, vr n]) kL_law_1065 rfl ?_
  refine q_ia eL_law_1073 s1 (Or.inr rfl) (by omega) (by omega) rfl ?_
  refine AQ.callVi (av := [vi (g (i + 1))]) (st := []) (c_X9_points M1 J1.vd J1.ms C (hg _)) lk_RL_144 (by decide) rfl rfl M1.ob ⟨_, rfl, rfl⟩ (Nat.le_of_ble_eq_true rfl) eL_law_1074 (fun z2 h2 p2 => ?_)
  obtain ⟨th2, r2, hA2, an, M2, fr⟩ := p2
  obtain rfl : r = r2 := gA_pl2 (fun z z2 q q2 => q.trans ((congrFun (gm_pt_eq J1.vd J1.ve J1.gv) _).trans q2.symm)) hA hA2
  have J2 := J1.m fr
  refine q_blk (lv2 := [(0, vr b), (1, vr o), (2, vr n), (3, vr out), (4, vi i), (5, vi z1), (6, vi z2)]) (st2 := [vr n]) kL_law_1077 rfl ?_
  refine q_Vi (av := []) (st := []) (c_X9_thrown M2) lk_RL_96 (by decide) rfl rfl M2.ob ⟨_, rfl, rfl⟩ (Nat.le_of_ble_eq_true rfl) eL_law_1080 (fun z3 e3 => ?_)
  subst e3
  exact jt kL_law_1083 eL_law_1085 kL_law_1090 eL_law_1092 kL_law_1095 eL_law_1097 kL_law_1098 eL_law_1100 eL_law_1101 eL_law_1102 eL_law_1107 (by decide) J2.2.1 (gm_cmp (fun _ => rfl) (fun k => by (repeat (first | split | decide))) t1 an) (kk h2 ⟨D, cm, sc, L, tx, bl, le, Hs, f1, _, ud, bf, rw, J2, M2, B, C, H⟩ (g1.fr fr (by have := J.2.2.1; omega)))
