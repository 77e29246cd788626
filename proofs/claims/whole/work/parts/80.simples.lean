/-! The law: its plain cases. -/
theorem j_errorOffset {nm : String} {T : List (Nat × Nat × Nat × Nat)} {w : am_w} {h : AH} {o n out b : Nat} {len i : Int} {g : Int → Int} {Q : RV → AH → Prop} (J : JI w h o n out) (S : SKR h b o len g i) (kk : ∀ h1, JI w h1 o n out → JG o h h1 → AQ w (mL nm T) 24 1582 [(0, vr b), (1, vr o), (2, vr n), (3, vr out), (4, vi i)] [] h1 Q) : AQ w (mL nm T) 24 285 [(0, vr b), (1, vr o), (2, vr n), (3, vr out), (4, vi i)] [] h Q := by
  obtain ⟨D, cm, sc, L, tx, bl, le, Hs, f, th, ud, bf, rw, J, M, B, C, H⟩ := J
  obtain ⟨⟨G, s0⟩, bo, i0, i1, l1, hg⟩ := id S
  refine q_blk (lv2 := [(0, vr b), (1, vr o), (2, vr n), (3, vr out), (4, vi i)]) (st2 := [vr o]) kL_law_285 rfl ?_
  refine AQ.callVi (av := []) (st := []) (c_X8_errorOffset J.1) lk_RL_100 (by decide) rfl rfl J.1.ob ⟨_, rfl, rfl⟩ (Nat.le_of_ble_eq_true rfl) eL_law_286 (fun z1 h1 p1 => ?_)
  obtain ⟨p1, rfl⟩ := p1
  have M1 := M
  refine q_blk (lv2 := [(0, vr b), (1, vr o), (2, vr n), (3, vr out), (4, vi i)]) (st2 := [vr n, vi z1]) kL_law_289 rfl ?_
  refine AQ.callVi (av := []) (st := [vi z1]) (c_X9_errorOffset M1 J.vd) lk_RL_103 (by decide) rfl rfl M1.ob ⟨_, rfl, rfl⟩ (Nat.le_of_ble_eq_true rfl) eL_law_290 (fun z2 h2 p2 => ?_)
  obtain ⟨th2, r2, rfl, an, M2, fr⟩ := p2
  have e : z1 = z2 := by
    rcases an with ⟨v, a, -, c⟩ | ⟨k, a, -⟩
    · cases a; exact p1.trans c.symm
    · cases a
  have J2 : JI w h2 o n out := ⟨D, cm, sc, L, tx, bl, le, Hs, f, _, ud, bf, rw, J.m fr, M2, B, C, H⟩
  have gg : JG o h h2 := (JG.go (m := 0) am_go.rf (by decide) J.o0).fr fr (by have := J.2.2.1; omega)
  obtain rfl := e
  exact AQ.of (AS.ic_eq_s (tgt := 1582) eL_law_293 (by decide)) (kk h2 J2 gg)

theorem j_leader {nm : String} {T : List (Nat × Nat × Nat × Nat)} {w : am_w} {h : AH} {o n out b : Nat} {len i : Int} {g : Int → Int} {Q : RV → AH → Prop} (J : JI w h o n out) (S : SKR h b o len g i) (kk : ∀ h1, JI w h1 o n out → JG o h h1 → AQ w (mL nm T) 24 1582 [(0, vr b), (1, vr o), (2, vr n), (3, vr out), (4, vi i)] [] h1 Q) : AQ w (mL nm T) 24 1110 [(0, vr b), (1, vr o), (2, vr n), (3, vr out), (4, vi i)] [] h Q := by
  obtain ⟨D, cm, sc, L, tx, bl, le, Hs, f, th, ud, bf, rw, J, M, B, C, H⟩ := J
  obtain ⟨⟨G, s0⟩, bo, i0, i1, l1, hg⟩ := id S
  refine q_blk (lv2 := [(0, vr b), (1, vr o), (2, vr n), (3, vr out), (4, vi i)]) (st2 := [vr o]) kL_law_1110 rfl ?_
  refine AQ.callVi (av := []) (st := []) (c_X8_leader J.1) lk_RL_145 (by decide) rfl rfl J.1.ob ⟨_, rfl, rfl⟩ (Nat.le_of_ble_eq_true rfl) eL_law_1111 (fun z1 h1 p1 => ?_)
  obtain ⟨p1, c1, g0⟩ := p1
  have J1 := J.c c1 g0
  have M1 := M.c J g0
  refine q_blk (lv2 := [(0, vr b), (1, vr o), (2, vr n), (3, vr out), (4, vi i)]) (st2 := [vr n, vi z1]) kL_law_1114 rfl ?_
  refine AQ.callVi (av := []) (st := [vi z1]) (c_X9_leader M1 J.vd J.ms C) lk_RL_148 (by decide) rfl rfl M1.ob ⟨_, rfl, rfl⟩ (Nat.le_of_ble_eq_true rfl) eL_law_1115 (fun z2 h2 p2 => ?_)
  obtain ⟨e2, M2, fr⟩ := p2
  have e : z1 = z2 := by rw [p1, e2, gm_pt_eq J.vd J.ve J.gv]
  have J2 : JI w h2 o n out := ⟨D, cm, sc, L, tx, bl, le, Hs, f, _, ud, bf, rw, J1.m fr, M2, B, C, H⟩
  have gg : JG o h h2 := (JG.go g0 (by decide) J.o0).fr fr (by have := J.2.2.1; omega)
  obtain rfl := e
  exact AQ.of (AS.ic_eq_s (tgt := 1582) eL_law_1118 (by decide)) (kk h2 J2 gg)

theorem j_checksum {nm : String} {T : List (Nat × Nat × Nat × Nat)} {w : am_w} {h : AH} {o n out b : Nat} {len i : Int} {g : Int → Int} {Q : RV → AH → Prop} (J : JI w h o n out) (S : SKR h b o len g i) (kk : ∀ h1, JI w h1 o n out → JG o h h1 → AQ w (mL nm T) 24 1582 [(0, vr b), (1, vr o), (2, vr n), (3, vr out), (4, vi i)] [] h1 Q) : AQ w (mL nm T) 24 1568 [(0, vr b), (1, vr o), (2, vr n), (3, vr out), (4, vi i)] [] h Q := by
  obtain ⟨D, cm, sc, L, tx, bl, le, Hs, f, th, ud, bf, rw, J, M, B, C, H⟩ := J
  obtain ⟨⟨G, s0⟩, bo, i0, i1, l1, hg⟩ := id S
  refine q_blk (lv2 := [(0, vr b), (1, vr o), (2, vr n), (3, vr out), (4, vi i)]) (st2 := [vr o]) kL_law_1568 rfl ?_
  refine AQ.callVl (av := []) (st := []) (c_X8_checksum J.1) lk_RL_172 (by decide) rfl rfl J.1.ob ⟨_, rfl, rfl⟩ (Nat.le_of_ble_eq_true rfl) eL_law_1569 (fun z1 h1 p1 => ?_)
  obtain ⟨p1, c1, g0⟩ := p1
  have J1 := J.c c1 g0
  have M1 := M.c J g0
  refine q_blk (lv2 := [(0, vr b), (1, vr o), (2, vr n), (3, vr out), (4, vi i)]) (st2 := [vr n, vl z1]) kL_law_1572 rfl ?_
  refine AQ.callVl (av := []) (st := [vl z1]) (c_X9_checksum M1 J.vd J.ms C) lk_RL_176 (by decide) rfl rfl M1.ob ⟨_, rfl, rfl⟩ (Nat.le_of_ble_eq_true rfl) eL_law_1573 (fun z2 h2 p2 => ?_)
  obtain ⟨e2, M2, fr⟩ := p2
  have e : z1 = z2 := by rw [p1, e2, gm_pt_eq J.vd J.ve J.gv]
  have J2 : JI w h2 o n out := ⟨D, cm, sc, L, tx, bl, le, Hs, f, _, ud, bf, rw, J1.m fr, M2, B, C, H⟩
  have gg : JG o h h2 := (JG.go g0 (by decide) J.o0).fr fr (by have := J.2.2.1; omega)
  obtain rfl := e
  refine AQ.of (AS.lcmpE eL_law_1576) ?_
  exact AQ.of (AS.if_eq_t (tgt := 1582) eL_law_1577 (by decide) ⟨by decide, by decide⟩ rfl) (kk h2 J2 gg)

theorem j_append {nm : String} {T : List (Nat × Nat × Nat × Nat)} {w : am_w} {h : AH} {o n out b : Nat} {len i : Int} {g : Int → Int} {Q : RV → AH → Prop} (J : JI w h o n out) (S : SKR h b o len g i) (kk : ∀ h1, JI w h1 o n out → JG o h h1 → AQ w (mL nm T) 24 1582 [(0, vr b), (1, vr o), (2, vr n), (3, vr out), (4, vi i)] [] h1 Q) : AQ w (mL nm T) 24 156 [(0, vr b), (1, vr o), (2, vr n), (3, vr out), (4, vi i)] [] h Q := by
  obtain ⟨D, cm, sc, L, tx, bl, le, Hs, f, th, ud, bf, rw, J, M, B, C, H⟩ := J
  obtain ⟨⟨G, s0⟩, bo, i0, i1, l1, hg⟩ := id S
  refine q_blk (lv2 := [(0, vr b), (1, vr o), (2, vr n), (3, vr out), (4, vi i)]) (st2 := [vi (i + 1), vr b, vr o]) kL_law_156 rfl ?_
  refine q_ia eL_law_162 s0 (Or.inr rfl) (by omega) (by omega) rfl ?_
  refine q_blk (lv2 := [(0, vr b), (1, vr o), (2, vr n), (3, vr out), (4, vi i)]) (st2 := [vi (i + 2), vr b, vi (g (i + 1)), vr o]) kL_law_163 rfl ?_
  refine q_ia eL_law_168 s0 (Or.inr rfl) (by omega) (by omega) rfl ?_
  refine q_blk (lv2 := [(0, vr b), (1, vr o), (2, vr n), (3, vr out), (4, vi i)]) (st2 := [vi (i + 3), vr b, vi (g (i + 2)), vi (g (i + 1)), vr o]) kL_law_169 rfl ?_
  refine q_ia eL_law_174 s0 (Or.inr rfl) (by omega) (by omega) rfl ?_
  refine q_blk (lv2 := [(0, vr b), (1, vr o), (2, vr n), (3, vr out), (4, vi i)]) (st2 := [vi (i + 4), vr b, vi (g (i + 3)), vi (g (i + 2)), vi (g (i + 1)), vr o]) kL_law_175 rfl ?_
  refine q_ia eL_law_180 s0 (Or.inr rfl) (by omega) (by omega) rfl ?_
  refine q_blk (lv2 := [(0, vr b), (1, vr o), (2, vr n), (3, vr out), (4, vi i)]) (st2 := [vi (i + 5), vr b, vi (g (i + 4)), vi (g (i + 3)), vi (g (i + 2)), vi (g (i + 1)), vr o]) kL_law_181 rfl ?_
  refine q_ia eL_law_186 s0 (Or.inr rfl) (by omega) (by omega) rfl ?_
  refine AQ.callVi (av := [vi (g (i + 1)), vi (g (i + 2)), vi (g (i + 3)), vi (g (i + 4)), vi (g (i + 5))]) (st := []) (c_X8_append J.1 (hg _) (hg _) (hg _) (hg _) (hg _)) lk_RL_85 (by decide) rfl rfl J.1.ob ⟨_, rfl, rfl⟩ (Nat.le_of_ble_eq_true rfl) eL_law_187 (fun z1 h1 p1 => ?_)
  obtain ⟨p1, g0⟩ := p1
  have M1 := M.c J g0
  have g1 := JG.go g0 (by decide) J.o0
  obtain ⟨G1, s1⟩ := (S.go g1).1
  refine q_blk (lv2 := [(0, vr b), (1, vr o), (2, vr n), (3, vr out), (4, vi i)]) (st2 := [vi (i + 1), vr b, vr n, vi z1]) kL_law_190 rfl ?_
  refine q_ia eL_law_196 s1 (Or.inr rfl) (by omega) (by omega) rfl ?_
  refine q_blk (lv2 := [(0, vr b), (1, vr o), (2, vr n), (3, vr out), (4, vi i)]) (st2 := [vi (i + 2), vr b, vi (g (i + 1)), vr n, vi z1]) kL_law_197 rfl ?_
  refine q_ia eL_law_202 s1 (Or.inr rfl) (by omega) (by omega) rfl ?_
  refine q_blk (lv2 := [(0, vr b), (1, vr o), (2, vr n), (3, vr out), (4, vi i)]) (st2 := [vi (i + 3), vr b, vi (g (i + 2)), vi (g (i + 1)), vr n, vi z1]) kL_law_203 rfl ?_
  refine q_ia eL_law_208 s1 (Or.inr rfl) (by omega) (by omega) rfl ?_
  refine q_blk (lv2 := [(0, vr b), (1, vr o), (2, vr n), (3, vr out), (4, vi i)]) (st2 := [vi (i + 4), vr b, vi (g (i + 3)), vi (g (i + 2)), vi (g (i + 1)), vr n, vi z1]) kL_law_209 rfl ?_
  refine q_ia eL_law_214 s1 (Or.inr rfl) (by omega) (by omega) rfl ?_
  refine q_blk (lv2 := [(0, vr b), (1, vr o), (2, vr n), (3, vr out), (4, vi i)]) (st2 := [vi (i + 5), vr b, vi (g (i + 4)), vi (g (i + 3)), vi (g (i + 2)), vi (g (i + 1)), vr n, vi z1]) kL_law_215 rfl ?_
  refine q_ia eL_law_220 s1 (Or.inr rfl) (by omega) (by omega) rfl ?_
  refine AQ.callVi (av := [vi (g (i + 1)), vi (g (i + 2)), vi (g (i + 3)), vi (g (i + 4)), vi (g (i + 5))]) (st := [vi z1]) (c_X9_append M1 J.vd J.b8 (hg _) (hg _) (hg _) (hg _) (hg _)) lk_RL_89 (by decide) rfl rfl M1.ob ⟨_, rfl, rfl⟩ (Nat.le_of_ble_eq_true rfl) eL_law_221 (fun z2 h2 p2 => ?_)
  obtain ⟨p2, fr⟩ := p2
  have gg : JG o h h2 := g1.fr fr (by have := J.2.2.1; omega)
  have e : z1 = z2 ∧ JI w h2 o n out := by
    rcases p1 with ⟨a1, a2, a3⟩ | ⟨a1, a2, a3⟩ <;> rcases p2 with ⟨b1, b2, b3⟩ | ⟨b1, b2, bf2, b3, b4, b5⟩
    · exact ⟨a2.trans b2.symm, D, cm, sc, L, tx, bl, le, Hs, f, _, ud, bf, rw, (J.c a3 g0).m fr, b3, B, C, H⟩
    · omega
    · omega
    · exact ⟨a2.trans b2.symm, D, cm, sc, L, _, _, le, Hs, f, _, ud, bf2, rw, (J.c a3 g0).m fr, b5, B.app b3 b4, C, H⟩
  obtain ⟨e, J2⟩ := e
  obtain rfl := e
  exact AQ.of (AS.ic_eq_s (tgt := 1582) eL_law_224 (by decide)) (kk h2 J2 gg)

theorem j_undo {nm : String} {T : List (Nat × Nat × Nat × Nat)} {w : am_w} {h : AH} {o n out b : Nat} {len i : Int} {g : Int → Int} {Q : RV → AH → Prop} (J : JI w h o n out) (S : SKR h b o len g i) (kk : ∀ h1, JI w h1 o n out → JG o h h1 → AQ w (mL nm T) 24 1582 [(0, vr b), (1, vr o), (2, vr n), (3, vr out), (4, vi i)] [] h1 Q) : AQ w (mL nm T) 24 1555 [(0, vr b), (1, vr o), (2, vr n), (3, vr out), (4, vi i)] [] h Q := by
  obtain ⟨D, cm, sc, L, tx, bl, le, Hs, f, th, ud, bf, rw, J, M, B, C, H⟩ := J
  obtain ⟨⟨G, s0⟩, bo, i0, i1, l1, hg⟩ := id S
  refine q_blk (lv2 := [(0, vr b), (1, vr o), (2, vr n), (3, vr out), (4, vi i)]) (st2 := [vr o]) kL_law_1555 rfl ?_
  refine AQ.callVi (av := []) (st := []) (c_X8_undo J.1) lk_RL_168 (by decide) rfl rfl J.1.ob ⟨_, rfl, rfl⟩ (Nat.le_of_ble_eq_true rfl) eL_law_1556 (fun z1 h1 p1 => ?_)
  obtain ⟨p1, g0⟩ := p1
  have M1 := M.c J g0
  have g1 := JG.go g0 (by decide) J.o0
  refine q_blk (lv2 := [(0, vr b), (1, vr o), (2, vr n), (3, vr out), (4, vi i)]) (st2 := [vr n, vi z1]) kL_law_1559 rfl ?_
  refine AQ.callVi (av := []) (st := [vi z1]) (c_X9_undo M1 J.vd H.u) lk_RL_171 (by decide) rfl rfl M1.ob ⟨_, rfl, rfl⟩ (Nat.le_of_ble_eq_true rfl) eL_law_1560 (fun z2 h2 p2 => ?_)
  obtain ⟨p2, fr⟩ := p2
  have gg : JG o h h2 := g1.fr fr (by have := J.2.2.1; omega)
  have e : z1 = z2 ∧ JI w h2 o n out := by
    obtain ⟨H1, H2, H3⟩ := H
    rcases p1 with ⟨a1, a2, a3⟩ | ⟨e, Hs2, a1, a2, cm2, a3⟩ <;> rcases p2 with ⟨b1, b2, b3⟩ | ⟨b1, b2, D2, b3, b4⟩
    · exact ⟨a2.trans b2.symm, D, cm, sc, L, tx, bl, le, Hs, f, _, ud, bf, rw, (J.c a3 g0).m fr, b3, B, C, ⟨H1, H2, H3⟩⟩
    · rw [a1] at H1; exact absurd b1 (by rw [H1]; decide)
    · rw [a1, List.length_cons] at H1; omega
    · subst a1
      have he := H3 0 e rfl
      rw [show ud - 1 - ((0 : Nat) : Int) = ud - 1 by omega] at he
      have v := J.hv e (List.mem_cons_self ..)
      have sm := he.1.tr (b3.same (v.same he.1))
      rw [List.length_cons] at H1 H2
      have hs := J.2.2.2.2.2.1
      have hG := J.2.2.2.2.2.2.2
      have J1 := J.nw (f := f) a3 g0 (hs e (List.mem_cons_self ..)) (fun x hx => hs x (List.mem_cons_of_mem _ hx)) (hG e (List.mem_cons_self ..)) (fun x hx => hG x (List.mem_cons_of_mem _ hx))
      refine ⟨by omega, D2, cm2, e.2.2.1, e.2.2.2, tx, bl, le, Hs2, f, _, ud - 1, bf, rw, (J1.m fr).same sm, b4, B, he.2.eq8 b3, by omega, by omega, fun k x hx => ?_⟩
      have := H3 (k + 1) x hx
      rw [show ud - 1 - ((k + 1 : Nat) : Int) = ud - 1 - 1 - k by omega] at this
      exact this
  obtain ⟨e, J2⟩ := e
  obtain rfl := e
  exact AQ.of (AS.ic_eq_s (tgt := 1582) eL_law_1563 (by decide)) (kk h2 J2 gg)
