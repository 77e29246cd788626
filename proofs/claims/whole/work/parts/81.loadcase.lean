/-! The law: a text is loaded. -/
section LD
variable {w : am_w} {h h1 h2 : AH} {o n out : Nat} {D cm : Int → Int} {sc : Nat} {L : GL} {tx : Int → Int} {bl le ud th len : Int} {Hs : List GE} {f bf : Int → Int} {rw : Int → Int → Int} {z1 z2 : Int}
def JLD (w : am_w) (h1 : AH) (o n out : Nat) (D cm : Int → Int) (sc : Nat) (L : GL) (tx : Int → Int) (bl le len : Int) (Hs : List GE) (kd st vl : Int → Int) (z : Int) : Prop :=
  ((0 ≤ len ∧ len ≤ bl) ∧ z = 0 ∧ ((∃ e a f1, rD kd st vl = .inl (e, a) ∧ f1 0 = am_wr e ∧ JC w h1 o n out D cm sc L tx 0 a Hs f1) ∨ ∃ D' L' cm' sc' f1, rD kd st vl = .inr (D', L') ∧ f1 0 = am_wr (D' 3) ∧ JC w h1 o n out D' cm' sc' (gm_cod L') tx 0 (-1) ((D, cm, sc, L) :: Hs.take 7) f1)) ∨ (¬ (0 ≤ len ∧ len ≤ bl) ∧ z = 1 ∧ ∃ f1, JC w h1 o n out D cm sc L tx bl le Hs f1)
theorem JC.ld (k : JC w h o n out D cm sc L tx bl le Hs f) (a : MA h n th bl le ud bf rw D) (p : (z1 = 0 ∧ ∃ v h1, ((0 ≤ len ∧ len ≤ bl) ∧ ∃ kd st vl, TKA kd st vl (gm_to tx len 801 0) ∧ ((∃ e at', rD kd st vl = .inl (e, at') ∧ v = e ∧ CCS h1 o (o + 1) (o + 2) (o + 26) (o + 50) (o + 52) (o + 59) (o + 62) D cm sc L tx 0 at' Hs) ∨ (∃ D' L' cm' sc', rD kd st vl = .inr (D', L') ∧ v = D' 3 ∧ (sc' < o ∨ h.2.1 ≤ sc') ∧ CCS h1 o (o + 1) (o + 2) (o + 26) (o + 50) (o + 52) (o + 59) (o + 62) D' cm' sc' (gm_cod L') tx 0 (-1) ((D, cm, sc, L) :: Hs.take 7))) ∧ am_go 2 h h1 o) ∧ h2 = am_set h1 out (102, 1, am_uI f 0 (am_wr v), am_N)) ∨ ∃ k, ((¬ (0 ≤ len ∧ len ≤ bl) ∧ (Sum.inr k : Int ⊕ Nat) = .inr 0) ∧ h2 = gm_thr h) ∧ z1 = 1) : (∃ kd st vl, (0 ≤ len → len ≤ bl → TKA kd st vl (gm_to tx len 801 0)) ∧ JLD w h2 o n out D cm sc L tx bl le len Hs kd st vl z1) ∧ MA h2 n th bl le ud bf rw D ∧ JG o h h2 := by
  rcases p with ⟨e, v, h1, ⟨q1, kd, st, vl, q2, q3, q4⟩, q5⟩ | ⟨i, ⟨⟨q1, -⟩, q2⟩, q3⟩
  · have bb := k.b8
    rcases q3 with ⟨e2, a2, r1, r2, r3⟩ | ⟨D', L', cm', sc', r1, r2, r4, r3⟩
    · have J1 := k.c r3 q4
      exact ⟨⟨kd, st, vl, fun _ _ => q2, Or.inl ⟨q1, e, Or.inl ⟨e2, a2, _, r1, by rw [← r2]; exact am_uI_at _ _ _, J1.wo q5⟩⟩⟩, (a.c k q4).wo J1 q5, (JG.go q4 (by decide) k.o0).st q5 (by have := k.2.2.1; omega)⟩
    · have J1 := k.nw (f := f) r3 q4 (by have := k.2.2.1; omega) (fun e he => by
        rcases List.mem_cons.mp he with rfl | he
        · exact k.2.2.2.2.1
        · exact k.2.2.2.2.2.1 e (List.mem_of_mem_take he)) (rD_ok (by omega) q1.1 q2 r1).2.2 (fun e he => by
        rcases List.mem_cons.mp he with rfl | he
        · exact k.gv
        · exact k.2.2.2.2.2.2.2 e (List.mem_of_mem_take he))
      exact ⟨⟨kd, st, vl, fun _ _ => q2, Or.inl ⟨q1, e, Or.inr ⟨D', L', cm', sc', _, r1, by rw [← r2]; exact am_uI_at _ _ _, J1.wo q5⟩⟩⟩, (a.c k q4).wo J1 q5, (JG.go q4 (by decide) k.o0).st q5 (by have := k.2.2.1; omega)⟩
  · subst q2
    exact ⟨⟨fun _ => 0, fun _ => 0, fun _ => 0, fun a b => absurd ⟨a, b⟩ q1, Or.inr ⟨q1, q3, f, k.thr⟩⟩, a.thr, JG.thr⟩
theorem BX.none {bf tx : Int → Int} : BX bf tx 0 := fun k k0 k1 => by omega
theorem JC.lld {kd st vl : Int → Int} (k : JC w h o n out D cm sc L tx bl le Hs f) (B : BX bf tx bl) (Co : CO D L) (Hr : HR ud rw Hs) (p : JLD w h1 o n out D cm sc L tx bl le len Hs kd st vl z1)
    (m : ((¬ (0 ≤ len ∧ len ≤ bl) ∧ MA h2 n 1 bl le ud bf rw D) ∨ ((0 ≤ len ∧ len ≤ bl) ∧ ((∃ e a D2, rD kd st vl = .inl (e, a) ∧ z2 = e ∧ gm_eq8 D D2 ∧ MA h2 n 0 0 a ud bf rw D2) ∨ (∃ D2 L E ud' rw', rD kd st vl = .inr (D2, L) ∧ z2 = D2 3 ∧ gm_same D2 E ∧ VD D2 ∧ E 4 = gm_hs L ∧ CE E (gm_ed (L.getD [])) ∧ (gm_ed (L.getD [])).length ≤ 1300 ∧ PU ud rw D ud' rw' ∧ (1 ≤ ud' ∧ ud' ≤ 8) ∧ MA h2 n 0 0 (-1) ud' bf rw' E)))) ∧ am_fr h1 h2 n (n + 14)) :
    ∃ th' bl' eo' ud' rw' E f2, MA h2 n th' bl' eo' ud' bf rw' E ∧ JI w h2 o n out ∧ am_fr h1 h2 n (n + 14) ∧ h2.1 out = some (102, 1, f2, am_N) ∧ (z1 = th' ∧ (0 ≤ z1 ∧ z1 ≤ 3) ∧ (z1 = 0 → f2 0 = am_wr z2)) := by
  obtain ⟨m, fr⟩ := m
  rcases p with ⟨q1, e, q2⟩ | ⟨q1, e, f1, J1⟩ <;> rcases m with ⟨m1, M2⟩ | ⟨m1, m2⟩
  · exact absurd q1 m1
  · rcases q2 with ⟨e1, a1, f1, r1, r2, J1⟩ | ⟨D', L', cm', sc', f1, r1, r2, J1⟩ <;> rcases m2 with ⟨e2, a2, D2, s1, s2, s3, M2⟩ | ⟨D2, L2, E, ud', rw', s1, s2, s3, s4, s5, s6, s7, s8, s9, M2⟩
    · have := r1.symm.trans s1
      cases this
      have J2 := (J1.m fr).same (s3.same k.vd)
      exact ⟨0, 0, a1, ud, rw, D2, f1, M2, ⟨D2, cm, sc, L, tx, 0, a1, Hs, f1, 0, ud, bf, rw, J2, M2, BX.none, Co.eq8 s3, Hr⟩, fr, J2.2.1, e, by omega, fun _ => by rw [s2]; exact r2⟩
    · have := r1.symm.trans s1
      cases this
    · have := r1.symm.trans s1
      cases this
    · have := r1.symm.trans s1
      cases this
      have J2 := (J1.m fr).same s3
      exact ⟨0, 0, -1, ud', rw', E, f1, M2, ⟨E, cm', sc', gm_cod L', tx, 0, -1, _, f1, 0, ud', bf, rw', J2, M2, BX.none, CO.ld s5 s6 s7 J1.wf, Hr.push s8 k.vd k.hv Co⟩, fr, J2.2.1, e, by omega, fun _ => by rw [s2]; exact r2⟩
  · have J2 := J1.m fr
    exact ⟨1, bl, le, ud, rw, D, f1, M2, ⟨D, cm, sc, L, tx, bl, le, Hs, f1, 1, ud, bf, rw, J2, M2, B, Co, Hr⟩, fr, J2.2.1, e, by omega, fun z => by omega⟩
  · exact absurd m1 q1
end LD
theorem j_load {nm : String} {T : List (Nat × Nat × Nat × Nat)} {w : am_w} {h : AH} {o n out b : Nat} {len i : Int} {g : Int → Int} {Q : RV → AH → Prop} (J : JI w h o n out) (S : SKR h b o len g i) (kk : ∀ h1, JI w h1 o n out → JG o h h1 → AQ w (mL nm T) 24 1582 [(0, vr b), (1, vr o), (2, vr n), (3, vr out), (4, vi i)] [] h1 Q) : AQ w (mL nm T) 24 229 [(0, vr b), (1, vr o), (2, vr n), (3, vr out), (4, vi i)] [] h Q := by
  obtain ⟨D, cm, sc, L, tx, bl, le, Hs, f, th, ud, bf, rw, J, M, B, C, H⟩ := J
  obtain ⟨⟨G, s0⟩, bo, i0, i1, l1, hg⟩ := id S
  refine q_blk (lv2 := [(0, vr b), (1, vr o), (2, vr n), (3, vr out), (4, vi i)]) (st2 := [vi (i + 1), vr b, vr o]) kL_law_229 rfl ?_
  refine q_ia eL_law_235 s0 (Or.inr rfl) (by omega) (by omega) rfl ?_
  refine q_blk (lv2 := [(0, vr b), (1, vr o), (2, vr n), (3, vr out), (4, vi i)]) (st2 := [vr out, vi (g (i + 1)), vr o]) kL_law_236 rfl ?_
  refine AQ.callWi (av := [vr o, vi (g (i + 1)), vr out]) (st := []) (c_L_load (c_X8_load J.1 J.2.2.2.1 (hg _)) J.1.ob (fun z h1 q => by obtain ⟨_, _, _, _, _, _, gg⟩ := q; exact (gg.2 _ J.2.2.1.2.2 (by have := J.2.2.1; omega)).trans J.2.1) (fun k h1 q => Sum.inr.inj q.1.2)) lk_L_load (by decide) rfl rfl (Nat.le_of_ble_eq_true rfl) eL_law_237 (fun z1 h1 p1 => ?_)
  obtain ⟨⟨kd, st, vl, hT, j1⟩, M1, g1⟩ := J.ld M p1
  obtain ⟨G1, s1⟩ := (S.go g1).1
  refine q_blk (lv2 := [(0, vr b), (1, vr o), (2, vr n), (3, vr out), (4, vi i), (5, vi z1)]) (st2 := [vi (i + 1), vr b, vr n]) kL_law_240 rfl ?_
  refine q_ia eL_law_248 s1 (Or.inr rfl) (by omega) (by omega) rfl ?_
  refine AQ.callVi (av := [vi (g (i + 1))]) (st := []) (c_X9_load M1 J.vd H.u J.b8 B (hg _) hT) lk_RL_95 (by decide) rfl rfl M1.ob ⟨_, rfl, rfl⟩ (Nat.le_of_ble_eq_true rfl) eL_law_249 (fun z2 h2 p2 => ?_)
  obtain ⟨th2, bl2, eo2, ud2, rw2, E, f2, M2, J2, fr, ho, cp⟩ := J.lld B C H j1 p2
  refine q_blk (lv2 := [(0, vr b), (1, vr o), (2, vr n), (3, vr out), (4, vi i), (5, vi z1), (6, vi z2)]) (st2 := [vr n]) kL_law_252 rfl ?_
  refine q_Vi (av := []) (st := []) (c_X9_thrown M2) lk_RL_96 (by decide) rfl rfl M2.ob ⟨_, rfl, rfl⟩ (Nat.le_of_ble_eq_true rfl) eL_law_255 (fun z3 e3 => ?_)
  subst e3
  exact jt kL_law_258 eL_law_260 kL_law_265 eL_law_267 kL_law_270 eL_law_272 kL_law_273 eL_law_275 eL_law_276 eL_law_277 eL_law_282 (by decide) ho cp (kk h2 J2 (g1.fr fr (by have := J.2.2.1; omega)))
