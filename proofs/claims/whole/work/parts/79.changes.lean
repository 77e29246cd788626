/-! The law: its cases that change. -/
section CHG
variable {w : am_w} {h h1 h2 : AH} {o n out : Nat} {D cm : Int → Int} {sc : Nat} {L : GL} {tx : Int → Int} {bl le ud th : Int} {Hs : List GE} {f bf : Int → Int} {rw : Int → Int → Int} {A0 : Int ⊕ Nat → Prop} {C C' : Nat → Int} {GD : Prop} {GR : Int → (Int → Int) → (Int → Int) → Prop} {z1 z2 : Int}
theorem gR_clo_D {p z z' : Int} {cm cm' E F : Int → Int} (h : gR_clo D p z E cm) (h' : gR_clo D p z' F cm') : E = F := by
  obtain ⟨q, r, h⟩ := h
  obtain ⟨q', r', h'⟩ := h'
  cases gm_rL_one r r'
  rcases h with ⟨a, b, c⟩ | ⟨a, b, c⟩ <;> rcases h' with ⟨a', b', c'⟩ | ⟨a', b', c'⟩
  · exact c.trans c'.symm
  · exact absurd a' a
  · exact absurd a a'
  · exact c.trans c'.symm
theorem HR.u (k : HR ud rw Hs) : 0 ≤ ud ∧ ud ≤ 8 := by obtain ⟨a, b, -⟩ := k; omega
/-- a change, answered or refused, into the law's array -/
def JH (w : am_w) (h1 : AH) (o n out : Nat) (D cm : Int → Int) (sc : Nat) (L : GL) (tx : Int → Int) (bl le : Int) (Hs : List GE) (A0 : Int ⊕ Nat → Prop) (C : Nat → Int) (GD : Prop) (GR : Int → (Int → Int) → (Int → Int) → Prop) (z : Int) : Prop :=
  (z = 0 ∧ ∃ v f1, f1 0 = am_wr v ∧ GD ∧ ∃ D' cm', GR v D' cm' ∧ JC w h1 o n out D' cm' sc L tx bl le ((D, cm, sc, L) :: Hs.take 7) f1) ∨ ∃ k f1, A0 (.inr k) ∧ z = C k ∧ JC w h1 o n out D cm sc L tx bl le Hs f1
theorem JC.ch (k : JC w h o n out D cm sc L tx bl le Hs f) (a : MA h n th bl le ud bf rw D) (hv : GD → ∀ v D' cm', GR v D' cm' → GV D') (p : (z1 = 0 ∧ ∃ v h1, (GD ∧ ∃ D' cm', GR v D' cm' ∧ CCS h1 o (o + 1) (o + 2) (o + 26) (o + 50) (o + 52) (o + 59) (o + 62) D' cm' sc L tx bl le ((D, cm, sc, L) :: Hs.take 7) ∧ am_go 0 h h1 o) ∧ h2 = am_set h1 out (102, 1, am_uI f 0 (am_wr v), am_N)) ∨ ∃ k, (A0 (.inr k) ∧ h2 = gm_thr h) ∧ z1 = C k) : JH w h2 o n out D cm sc L tx bl le Hs A0 C GD GR z1 ∧ MA h2 n th bl le ud bf rw D ∧ JG o h h2 := by
  rcases p with ⟨e, v, h1, ⟨q1, D', cm', q2, q3, q4⟩, q5⟩ | ⟨i, ⟨q1, q2⟩, q3⟩
  · have J1 := k.nw (f := f) q3 q4 k.2.2.2.2.1 (fun e he => by
      rcases List.mem_cons.mp he with rfl | he
      · exact k.2.2.2.2.1
      · exact k.2.2.2.2.2.1 e (List.mem_of_mem_take he)) (hv q1 v D' cm' q2) (fun e he => by
      rcases List.mem_cons.mp he with rfl | he
      · exact k.gv
      · exact k.2.2.2.2.2.2.2 e (List.mem_of_mem_take he))
    exact ⟨Or.inl ⟨e, v, _, am_uI_at _ _ _, q1, D', cm', q2, J1.wo q5⟩, (a.c k q4).wo J1 q5, (JG.go q4 (by decide) k.o0).st q5 (by have := k.2.2.1; omega)⟩
  · subst q2
    exact ⟨Or.inr ⟨i, f, q1, q3, k.thr⟩, a.thr, JG.thr⟩
/-- the model changes too -/
theorem JC.chg (k : JC w h o n out D cm sc L tx bl le Hs f) (B : BX bf tx bl) (Co : CO D L) (Hr : HR ud rw Hs) (hu : UN A0) (hn : GD → ∀ k, ¬ A0 (.inr k)) (hC : ∀ k, C k = C' k) (h0 : ∀ k, 1 ≤ C k ∧ C k ≤ 3)
    (ho1 : ∀ v v' D' E' c c', GR v D' c → GR v' E' c' → D' = E') (ho : ∀ v v' D' c c', GR v D' c → GR v' D' c' → CMS D' c → CMS D' c' → VD D' → v = v') (p : JH w h1 o n out D cm sc L tx bl le Hs A0 C GD GR z1)
    (m : (∃ th', gm_tx C' A0 th' ∧ th' ≠ 0 ∧ MA h2 n th' bl le ud bf rw D ∧ am_fr h1 h2 n (n + 14)) ∨ (GD ∧ ∃ D2 D' cm' ud' rw', GR z2 D2 cm' ∧ gm_same D2 D' ∧ gm_up D D' ∧ CMS D' cm' ∧ PU ud rw D ud' rw' ∧ (1 ≤ ud' ∧ ud' ≤ 8) ∧ MA h2 n 0 bl le ud' bf rw' D' ∧ am_fr h1 h2 n (n + 14))) :
    ∃ th' ud' rw' E f2, MA h2 n th' bl le ud' bf rw' E ∧ JI w h2 o n out ∧ am_fr h1 h2 n (n + 14) ∧ h2.1 out = some (102, 1, f2, am_N) ∧ (z1 = th' ∧ (0 ≤ z1 ∧ z1 ≤ 3) ∧ (z1 = 0 → f2 0 = am_wr z2)) := by
  rcases p with ⟨e, v, f1, e1, q1, D', cm', q2, J1⟩ | ⟨i, f1, q1, q2, J1⟩ <;> rcases m with ⟨th', ⟨j, a1, a2⟩, a3, M2, fr⟩ | ⟨b1, D2, Dm, cm2, ud', rw', b2, b3, b4, b5, b7, b8, M2, fr⟩
  · exact absurd a1 (hn q1 j)
  · obtain rfl := ho1 v z2 D' D2 cm' cm2 q2 b2
    obtain rfl := ho v z2 D' cm' cm2 q2 b2 J1.ms (b5.same (J1.vd.same b3) b3.sy) J1.vd
    have J2 := (J1.m fr).same b3
    exact ⟨0, ud', rw', Dm, f1, M2, ⟨Dm, cm', sc, L, tx, bl, le, _, f1, 0, ud', bf, rw', J2, M2, B, Co.up b4, Hr.push b7 k.vd k.hv Co⟩, fr, J2.2.1, e, by omega, fun _ => e1⟩
  · have J2 := J1.m fr
    cases hu _ _ q1 a1
    have := h0 i
    have := hC i
    exact ⟨th', ud, rw, D, f1, M2, ⟨D, cm, sc, L, tx, bl, le, Hs, f1, th', ud, bf, rw, J2, M2, B, Co, Hr⟩, fr, J2.2.1, by omega, by omega, fun z => by omega⟩
  · exact absurd q1 (hn b1 i)
end CHG
theorem j_begin {nm : String} {T : List (Nat × Nat × Nat × Nat)} {w : am_w} {h : AH} {o n out b : Nat} {len i : Int} {g : Int → Int} {Q : RV → AH → Prop} (J : JI w h o n out) (S : SKR h b o len g i) (kk : ∀ h1, JI w h1 o n out → JG o h h1 → AQ w (mL nm T) 24 1582 [(0, vr b), (1, vr o), (2, vr n), (3, vr out), (4, vi i)] [] h1 Q) : AQ w (mL nm T) 24 1123 [(0, vr b), (1, vr o), (2, vr n), (3, vr out), (4, vi i)] [] h Q := by
  obtain ⟨D, cm, sc, L, tx, bl, le, Hs, f, th, ud, bf, rw, J, M, B, C, H⟩ := J
  obtain ⟨⟨G, s0⟩, bo, i0, i1, l1, hg⟩ := id S
  refine q_blk (lv2 := [(0, vr b), (1, vr o), (2, vr n), (3, vr out), (4, vi i)]) (st2 := [vi (i + 1), vr b, vr o]) kL_law_1123 rfl ?_
  refine q_ia eL_law_1129 s0 (Or.inr rfl) (by omega) (by omega) rfl ?_
  refine q_blk (lv2 := [(0, vr b), (1, vr o), (2, vr n), (3, vr out), (4, vi i)]) (st2 := [vi (i + 2), vr b, vi (g (i + 1)), vr o]) kL_law_1130 rfl ?_
  refine q_ia eL_law_1135 s0 (Or.inr rfl) (by omega) (by omega) rfl ?_
  refine q_blk (lv2 := [(0, vr b), (1, vr o), (2, vr n), (3, vr out), (4, vi i)]) (st2 := [vi (i + 3), vr b, vi (g (i + 2)), vi (g (i + 1)), vr o]) kL_law_1136 rfl ?_
  refine q_ia eL_law_1141 s0 (Or.inr rfl) (by omega) (by omega) rfl ?_
  refine q_blk (lv2 := [(0, vr b), (1, vr o), (2, vr n), (3, vr out), (4, vi i)]) (st2 := [vr out, vi (g (i + 3)), vi (g (i + 2)), vi (g (i + 1)), vr o]) kL_law_1142 rfl ?_
  refine AQ.callWi (av := [vr o, vi (g (i + 1)), vi (g (i + 2)), vi (g (i + 3)), vr out]) (st := []) (c_L_begin (c_X8_begin J.1 (hg _) (hg _) (hg _)) J.1.ob (fun z h1 q => by obtain ⟨_, _, _, _, _, gg⟩ := q; exact (gg.2 _ J.2.2.1.2.2 (by have := J.2.2.1; omega)).trans J.2.1) (fun k h1 q => by have q := q.1; simp only [gA_p, gA_k, gA_xy, gA_c, gA_z, gA_pl, gA_pol, gA_cnt, gA_sto, gm_F, gA_f, Sum.inr.injEq, reduceCtorEq, and_false, or_false, false_or, exists_const, exists_false] at q; omega)) lk_L_begin (by decide) rfl rfl (Nat.le_of_ble_eq_true rfl) eL_law_1143 (fun z1 h1 p1 => ?_)
  obtain ⟨j1, M1, g1⟩ := J.ch (C := fun k => if k = 0 then 1 else 2) (GR := fun v D2 c2 => gR_beg D (g (i + 1)) (g (i + 2)) (g (i + 3)) v D2) M (fun pr v D2 c2 q => gR_beg_v J.vd J.gv q) p1
  obtain ⟨G1, s1⟩ := (S.go g1).1
  refine q_blk (lv2 := [(0, vr b), (1, vr o), (2, vr n), (3, vr out), (4, vi i), (5, vi z1)]) (st2 := [vi (i + 1), vr b, vr n]) kL_law_1146 rfl ?_
  refine q_ia eL_law_1154 s1 (Or.inr rfl) (by omega) (by omega) rfl ?_
  refine q_blk (lv2 := [(0, vr b), (1, vr o), (2, vr n), (3, vr out), (4, vi i), (5, vi z1)]) (st2 := [vi (i + 2), vr b, vi (g (i + 1)), vr n]) kL_law_1155 rfl ?_
  refine q_ia eL_law_1160 s1 (Or.inr rfl) (by omega) (by omega) rfl ?_
  refine q_blk (lv2 := [(0, vr b), (1, vr o), (2, vr n), (3, vr out), (4, vi i), (5, vi z1)]) (st2 := [vi (i + 3), vr b, vi (g (i + 2)), vi (g (i + 1)), vr n]) kL_law_1161 rfl ?_
  refine q_ia eL_law_1166 s1 (Or.inr rfl) (by omega) (by omega) rfl ?_
  refine AQ.callVi (av := [vi (g (i + 1)), vi (g (i + 2)), vi (g (i + 3))]) (st := []) (c_X9_begin M1 J.vd H.u J.ms (hg _) (hg _) (hg _)) lk_RL_151 (by decide) rfl rfl M1.ob ⟨_, rfl, rfl⟩ (Nat.le_of_ble_eq_true rfl) eL_law_1167 (fun z2 h2 p2 => ?_)
  obtain ⟨th2, ud2, rw2, E, f2, M2, J2, fr, ho, cp⟩ := J.chg (C := fun k => if k = 0 then 1 else 2) (GR := fun v D2 c2 => gR_beg D (g (i + 1)) (g (i + 2)) (g (i + 3)) v D2) B C H (UN.pl (UN.xy (UN.f UN.F))) (fun pr k q => by simp only [gA_p, gA_k, gA_xy, gA_pl, gm_F, gA_f, Sum.inr.injEq, reduceCtorEq, and_false, or_false, false_or] at q; omega) (fun _ => rfl) (fun k => by (repeat (first | split | decide))) (fun v v2 D2 E2 c c2 q q2 => (gR_beg_one q q2).2) (fun v v2 D2 c c2 q q2 _ _ _ => (gR_beg_one q q2).1) j1 p2
  refine q_blk (lv2 := [(0, vr b), (1, vr o), (2, vr n), (3, vr out), (4, vi i), (5, vi z1), (6, vi z2)]) (st2 := [vr n]) kL_law_1170 rfl ?_
  refine q_Vi (av := []) (st := []) (c_X9_thrown M2) lk_RL_96 (by decide) rfl rfl M2.ob ⟨_, rfl, rfl⟩ (Nat.le_of_ble_eq_true rfl) eL_law_1173 (fun z3 e3 => ?_)
  subst e3
  exact jt kL_law_1176 eL_law_1178 kL_law_1183 eL_law_1185 kL_law_1188 eL_law_1190 kL_law_1191 eL_law_1193 eL_law_1194 eL_law_1195 eL_law_1200 (by decide) ho cp (kk h2 J2 (g1.fr fr (by have := J.2.2.1; omega)))

theorem j_corner {nm : String} {T : List (Nat × Nat × Nat × Nat)} {w : am_w} {h : AH} {o n out b : Nat} {len i : Int} {g : Int → Int} {Q : RV → AH → Prop} (J : JI w h o n out) (S : SKR h b o len g i) (kk : ∀ h1, JI w h1 o n out → JG o h h1 → AQ w (mL nm T) 24 1582 [(0, vr b), (1, vr o), (2, vr n), (3, vr out), (4, vi i)] [] h1 Q) : AQ w (mL nm T) 24 1203 [(0, vr b), (1, vr o), (2, vr n), (3, vr out), (4, vi i)] [] h Q := by
  obtain ⟨D, cm, sc, L, tx, bl, le, Hs, f, th, ud, bf, rw, J, M, B, C, H⟩ := J
  obtain ⟨⟨G, s0⟩, bo, i0, i1, l1, hg⟩ := id S
  refine q_blk (lv2 := [(0, vr b), (1, vr o), (2, vr n), (3, vr out), (4, vi i)]) (st2 := [vi (i + 1), vr b, vr o]) kL_law_1203 rfl ?_
  refine q_ia eL_law_1209 s0 (Or.inr rfl) (by omega) (by omega) rfl ?_
  refine q_blk (lv2 := [(0, vr b), (1, vr o), (2, vr n), (3, vr out), (4, vi i)]) (st2 := [vi (i + 2), vr b, vi (g (i + 1)), vr o]) kL_law_1210 rfl ?_
  refine q_ia eL_law_1215 s0 (Or.inr rfl) (by omega) (by omega) rfl ?_
  refine q_blk (lv2 := [(0, vr b), (1, vr o), (2, vr n), (3, vr out), (4, vi i)]) (st2 := [vi (i + 3), vr b, vi (g (i + 2)), vi (g (i + 1)), vr o]) kL_law_1216 rfl ?_
  refine q_ia eL_law_1221 s0 (Or.inr rfl) (by omega) (by omega) rfl ?_
  refine q_blk (lv2 := [(0, vr b), (1, vr o), (2, vr n), (3, vr out), (4, vi i)]) (st2 := [vr out, vi (g (i + 3)), vi (g (i + 2)), vi (g (i + 1)), vr o]) kL_law_1222 rfl ?_
  refine AQ.callWi (av := [vr o, vi (g (i + 1)), vi (g (i + 2)), vi (g (i + 3)), vr out]) (st := []) (c_L_corner (c_X8_corner J.1 (hg _) (hg _) (hg _)) J.1.ob (fun z h1 q => by obtain ⟨_, _, _, _, _, gg⟩ := q; exact (gg.2 _ J.2.2.1.2.2 (by have := J.2.2.1; omega)).trans J.2.1) (fun k h1 q => by have q := q.1; simp only [gA_p, gA_k, gA_xy, gA_c, gA_z, gA_pl, gA_pol, gA_cnt, gA_sto, gm_F, gA_f, Sum.inr.injEq, reduceCtorEq, and_false, or_false, false_or, exists_const, exists_false] at q; omega)) lk_L_corner (by decide) rfl rfl (Nat.le_of_ble_eq_true rfl) eL_law_1223 (fun z1 h1 p1 => ?_)
  obtain ⟨j1, M1, g1⟩ := J.ch (C := fun k => if k = 2 then 1 else 2) (GR := fun v D2 c2 => gR_cor D (g (i + 1)) (g (i + 2)) (g (i + 3)) v D2) M (fun pr v D2 c2 q => gR_cor_v J.vd J.gv pr.1.1 pr.1.2 q) p1
  obtain ⟨G1, s1⟩ := (S.go g1).1
  refine q_blk (lv2 := [(0, vr b), (1, vr o), (2, vr n), (3, vr out), (4, vi i), (5, vi z1)]) (st2 := [vi (i + 1), vr b, vr n]) kL_law_1226 rfl ?_
  refine q_ia eL_law_1234 s1 (Or.inr rfl) (by omega) (by omega) rfl ?_
  refine q_blk (lv2 := [(0, vr b), (1, vr o), (2, vr n), (3, vr out), (4, vi i), (5, vi z1)]) (st2 := [vi (i + 2), vr b, vi (g (i + 1)), vr n]) kL_law_1235 rfl ?_
  refine q_ia eL_law_1240 s1 (Or.inr rfl) (by omega) (by omega) rfl ?_
  refine q_blk (lv2 := [(0, vr b), (1, vr o), (2, vr n), (3, vr out), (4, vi i), (5, vi z1)]) (st2 := [vi (i + 3), vr b, vi (g (i + 2)), vi (g (i + 1)), vr n]) kL_law_1241 rfl ?_
  refine q_ia eL_law_1246 s1 (Or.inr rfl) (by omega) (by omega) rfl ?_
  refine AQ.callVi (av := [vi (g (i + 1)), vi (g (i + 2)), vi (g (i + 3))]) (st := []) (c_X9_corner M1 J.vd H.u J.ms (hg _) (hg _) (hg _)) lk_RL_154 (by decide) rfl rfl M1.ob ⟨_, rfl, rfl⟩ (Nat.le_of_ble_eq_true rfl) eL_law_1247 (fun z2 h2 p2 => ?_)
  obtain ⟨th2, ud2, rw2, E, f2, M2, J2, fr, ho, cp⟩ := J.chg (C := fun k => if k = 2 then 1 else 2) (GR := fun v D2 c2 => gR_cor D (g (i + 1)) (g (i + 2)) (g (i + 3)) v D2) B C H (UN.p fun _ => UN.xy UN.F) (fun pr k q => by simp only [gA_p, gA_k, gA_xy, gA_pl, gm_F, gA_f, Sum.inr.injEq, reduceCtorEq, and_false, or_false, false_or] at q; omega) (fun _ => rfl) (fun k => by (repeat (first | split | decide))) (fun v v2 D2 E2 c c2 q q2 => (gR_cor_one q q2).2) (fun v v2 D2 c c2 q q2 _ _ _ => (gR_cor_one q q2).1) j1 p2
  refine q_blk (lv2 := [(0, vr b), (1, vr o), (2, vr n), (3, vr out), (4, vi i), (5, vi z1), (6, vi z2)]) (st2 := [vr n]) kL_law_1250 rfl ?_
  refine q_Vi (av := []) (st := []) (c_X9_thrown M2) lk_RL_96 (by decide) rfl rfl M2.ob ⟨_, rfl, rfl⟩ (Nat.le_of_ble_eq_true rfl) eL_law_1253 (fun z3 e3 => ?_)
  subst e3
  exact jt kL_law_1256 eL_law_1258 kL_law_1263 eL_law_1265 kL_law_1268 eL_law_1270 kL_law_1271 eL_law_1273 eL_law_1274 eL_law_1275 eL_law_1280 (by decide) ho cp (kk h2 J2 (g1.fr fr (by have := J.2.2.1; omega)))

theorem j_close {nm : String} {T : List (Nat × Nat × Nat × Nat)} {w : am_w} {h : AH} {o n out b : Nat} {len i : Int} {g : Int → Int} {Q : RV → AH → Prop} (J : JI w h o n out) (S : SKR h b o len g i) (kk : ∀ h1, JI w h1 o n out → JG o h h1 → AQ w (mL nm T) 24 1582 [(0, vr b), (1, vr o), (2, vr n), (3, vr out), (4, vi i)] [] h1 Q) : AQ w (mL nm T) 24 1283 [(0, vr b), (1, vr o), (2, vr n), (3, vr out), (4, vi i)] [] h Q := by
  obtain ⟨D, cm, sc, L, tx, bl, le, Hs, f, th, ud, bf, rw, J, M, B, C, H⟩ := J
  obtain ⟨⟨G, s0⟩, bo, i0, i1, l1, hg⟩ := id S
  refine q_blk (lv2 := [(0, vr b), (1, vr o), (2, vr n), (3, vr out), (4, vi i)]) (st2 := [vi (i + 1), vr b, vr o]) kL_law_1283 rfl ?_
  refine q_ia eL_law_1289 s0 (Or.inr rfl) (by omega) (by omega) rfl ?_
  refine q_blk (lv2 := [(0, vr b), (1, vr o), (2, vr n), (3, vr out), (4, vi i)]) (st2 := [vr out, vi (g (i + 1)), vr o]) kL_law_1290 rfl ?_
  refine AQ.callWi (av := [vr o, vi (g (i + 1)), vr out]) (st := []) (c_L_close (c_X8_close J.1 (hg _)) J.1.ob (fun z h1 q => by obtain ⟨_, _, _, _, _, gg⟩ := q; exact (gg.2 _ J.2.2.1.2.2 (by have := J.2.2.1; omega)).trans J.2.1) (fun k h1 q => by have q := q.1; simp only [gA_p, gA_k, gA_xy, gA_c, gA_z, gA_pl, gA_pol, gA_cnt, gA_sto, gm_F, gA_f, Sum.inr.injEq, reduceCtorEq, and_false, or_false, false_or, exists_const, exists_false] at q; omega)) lk_L_close (by decide) rfl rfl (Nat.le_of_ble_eq_true rfl) eL_law_1291 (fun z1 h1 p1 => ?_)
  obtain ⟨j1, M1, g1⟩ := J.ch (C := fun _ => 1) (GR := fun v D2 c2 => gR_clo D (g (i + 1)) v D2 c2) M (fun pr v D2 c2 q => gR_clo_v J.vd J.gv pr.1 pr.2 q) p1
  obtain ⟨G1, s1⟩ := (S.go g1).1
  refine q_blk (lv2 := [(0, vr b), (1, vr o), (2, vr n), (3, vr out), (4, vi i), (5, vi z1)]) (st2 := [vi (i + 1), vr b, vr n]) kL_law_1294 rfl ?_
  refine q_ia eL_law_1302 s1 (Or.inr rfl) (by omega) (by omega) rfl ?_
  refine AQ.callVi (av := [vi (g (i + 1))]) (st := []) (c_X9_close M1 J.vd H.u J.ms (hg _)) lk_RL_157 (by decide) rfl rfl M1.ob ⟨_, rfl, rfl⟩ (Nat.le_of_ble_eq_true rfl) eL_law_1303 (fun z2 h2 p2 => ?_)
  obtain ⟨th2, ud2, rw2, E, f2, M2, J2, fr, ho, cp⟩ := J.chg (C := fun _ => 1) (GR := fun v D2 c2 => gR_clo D (g (i + 1)) v D2 c2) B C H (UN.p fun _ => UN.F) (fun pr k q => by simp only [gA_p, gA_k, gA_xy, gA_pl, gm_F, gA_f, Sum.inr.injEq, reduceCtorEq, and_false, or_false, false_or] at q; omega) (fun _ => rfl) (fun k => by (repeat (first | split | decide))) (fun v v2 D2 E2 c c2 q q2 => gR_clo_D q q2) (fun v v2 D2 c c2 q q2 hc hc2 hd => (gR_clo_one q q2 hc hc2 hd).1) j1 p2
  refine q_blk (lv2 := [(0, vr b), (1, vr o), (2, vr n), (3, vr out), (4, vi i), (5, vi z1), (6, vi z2)]) (st2 := [vr n]) kL_law_1306 rfl ?_
  refine q_Vi (av := []) (st := []) (c_X9_thrown M2) lk_RL_96 (by decide) rfl rfl M2.ob ⟨_, rfl, rfl⟩ (Nat.le_of_ble_eq_true rfl) eL_law_1309 (fun z3 e3 => ?_)
  subst e3
  exact jt kL_law_1312 eL_law_1314 kL_law_1319 eL_law_1321 kL_law_1324 eL_law_1326 kL_law_1327 eL_law_1329 eL_law_1330 eL_law_1331 eL_law_1336 (by decide) ho cp (kk h2 J2 (g1.fr fr (by have := J.2.2.1; omega)))

theorem j_bend {nm : String} {T : List (Nat × Nat × Nat × Nat)} {w : am_w} {h : AH} {o n out b : Nat} {len i : Int} {g : Int → Int} {Q : RV → AH → Prop} (J : JI w h o n out) (S : SKR h b o len g i) (kk : ∀ h1, JI w h1 o n out → JG o h h1 → AQ w (mL nm T) 24 1582 [(0, vr b), (1, vr o), (2, vr n), (3, vr out), (4, vi i)] [] h1 Q) : AQ w (mL nm T) 24 1339 [(0, vr b), (1, vr o), (2, vr n), (3, vr out), (4, vi i)] [] h Q := by
  obtain ⟨D, cm, sc, L, tx, bl, le, Hs, f, th, ud, bf, rw, J, M, B, C, H⟩ := J
  obtain ⟨⟨G, s0⟩, bo, i0, i1, l1, hg⟩ := id S
  refine q_blk (lv2 := [(0, vr b), (1, vr o), (2, vr n), (3, vr out), (4, vi i)]) (st2 := [vi (i + 1), vr b, vr o]) kL_law_1339 rfl ?_
  refine q_ia eL_law_1345 s0 (Or.inr rfl) (by omega) (by omega) rfl ?_
  refine q_blk (lv2 := [(0, vr b), (1, vr o), (2, vr n), (3, vr out), (4, vi i)]) (st2 := [vi (i + 2), vr b, vi (g (i + 1)), vr o]) kL_law_1346 rfl ?_
  refine q_ia eL_law_1351 s0 (Or.inr rfl) (by omega) (by omega) rfl ?_
  refine q_blk (lv2 := [(0, vr b), (1, vr o), (2, vr n), (3, vr out), (4, vi i)]) (st2 := [vi (i + 3), vr b, vi (g (i + 2)), vi (g (i + 1)), vr o]) kL_law_1352 rfl ?_
  refine q_ia eL_law_1357 s0 (Or.inr rfl) (by omega) (by omega) rfl ?_
  refine q_blk (lv2 := [(0, vr b), (1, vr o), (2, vr n), (3, vr out), (4, vi i)]) (st2 := [vi (i + 4), vr b, vi (g (i + 3)), vi (g (i + 2)), vi (g (i + 1)), vr o]) kL_law_1358 rfl ?_
  refine q_ia eL_law_1363 s0 (Or.inr rfl) (by omega) (by omega) rfl ?_
  refine q_blk (lv2 := [(0, vr b), (1, vr o), (2, vr n), (3, vr out), (4, vi i)]) (st2 := [vr out, vi (g (i + 4)), vi (g (i + 3)), vi (g (i + 2)), vi (g (i + 1)), vr o]) kL_law_1364 rfl ?_
  refine AQ.callWi (av := [vr o, vi (g (i + 1)), vi (g (i + 2)), vi (g (i + 3)), vi (g (i + 4)), vr out]) (st := []) (c_L_bend (c_X8_bend J.1 (hg _) (hg _) (hg _) (hg _)) J.1.ob (fun z h1 q => by obtain ⟨_, _, _, _, _, gg⟩ := q; exact (gg.2 _ J.2.2.1.2.2 (by have := J.2.2.1; omega)).trans J.2.1) (fun k h1 q => by have q := q.1; simp only [gA_p, gA_k, gA_xy, gA_c, gA_z, gA_pl, gA_pol, gA_cnt, gA_sto, gm_F, gA_f, Sum.inr.injEq, reduceCtorEq, and_false, or_false, false_or, exists_const, exists_false] at q; omega)) lk_L_bend (by decide) rfl rfl (Nat.le_of_ble_eq_true rfl) eL_law_1365 (fun z1 h1 p1 => ?_)
  obtain ⟨j1, M1, g1⟩ := J.ch (C := fun k => if k = 2 then 1 else if k = 1 then 2 else 3) (GR := fun v D2 c2 => gR_ben D (g (i + 1)) (g (i + 2)) (g (i + 3)) (g (i + 4)) v D2) M (fun pr v D2 c2 q => gR_ben_v J.vd J.ve J.gv pr.1.1 pr.1.2 pr.2.1.1 pr.2.1.2 q) p1
  obtain ⟨G1, s1⟩ := (S.go g1).1
  refine q_blk (lv2 := [(0, vr b), (1, vr o), (2, vr n), (3, vr out), (4, vi i), (5, vi z1)]) (st2 := [vi (i + 1), vr b, vr n]) kL_law_1368 rfl ?_
  refine q_ia eL_law_1376 s1 (Or.inr rfl) (by omega) (by omega) rfl ?_
  refine q_blk (lv2 := [(0, vr b), (1, vr o), (2, vr n), (3, vr out), (4, vi i), (5, vi z1)]) (st2 := [vi (i + 2), vr b, vi (g (i + 1)), vr n]) kL_law_1377 rfl ?_
  refine q_ia eL_law_1382 s1 (Or.inr rfl) (by omega) (by omega) rfl ?_
  refine q_blk (lv2 := [(0, vr b), (1, vr o), (2, vr n), (3, vr out), (4, vi i), (5, vi z1)]) (st2 := [vi (i + 3), vr b, vi (g (i + 2)), vi (g (i + 1)), vr n]) kL_law_1383 rfl ?_
  refine q_ia eL_law_1388 s1 (Or.inr rfl) (by omega) (by omega) rfl ?_
  refine q_blk (lv2 := [(0, vr b), (1, vr o), (2, vr n), (3, vr out), (4, vi i), (5, vi z1)]) (st2 := [vi (i + 4), vr b, vi (g (i + 3)), vi (g (i + 2)), vi (g (i + 1)), vr n]) kL_law_1389 rfl ?_
  refine q_ia eL_law_1394 s1 (Or.inr rfl) (by omega) (by omega) rfl ?_
  refine AQ.callVi (av := [vi (g (i + 1)), vi (g (i + 2)), vi (g (i + 3)), vi (g (i + 4))]) (st := []) (c_X9_bend M1 J.vd H.u J.ms (hg _) (hg _) (hg _) (hg _)) lk_RL_161 (by decide) rfl rfl M1.ob ⟨_, rfl, rfl⟩ (Nat.le_of_ble_eq_true rfl) eL_law_1395 (fun z2 h2 p2 => ?_)
  obtain ⟨th2, ud2, rw2, E, f2, M2, J2, fr, ho, cp⟩ := J.chg (C := fun k => if k = 2 then 1 else if k = 1 then 2 else 3) (GR := fun v D2 c2 => gR_ben D (g (i + 1)) (g (i + 2)) (g (i + 3)) (g (i + 4)) v D2) B C H (UN.p fun _ => UN.k (UN.xy UN.F)) (fun pr k q => by simp only [gA_p, gA_k, gA_xy, gA_pl, gm_F, gA_f, Sum.inr.injEq, reduceCtorEq, and_false, or_false, false_or] at q; omega) (fun _ => rfl) (fun k => by (repeat (first | split | decide))) (fun v v2 D2 E2 c c2 q q2 => (gR_ben_one q q2).2) (fun v v2 D2 c c2 q q2 _ _ _ => (gR_ben_one q q2).1) j1 p2
  refine q_blk (lv2 := [(0, vr b), (1, vr o), (2, vr n), (3, vr out), (4, vi i), (5, vi z1), (6, vi z2)]) (st2 := [vr n]) kL_law_1398 rfl ?_
  refine q_Vi (av := []) (st := []) (c_X9_thrown M2) lk_RL_96 (by decide) rfl rfl M2.ob ⟨_, rfl, rfl⟩ (Nat.le_of_ble_eq_true rfl) eL_law_1401 (fun z3 e3 => ?_)
  subst e3
  exact jt kL_law_1404 eL_law_1406 kL_law_1411 eL_law_1413 kL_law_1416 eL_law_1418 kL_law_1419 eL_law_1421 eL_law_1422 eL_law_1423 eL_law_1428 (by decide) ho cp (kk h2 J2 (g1.fr fr (by have := J.2.2.1; omega)))

theorem j_takeOut {nm : String} {T : List (Nat × Nat × Nat × Nat)} {w : am_w} {h : AH} {o n out b : Nat} {len i : Int} {g : Int → Int} {Q : RV → AH → Prop} (J : JI w h o n out) (S : SKR h b o len g i) (kk : ∀ h1, JI w h1 o n out → JG o h h1 → AQ w (mL nm T) 24 1582 [(0, vr b), (1, vr o), (2, vr n), (3, vr out), (4, vi i)] [] h1 Q) : AQ w (mL nm T) 24 1431 [(0, vr b), (1, vr o), (2, vr n), (3, vr out), (4, vi i)] [] h Q := by
  obtain ⟨D, cm, sc, L, tx, bl, le, Hs, f, th, ud, bf, rw, J, M, B, C, H⟩ := J
  obtain ⟨⟨G, s0⟩, bo, i0, i1, l1, hg⟩ := id S
  refine q_blk (lv2 := [(0, vr b), (1, vr o), (2, vr n), (3, vr out), (4, vi i)]) (st2 := [vi (i + 1), vr b, vr o]) kL_law_1431 rfl ?_
  refine q_ia eL_law_1437 s0 (Or.inr rfl) (by omega) (by omega) rfl ?_
  refine q_blk (lv2 := [(0, vr b), (1, vr o), (2, vr n), (3, vr out), (4, vi i)]) (st2 := [vi (i + 2), vr b, vi (g (i + 1)), vr o]) kL_law_1438 rfl ?_
  refine q_ia eL_law_1443 s0 (Or.inr rfl) (by omega) (by omega) rfl ?_
  refine q_blk (lv2 := [(0, vr b), (1, vr o), (2, vr n), (3, vr out), (4, vi i)]) (st2 := [vr out, vi (g (i + 2)), vi (g (i + 1)), vr o]) kL_law_1444 rfl ?_
  refine AQ.callWi (av := [vr o, vi (g (i + 1)), vi (g (i + 2)), vr out]) (st := []) (c_L_takeOut (c_X8_takeOut J.1 (hg _) (hg _)) J.1.ob (fun z h1 q => by obtain ⟨_, _, _, _, _, gg⟩ := q; exact (gg.2 _ J.2.2.1.2.2 (by have := J.2.2.1; omega)).trans J.2.1) (fun k h1 q => by have q := q.1; simp only [gA_p, gA_k, gA_xy, gA_c, gA_z, gA_pl, gA_pol, gA_cnt, gA_sto, gm_F, gA_f, Sum.inr.injEq, reduceCtorEq, and_false, or_false, false_or, exists_const, exists_false] at q; omega)) lk_L_takeOut (by decide) rfl rfl (Nat.le_of_ble_eq_true rfl) eL_law_1445 (fun z1 h1 p1 => ?_)
  obtain ⟨j1, M1, g1⟩ := J.ch (C := fun k => if k = 2 then 1 else 2) (GR := fun v D2 c2 => gR_out D (g (i + 1)) (g (i + 2)) v D2) M (fun pr v D2 c2 q => gR_out_v J.vd J.gv pr.1.1 pr.1.2 pr.2.1 pr.2.2 q) p1
  obtain ⟨G1, s1⟩ := (S.go g1).1
  refine q_blk (lv2 := [(0, vr b), (1, vr o), (2, vr n), (3, vr out), (4, vi i), (5, vi z1)]) (st2 := [vi (i + 1), vr b, vr n]) kL_law_1448 rfl ?_
  refine q_ia eL_law_1456 s1 (Or.inr rfl) (by omega) (by omega) rfl ?_
  refine q_blk (lv2 := [(0, vr b), (1, vr o), (2, vr n), (3, vr out), (4, vi i), (5, vi z1)]) (st2 := [vi (i + 2), vr b, vi (g (i + 1)), vr n]) kL_law_1457 rfl ?_
  refine q_ia eL_law_1462 s1 (Or.inr rfl) (by omega) (by omega) rfl ?_
  refine AQ.callVi (av := [vi (g (i + 1)), vi (g (i + 2))]) (st := []) (c_X9_takeOut M1 J.vd H.u J.ms (hg _) (hg _)) lk_RL_164 (by decide) rfl rfl M1.ob ⟨_, rfl, rfl⟩ (Nat.le_of_ble_eq_true rfl) eL_law_1463 (fun z2 h2 p2 => ?_)
  obtain ⟨th2, ud2, rw2, E, f2, M2, J2, fr, ho, cp⟩ := J.chg (C := fun k => if k = 2 then 1 else 2) (GR := fun v D2 c2 => gR_out D (g (i + 1)) (g (i + 2)) v D2) B C H (UN.p fun _ => UN.k UN.F) (fun pr k q => by simp only [gA_p, gA_k, gA_xy, gA_pl, gm_F, gA_f, Sum.inr.injEq, reduceCtorEq, and_false, or_false, false_or] at q; omega) (fun _ => rfl) (fun k => by (repeat (first | split | decide))) (fun v v2 D2 E2 c c2 q q2 => (gR_out_one q q2).2) (fun v v2 D2 c c2 q q2 _ _ _ => (gR_out_one q q2).1) j1 p2
  refine q_blk (lv2 := [(0, vr b), (1, vr o), (2, vr n), (3, vr out), (4, vi i), (5, vi z1), (6, vi z2)]) (st2 := [vr n]) kL_law_1466 rfl ?_
  refine q_Vi (av := []) (st := []) (c_X9_thrown M2) lk_RL_96 (by decide) rfl rfl M2.ob ⟨_, rfl, rfl⟩ (Nat.le_of_ble_eq_true rfl) eL_law_1469 (fun z3 e3 => ?_)
  subst e3
  exact jt kL_law_1472 eL_law_1474 kL_law_1479 eL_law_1481 kL_law_1484 eL_law_1486 kL_law_1487 eL_law_1489 eL_law_1490 eL_law_1491 eL_law_1496 (by decide) ho cp (kk h2 J2 (g1.fr fr (by have := J.2.2.1; omega)))

theorem j_remove {nm : String} {T : List (Nat × Nat × Nat × Nat)} {w : am_w} {h : AH} {o n out b : Nat} {len i : Int} {g : Int → Int} {Q : RV → AH → Prop} (J : JI w h o n out) (S : SKR h b o len g i) (kk : ∀ h1, JI w h1 o n out → JG o h h1 → AQ w (mL nm T) 24 1582 [(0, vr b), (1, vr o), (2, vr n), (3, vr out), (4, vi i)] [] h1 Q) : AQ w (mL nm T) 24 1499 [(0, vr b), (1, vr o), (2, vr n), (3, vr out), (4, vi i)] [] h Q := by
  obtain ⟨D, cm, sc, L, tx, bl, le, Hs, f, th, ud, bf, rw, J, M, B, C, H⟩ := J
  obtain ⟨⟨G, s0⟩, bo, i0, i1, l1, hg⟩ := id S
  refine q_blk (lv2 := [(0, vr b), (1, vr o), (2, vr n), (3, vr out), (4, vi i)]) (st2 := [vi (i + 1), vr b, vr o]) kL_law_1499 rfl ?_
  refine q_ia eL_law_1505 s0 (Or.inr rfl) (by omega) (by omega) rfl ?_
  refine q_blk (lv2 := [(0, vr b), (1, vr o), (2, vr n), (3, vr out), (4, vi i)]) (st2 := [vr out, vi (g (i + 1)), vr o]) kL_law_1506 rfl ?_
  refine AQ.callWi (av := [vr o, vi (g (i + 1)), vr out]) (st := []) (c_L_remove (c_X8_remove J.1 (hg _)) J.1.ob (fun z h1 q => by obtain ⟨_, _, _, _, _, gg⟩ := q; exact (gg.2 _ J.2.2.1.2.2 (by have := J.2.2.1; omega)).trans J.2.1) (fun k h1 q => by have q := q.1; simp only [gA_p, gA_k, gA_xy, gA_c, gA_z, gA_pl, gA_pol, gA_cnt, gA_sto, gm_F, gA_f, Sum.inr.injEq, reduceCtorEq, and_false, or_false, false_or, exists_const, exists_false] at q; omega)) lk_L_remove (by decide) rfl rfl (Nat.le_of_ble_eq_true rfl) eL_law_1507 (fun z1 h1 p1 => ?_)
  obtain ⟨j1, M1, g1⟩ := J.ch (C := fun _ => 1) (GR := fun v D2 c2 => v = gm_sm (gm_nf c2) (D2 2).toNat ∧ D2 = gm_drP D (g (i + 1))) M (fun pr v D2 c2 q => by obtain ⟨_, rfl⟩ := q; exact J.gv.drP J.vd pr.1 pr.2) p1
  obtain ⟨G1, s1⟩ := (S.go g1).1
  refine q_blk (lv2 := [(0, vr b), (1, vr o), (2, vr n), (3, vr out), (4, vi i), (5, vi z1)]) (st2 := [vi (i + 1), vr b, vr n]) kL_law_1510 rfl ?_
  refine q_ia eL_law_1518 s1 (Or.inr rfl) (by omega) (by omega) rfl ?_
  refine AQ.callVi (av := [vi (g (i + 1))]) (st := []) (c_X9_remove M1 J.vd H.u J.ms (hg _)) lk_RL_167 (by decide) rfl rfl M1.ob ⟨_, rfl, rfl⟩ (Nat.le_of_ble_eq_true rfl) eL_law_1519 (fun z2 h2 p2 => ?_)
  obtain ⟨th2, ud2, rw2, E, f2, M2, J2, fr, ho, cp⟩ := J.chg (C := fun _ => 1) (GR := fun v D2 c2 => v = gm_sm (gm_nf c2) (D2 2).toNat ∧ D2 = gm_drP D (g (i + 1))) B C H (UN.p fun _ => UN.F) (fun pr k q => by simp only [gA_p, gA_k, gA_xy, gA_pl, gm_F, gA_f, Sum.inr.injEq, reduceCtorEq, and_false, or_false, false_or] at q; omega) (fun _ => rfl) (fun k => by (repeat (first | split | decide))) (fun v v2 D2 E2 c c2 q q2 => q.2.trans q2.2.symm) (fun v v2 D2 c c2 q q2 hc hc2 hd => q.1.trans ((gm_nf_one hc hc2 hd).trans q2.1.symm)) j1 p2
  refine q_blk (lv2 := [(0, vr b), (1, vr o), (2, vr n), (3, vr out), (4, vi i), (5, vi z1), (6, vi z2)]) (st2 := [vr n]) kL_law_1522 rfl ?_
  refine q_Vi (av := []) (st := []) (c_X9_thrown M2) lk_RL_96 (by decide) rfl rfl M2.ob ⟨_, rfl, rfl⟩ (Nat.le_of_ble_eq_true rfl) eL_law_1525 (fun z3 e3 => ?_)
  subst e3
  exact jt kL_law_1528 eL_law_1530 kL_law_1535 eL_law_1537 kL_law_1540 eL_law_1542 kL_law_1543 eL_law_1545 eL_law_1546 eL_law_1547 eL_law_1552 (by decide) ho cp (kk h2 J2 (g1.fr fr (by have := J.2.2.1; omega)))
